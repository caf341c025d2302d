/-! ===== the reference: lines ===== -/
theorem chS : ∀ c : Fin 128, vp_nar .char (((nI c.1).toUInt32 % 65536).toInt32) = nI c.1 := by decide +kernel
/-- signs laid behind one another -/
def wrl (f : Nat → Int32) : Nat → List Nat → (Nat → Int32)
  | _, [] => f
  | n, c :: l => wrl (upd f n (nI c)) (n + 1) l
theorem wrl_app {f : Nat → Int32} : ∀ {l m : List Nat} {n : Nat}, wrl f n (l ++ m) = wrl (wrl f n l) (n + l.length) m
  | [], m, n => rfl
  | c :: l, m, n => by
    show wrl (upd f n (nI c)) (n + 1) (l ++ m) = wrl (wrl (upd f n (nI c)) (n + 1) l) (n + (l.length + 1)) m
    rw [wrl_app, show n + 1 + l.length = n + (l.length + 1) by omega]
/-- the figures of a number -/
def dig (k : Nat) : List Nat := (if 99 < k then [48 + k / 100] else []) ++ ((if 9 < k then [48 + k / 10 % 10] else []) ++ [48 + k % 10])
theorem dig_len (k : Nat) : (dig k).length ≤ 3 := by
  unfold dig
  simp only [List.length_append, List.length_cons, List.length_nil]
  split <;> split <;> simp
/-- the world of the reference with signs l written from n0 on -/
abbrev mwl (N : nT) (n0 : Nat) (f : Nat → Int32) (l : List Nat) : xW := mw ((N.s_sn (wrl f n0 l)).s_sm (nI (n0 + l.length)))
section NN
variable {G : gT}
set_option maxRecDepth 20000 in
theorem md_writes (hg : gOK G) (N : nT) (n c : Nat) (hn : N.sm = nI n) (hn8 : n < 80) (hc : c < 128) : Spec G 1 0 0 m_X9_writes [.ref 0, .int (nI c)] (mw N) (fun v w' => v = none ∧ w' = mw ((N.s_sn (upd N.sn n (nI c))).s_sm (nI (n + 1)))) NX := by
  have e := chS ⟨c, hc⟩
  simp only at e
  refine wp_spec (M := M_X9_writes) hg ok_X9_writes cut0 60 rfl rfl ?_
  repeat' (first | refine And.intro ?_ ?_ | (with_reducible intro h9; exact absurd h9 (by simp only [cI, cN]; decide +kernel)) | with_reducible intro _ | exact (rfl : narrow _ _ = _) | decide | (unfold vp_in; decide))
  · rw [hn, vinI (by omega)]; omega
  · rw [hn, nI_clamp (by omega), e, iK1, nI_add]
    rfl
set_option maxRecDepth 20000 in
theorem md_wrN (hg : gOK G) (N : nT) (n k : Nat) (hn : N.sm = nI n) (hn8 : n + 3 ≤ 80) (hk : k < 1000) : Spec G 2 0 0 m_X9_writesNumber [.ref 0, .int (nI k)] (mw N) (fun v w' => v = none ∧ w' = mw ((N.s_sn (wrl N.sn n (dig k))).s_sm (nI (n + (dig k).length)))) NX := by
  have e1 : nI 48 + nI k / nI 100 = nI (48 + k / 100) := by rw [pk_div (by omega) (by omega) (by omega), nI_add]
  have r10 : ∀ x, x < 1000 → nI x - nI x / nI 10 * nI 10 = nI (x % 10) := fun x hx => by
    rw [pk_div (by omega) (by omega) (by omega), pk_mul, pk_sub (by omega)]
    congr 1
    omega
  have e2 : nI 48 + (nI k / nI 10 - nI k / nI 10 / nI 10 * nI 10) = nI (48 + k / 10 % 10) := by rw [pk_div (by omega) (by omega) (by omega), r10 _ (by omega), nI_add]
  have e3 : nI 48 + (nI k - nI k / nI 10 * nI 10) = nI (48 + k % 10) := by rw [r10 _ (by omega), nI_add]
  have z10 : ¬ (Int8.ofInt 10).toInt32 = 0 := by decide
  have z100 : ¬ (Int8.ofInt 100).toInt32 = 0 := by decide
  rcases Nat.lt_or_ge 99 k with h99 | h99
  · have ed : dig k = [48 + k / 100, 48 + k / 10 % 10, 48 + k % 10] := by
      unfold dig
      rw [if_pos h99, if_pos (by omega)]
      rfl
    rw [ed]
    refine wp_spec (M := M_X9_writesNumber) hg ok_X9_writesNumber cut0 60 rfl rfl ?_
    repeat' (first | refine And.intro ?_ ?_ | (with_reducible intro h9; exact absurd h9 (by simp only [cI, cN]; decide +kernel)) | with_reducible intro _ | exact (rfl : narrow _ _ = _) | decide | (unfold vp_in; decide))
    all_goals try (exfalso; simp (discharger := omega) only [cI, cN, ← nI_0, nI_ltI, nI_leI, nI_eq, nI_add, pk_mul, pk_sub, nI_clamp, vinI, not_true_eq_false, not_false_eq_true, iK0, iK1, iK2, iK3, iK4, iK5, iKm1, bK6, bK7, bK8, bK9, bK10, bK12, bK14, bK15, bK16, bK20, bK21, bK26, bK30, bK32, bK33, bK45, bK48, bK57, bK59, bK60, bK62, bK63, bK64, bK80, bK93, bK98, bK99, bK100, bK104, bK107, bK109, bK110, bK112, bK113, bK114, bK115, bK116, bK119, sK255, sK256, sK500, sK700, sK798, sK912, sK1400, sK2000] at * <;> first | done | omega)
    all_goals try first | exact z10 | exact z100
    refine cc0 [0, 1, 2, 3, 4, 5, 6, 7, 8] (md_writes hg N n (48 + k / 100) hn (by omega) (by omega)) (by decide) (by decide) (by decide) rfl (by repeat' (first | exact trivial | refine And.intro ?_ ?_ | rfl)) (by first | rfl | (simp (discharger := omega) only [renVs, renV, rnI, e1, cI, cN, ← nI_0, nI_ltI, nI_leI, nI_eq, nI_add, pk_mul, pk_sub, nI_clamp, vinI, not_true_eq_false, not_false_eq_true, iK0, iK1, iK2, iK3, iK4, iK5, iKm1, bK6, bK7, bK8, bK9, bK10, bK12, bK14, bK15, bK16, bK20, bK21, bK26, bK30, bK32, bK33, bK45, bK48, bK57, bK59, bK60, bK62, bK63, bK64, bK80, bK93, bK98, bK99, bK100, bK104, bK107, bK109, bK110, bK112, bK113, bK114, bK115, bK116, bK119, sK255, sK256, sK500, sK700, sK798, sK912, sK1400, sK2000])) ?_
    (rintro _ _ ⟨rfl, rfl⟩) <;> (repeat' (first | refine And.intro ?_ ?_ | (with_reducible intro h9; exact absurd h9 (by simp only [cI, cN]; decide +kernel)) | with_reducible intro _ | exact (rfl : narrow _ _ = _) | decide | (unfold vp_in; decide)))
    all_goals try (exfalso; simp (discharger := omega) only [cI, cN, ← nI_0, nI_ltI, nI_leI, nI_eq, nI_add, pk_mul, pk_sub, nI_clamp, vinI, not_true_eq_false, not_false_eq_true, iK0, iK1, iK2, iK3, iK4, iK5, iKm1, bK6, bK7, bK8, bK9, bK10, bK12, bK14, bK15, bK16, bK20, bK21, bK26, bK30, bK32, bK33, bK45, bK48, bK57, bK59, bK60, bK62, bK63, bK64, bK80, bK93, bK98, bK99, bK100, bK104, bK107, bK109, bK110, bK112, bK113, bK114, bK115, bK116, bK119, sK255, sK256, sK500, sK700, sK798, sK912, sK1400, sK2000] at * <;> first | done | omega)
    all_goals try first | exact z10 | exact z100
    refine cc0 [0, 1, 2, 3, 4, 5, 6, 7, 8] (md_writes hg _ (n + 1) (48 + k / 10 % 10) rfl (by omega) (by omega)) (by decide) (by decide) (by decide) rfl (by repeat' (first | exact trivial | refine And.intro ?_ ?_ | rfl)) (by first | rfl | (simp (discharger := omega) only [renVs, renV, rnI, e2, cI, cN, ← nI_0, nI_ltI, nI_leI, nI_eq, nI_add, pk_mul, pk_sub, nI_clamp, vinI, not_true_eq_false, not_false_eq_true, iK0, iK1, iK2, iK3, iK4, iK5, iKm1, bK6, bK7, bK8, bK9, bK10, bK12, bK14, bK15, bK16, bK20, bK21, bK26, bK30, bK32, bK33, bK45, bK48, bK57, bK59, bK60, bK62, bK63, bK64, bK80, bK93, bK98, bK99, bK100, bK104, bK107, bK109, bK110, bK112, bK113, bK114, bK115, bK116, bK119, sK255, sK256, sK500, sK700, sK798, sK912, sK1400, sK2000])) ?_
    (rintro _ _ ⟨rfl, rfl⟩) <;> (repeat' (first | refine And.intro ?_ ?_ | (with_reducible intro h9; exact absurd h9 (by simp only [cI, cN]; decide +kernel)) | with_reducible intro _ | exact (rfl : narrow _ _ = _) | decide | (unfold vp_in; decide)))
    all_goals try first | exact z10 | exact z100
    refine cc0 [0, 1, 2, 3, 4, 5, 6, 7, 8] (md_writes hg _ (n + 1 + 1) (48 + k % 10) rfl (by omega) (by omega)) (by decide) (by decide) (by decide) rfl (by repeat' (first | exact trivial | refine And.intro ?_ ?_ | rfl)) (by first | rfl | (simp (discharger := omega) only [renVs, renV, rnI, e3, cI, cN, ← nI_0, nI_ltI, nI_leI, nI_eq, nI_add, pk_mul, pk_sub, nI_clamp, vinI, not_true_eq_false, not_false_eq_true, iK0, iK1, iK2, iK3, iK4, iK5, iKm1, bK6, bK7, bK8, bK9, bK10, bK12, bK14, bK15, bK16, bK20, bK21, bK26, bK30, bK32, bK33, bK45, bK48, bK57, bK59, bK60, bK62, bK63, bK64, bK80, bK93, bK98, bK99, bK100, bK104, bK107, bK109, bK110, bK112, bK113, bK114, bK115, bK116, bK119, sK255, sK256, sK500, sK700, sK798, sK912, sK1400, sK2000])) ?_
    (rintro _ _ ⟨rfl, rfl⟩) <;> (repeat' (first | refine And.intro ?_ ?_ | (with_reducible intro h9; exact absurd h9 (by simp only [cI, cN]; decide +kernel)) | with_reducible intro _ | exact (rfl : narrow _ _ = _) | decide | (unfold vp_in; decide)))
    all_goals rfl
  · rcases Nat.lt_or_ge 9 k with h9 | h9
    · have ed : dig k = [48 + k / 10 % 10, 48 + k % 10] := by
        unfold dig
        rw [if_neg (by omega), if_pos h9]
        rfl
      rw [ed]
      refine wp_spec (M := M_X9_writesNumber) hg ok_X9_writesNumber cut0 60 rfl rfl ?_
      repeat' (first | refine And.intro ?_ ?_ | (with_reducible intro h9; exact absurd h9 (by simp only [cI, cN]; decide +kernel)) | with_reducible intro _ | exact (rfl : narrow _ _ = _) | decide | (unfold vp_in; decide))
      all_goals try (exfalso; simp (discharger := omega) only [cI, cN, ← nI_0, nI_ltI, nI_leI, nI_eq, nI_add, pk_mul, pk_sub, nI_clamp, vinI, not_true_eq_false, not_false_eq_true, iK0, iK1, iK2, iK3, iK4, iK5, iKm1, bK6, bK7, bK8, bK9, bK10, bK12, bK14, bK15, bK16, bK20, bK21, bK26, bK30, bK32, bK33, bK45, bK48, bK57, bK59, bK60, bK62, bK63, bK64, bK80, bK93, bK98, bK99, bK100, bK104, bK107, bK109, bK110, bK112, bK113, bK114, bK115, bK116, bK119, sK255, sK256, sK500, sK700, sK798, sK912, sK1400, sK2000] at * <;> first | done | omega)
      all_goals try first | exact z10 | exact z100
      refine cc0 [0, 1, 2, 3, 4, 5, 6, 7, 8] (md_writes hg N n (48 + k / 10 % 10) hn (by omega) (by omega)) (by decide) (by decide) (by decide) rfl (by repeat' (first | exact trivial | refine And.intro ?_ ?_ | rfl)) (by first | rfl | (simp (discharger := omega) only [renVs, renV, rnI, e2, cI, cN, ← nI_0, nI_ltI, nI_leI, nI_eq, nI_add, pk_mul, pk_sub, nI_clamp, vinI, not_true_eq_false, not_false_eq_true, iK0, iK1, iK2, iK3, iK4, iK5, iKm1, bK6, bK7, bK8, bK9, bK10, bK12, bK14, bK15, bK16, bK20, bK21, bK26, bK30, bK32, bK33, bK45, bK48, bK57, bK59, bK60, bK62, bK63, bK64, bK80, bK93, bK98, bK99, bK100, bK104, bK107, bK109, bK110, bK112, bK113, bK114, bK115, bK116, bK119, sK255, sK256, sK500, sK700, sK798, sK912, sK1400, sK2000])) ?_
      (rintro _ _ ⟨rfl, rfl⟩) <;> (repeat' (first | refine And.intro ?_ ?_ | (with_reducible intro h9; exact absurd h9 (by simp only [cI, cN]; decide +kernel)) | with_reducible intro _ | exact (rfl : narrow _ _ = _) | decide | (unfold vp_in; decide)))
      all_goals try first | exact z10 | exact z100
      refine cc0 [0, 1, 2, 3, 4, 5, 6, 7, 8] (md_writes hg _ (n + 1) (48 + k % 10) rfl (by omega) (by omega)) (by decide) (by decide) (by decide) rfl (by repeat' (first | exact trivial | refine And.intro ?_ ?_ | rfl)) (by first | rfl | (simp (discharger := omega) only [renVs, renV, rnI, e3, cI, cN, ← nI_0, nI_ltI, nI_leI, nI_eq, nI_add, pk_mul, pk_sub, nI_clamp, vinI, not_true_eq_false, not_false_eq_true, iK0, iK1, iK2, iK3, iK4, iK5, iKm1, bK6, bK7, bK8, bK9, bK10, bK12, bK14, bK15, bK16, bK20, bK21, bK26, bK30, bK32, bK33, bK45, bK48, bK57, bK59, bK60, bK62, bK63, bK64, bK80, bK93, bK98, bK99, bK100, bK104, bK107, bK109, bK110, bK112, bK113, bK114, bK115, bK116, bK119, sK255, sK256, sK500, sK700, sK798, sK912, sK1400, sK2000])) ?_
      (rintro _ _ ⟨rfl, rfl⟩) <;> (repeat' (first | refine And.intro ?_ ?_ | (with_reducible intro h9; exact absurd h9 (by simp only [cI, cN]; decide +kernel)) | with_reducible intro _ | exact (rfl : narrow _ _ = _) | decide | (unfold vp_in; decide)))
      all_goals rfl
    · have ed : dig k = [48 + k % 10] := by
        unfold dig
        rw [if_neg (by omega), if_neg (by omega)]
        rfl
      rw [ed]
      refine wp_spec (M := M_X9_writesNumber) hg ok_X9_writesNumber cut0 60 rfl rfl ?_
      repeat' (first | refine And.intro ?_ ?_ | (with_reducible intro h9; exact absurd h9 (by simp only [cI, cN]; decide +kernel)) | with_reducible intro _ | exact (rfl : narrow _ _ = _) | decide | (unfold vp_in; decide))
      all_goals try (exfalso; simp (discharger := omega) only [cI, cN, ← nI_0, nI_ltI, nI_leI, nI_eq, nI_add, pk_mul, pk_sub, nI_clamp, vinI, not_true_eq_false, not_false_eq_true, iK0, iK1, iK2, iK3, iK4, iK5, iKm1, bK6, bK7, bK8, bK9, bK10, bK12, bK14, bK15, bK16, bK20, bK21, bK26, bK30, bK32, bK33, bK45, bK48, bK57, bK59, bK60, bK62, bK63, bK64, bK80, bK93, bK98, bK99, bK100, bK104, bK107, bK109, bK110, bK112, bK113, bK114, bK115, bK116, bK119, sK255, sK256, sK500, sK700, sK798, sK912, sK1400, sK2000] at * <;> first | done | omega)
      all_goals try first | exact z10 | exact z100
      refine cc0 [0, 1, 2, 3, 4, 5, 6, 7, 8] (md_writes hg N n (48 + k % 10) hn (by omega) (by omega)) (by decide) (by decide) (by decide) rfl (by repeat' (first | exact trivial | refine And.intro ?_ ?_ | rfl)) (by first | rfl | (simp (discharger := omega) only [renVs, renV, rnI, e3, cI, cN, ← nI_0, nI_ltI, nI_leI, nI_eq, nI_add, pk_mul, pk_sub, nI_clamp, vinI, not_true_eq_false, not_false_eq_true, iK0, iK1, iK2, iK3, iK4, iK5, iKm1, bK6, bK7, bK8, bK9, bK10, bK12, bK14, bK15, bK16, bK20, bK21, bK26, bK30, bK32, bK33, bK45, bK48, bK57, bK59, bK60, bK62, bK63, bK64, bK80, bK93, bK98, bK99, bK100, bK104, bK107, bK109, bK110, bK112, bK113, bK114, bK115, bK116, bK119, sK255, sK256, sK500, sK700, sK798, sK912, sK1400, sK2000])) ?_
      (rintro _ _ ⟨rfl, rfl⟩) <;> (repeat' (first | refine And.intro ?_ ?_ | (with_reducible intro h9; exact absurd h9 (by simp only [cI, cN]; decide +kernel)) | with_reducible intro _ | exact (rfl : narrow _ _ = _) | decide | (unfold vp_in; decide)))
      all_goals rfl
set_option maxRecDepth 20000 in
theorem mo_char (hg : gOK G) (N : nT) (n : Nat) (hn : N.sm = nI n) (hn6 : n ≤ 80) (hch : ∀ q, q < n → ∃ z, z < 65536 ∧ N.sn q = nI z) (x : Int32) : Spec G 2 0 0 m_X9_character [.ref 0, .int x] (mw N) (fun v w' =>
    (¬ hasP x n ∧ nRef N 1 v w') ∨
    (∃ i, i < n ∧ x = nI i ∧ v = some (.int (N.sn i)) ∧ w' = mw (N.s_co (nI 0)))) NX := by
  refine wp_spec (M := M_X9_character) hg ok_X9_character cut0 60 rfl rfl ?_
  repeat' (first | refine And.intro ?_ ?_ | (with_reducible intro h9; exact absurd h9 (by simp only [cI, cN]; decide +kernel)) | with_reducible intro _ | exact (rfl : narrow _ _ = _) | decide | (unfold vp_in; decide))
  refine cc0 [] (md_in hg x (nI 0) (N.sm - nI 1)) (by decide) (by decide) (by decide) rfl (by repeat' (first | exact trivial | refine And.intro ?_ ?_ | rfl)) (by first | rfl | (simp (discharger := omega) only [renVs, renV, rnI, cI, cN, ← nI_0, nI_ltI, nI_leI, nI_eq, nI_add, pk_mul, pk_sub, nI_clamp, vinI, not_true_eq_false, not_false_eq_true, iK0, iK1, iK2, iK3, iK4, iK5, iKm1, bK6, bK7, bK8, bK9, bK10, bK12, bK14, bK15, bK16, bK20, bK21, bK26, bK30, bK32, bK33, bK45, bK48, bK57, bK59, bK60, bK62, bK63, bK64, bK80, bK93, bK98, bK99, bK100, bK104, bK107, bK109, bK110, bK112, bK113, bK114, bK115, bK116, bK119, sK255, sK256, sK500, sK700, sK798, sK912, sK1400, sK2000])) ?_
  (rintro _ _ ⟨⟨rfl, q⟩ | ⟨rfl, q⟩, rfl⟩) <;> (repeat' (first | refine And.intro ?_ ?_ | (with_reducible intro h9; exact absurd h9 (by simp only [cI, cN]; decide +kernel)) | with_reducible intro _ | exact (rfl : narrow _ _ = _) | decide | (unfold vp_in; decide)))
  · rw [hn, hasP_iff (by omega)] at q
    obtain ⟨i, hi, rfl⟩ := q
    obtain ⟨z, hz, ez⟩ := hch i hi
    refine cc0 [0, 1, 2, 3, 4, 5, 6, 7, 8] (md_f0 hg N) (by decide) (by decide) (by decide) rfl (by repeat' (first | exact trivial | refine And.intro ?_ ?_ | rfl)) (by first | rfl | (simp (discharger := omega) only [renVs, renV, rnI, cI, cN, ← nI_0, nI_ltI, nI_leI, nI_eq, nI_add, pk_mul, pk_sub, nI_clamp, vinI, not_true_eq_false, not_false_eq_true, iK0, iK1, iK2, iK3, iK4, iK5, iKm1, bK6, bK7, bK8, bK9, bK10, bK12, bK14, bK15, bK16, bK20, bK21, bK26, bK30, bK32, bK33, bK45, bK48, bK57, bK59, bK60, bK62, bK63, bK64, bK80, bK93, bK98, bK99, bK100, bK104, bK107, bK109, bK110, bK112, bK113, bK114, bK115, bK116, bK119, sK255, sK256, sK500, sK700, sK798, sK912, sK1400, sK2000])) ?_
    (rintro _ _ ⟨rfl, rfl⟩) <;> (repeat' (first | refine And.intro ?_ ?_ | (with_reducible intro h9; exact absurd h9 (by simp only [cI, cN]; decide +kernel)) | with_reducible intro _ | exact (rfl : narrow _ _ = _) | decide | (unfold vp_in; decide)))
    · rw [vinI (by omega)]; omega
    · rw [nI_clamp (by omega), show (N.s_co (nI 0)).sn i = nI z from ez]
      exact (pk_charN hz).1
    · rw [nI_clamp (by omega)]
      exact Or.inr ⟨i, hi, rfl, rfl, rfl⟩
  · rw [hn, hasP_iff (by omega)] at q
    refine cc0 [0, 1, 2, 3, 4, 5, 6, 7, 8] (md_f1 hg N) (by decide) (by decide) (by decide) rfl (by repeat' (first | exact trivial | refine And.intro ?_ ?_ | rfl)) (by first | rfl | (simp (discharger := omega) only [renVs, renV, rnI, cI, cN, ← nI_0, nI_ltI, nI_leI, nI_eq, nI_add, pk_mul, pk_sub, nI_clamp, vinI, not_true_eq_false, not_false_eq_true, iK0, iK1, iK2, iK3, iK4, iK5, iKm1, bK6, bK7, bK8, bK9, bK10, bK12, bK14, bK15, bK16, bK20, bK21, bK26, bK30, bK32, bK33, bK45, bK48, bK57, bK59, bK60, bK62, bK63, bK64, bK80, bK93, bK98, bK99, bK100, bK104, bK107, bK109, bK110, bK112, bK113, bK114, bK115, bK116, bK119, sK255, sK256, sK500, sK700, sK798, sK912, sK1400, sK2000])) ?_
    (rintro _ _ ⟨rfl, rfl⟩) <;> (repeat' (first | refine And.intro ?_ ?_ | (with_reducible intro h9; exact absurd h9 (by simp only [cI, cN]; decide +kernel)) | with_reducible intro _ | exact (rfl : narrow _ _ = _) | decide | (unfold vp_in; decide)))
    exact Or.inl ⟨q, rfl, _, rfl⟩
set_option maxRecDepth 20000 in
theorem mo_line_l (hg : gOK G) (N : nT) (i cr : Nat) (hi : i < 12) (hc : N.b i 5 = nI cr) (hc9 : cr ≤ 9) (f : Nat → Int32) (n : Nat) (hn : n + 9 ≤ 70) {K : Option Value → xW → Prop} {KX : Nat → xW → Prop} (hK : K (some (.int (nI (n + cr)))) (mw ((N.s_sn (wrl f n (List.replicate cr 33))).s_sm (nI (n + cr))))) : ∀ (c k : Nat) (hk : k ≤ cr) (hcc : cr - k = c),
    AW G M_X9_line 3 0 0 83 [some (.ref 0), some (.int (nI i)), some (.int (nI k))] [] (mw ((N.s_sn (wrl f n (List.replicate k 33))).s_sm (nI (n + k)))) K KX := by
  intro c
  induction c using Nat.strongRecOn with | ind c ih => ?_
  intro k hk hcc
  have sp := md_of hg ((N.s_sn (wrl f n (List.replicate k 33))).s_sm (nI (n + k))) i 5 hi (by omega)
  rw [show ((N.s_sn (wrl f n (List.replicate k 33))).s_sm (nI (n + k))).b i 5 = nI cr from hc] at sp
  refine wp_ok (M := M_X9_line) hg ok_X9_line (lkp [(83, [true, true, true])]) 60 _ _ _ _ _ _ ?_
  repeat' (first | refine And.intro ?_ ?_ | (with_reducible intro h9; exact absurd h9 (by simp only [cI, cN]; decide +kernel)) | with_reducible intro _ | exact (rfl : narrow _ _ = _) | decide | (unfold vp_in; decide))
  refine cc0 [0, 1, 2, 3, 4, 5, 6, 7, 8] (sp) (by decide) (by decide) (by decide) rfl (by repeat' (first | exact trivial | refine And.intro ?_ ?_ | rfl)) (by first | rfl | (simp (discharger := omega) only [renVs, renV, rnI, cI, cN, ← nI_0, nI_ltI, nI_leI, nI_eq, nI_add, pk_mul, pk_sub, nI_clamp, vinI, not_true_eq_false, not_false_eq_true, iK0, iK1, iK2, iK3, iK4, iK5, iKm1, bK6, bK7, bK8, bK9, bK10, bK12, bK14, bK15, bK16, bK20, bK21, bK26, bK30, bK32, bK33, bK45, bK48, bK57, bK59, bK60, bK62, bK63, bK64, bK80, bK93, bK98, bK99, bK100, bK104, bK107, bK109, bK110, bK112, bK113, bK114, bK115, bK116, bK119, sK255, sK256, sK500, sK700, sK798, sK912, sK1400, sK2000])) ?_
  (rintro _ _ ⟨rfl, rfl⟩) <;> (repeat' (first | refine And.intro ?_ ?_ | (with_reducible intro h9; exact absurd h9 (by simp only [cI, cN]; decide +kernel)) | with_reducible intro _ | exact (rfl : narrow _ _ = _) | decide | (unfold vp_in; decide)))
  · rename_i g
    simp (discharger := omega) only [cI, nI_leI] at g
    have : k = cr := by omega
    subst this
    exact hK
  · rename_i g
    simp (discharger := omega) only [cN, nI_leI] at g
    refine cc0 [0, 1, 2, 3, 4, 5, 6, 7, 8] (md_writes hg ((N.s_sn (wrl f n (List.replicate k 33))).s_sm (nI (n + k))) (n + k) 33 rfl (by omega) (by omega)) (by decide) (by decide) (by decide) rfl (by repeat' (first | exact trivial | refine And.intro ?_ ?_ | rfl)) (by first | rfl | (simp (discharger := omega) only [renVs, renV, rnI, cI, cN, ← nI_0, nI_ltI, nI_leI, nI_eq, nI_add, pk_mul, pk_sub, nI_clamp, vinI, not_true_eq_false, not_false_eq_true, iK0, iK1, iK2, iK3, iK4, iK5, iKm1, bK6, bK7, bK8, bK9, bK10, bK12, bK14, bK15, bK16, bK20, bK21, bK26, bK30, bK32, bK33, bK45, bK48, bK57, bK59, bK60, bK62, bK63, bK64, bK80, bK93, bK98, bK99, bK100, bK104, bK107, bK109, bK110, bK112, bK113, bK114, bK115, bK116, bK119, sK255, sK256, sK500, sK700, sK798, sK912, sK1400, sK2000])) ?_
    (rintro _ _ ⟨rfl, rfl⟩) <;> (repeat' (first | refine And.intro ?_ ?_ | (with_reducible intro h9; exact absurd h9 (by simp only [cI, cN]; decide +kernel)) | with_reducible intro _ | exact (rfl : narrow _ _ = _) | decide | (unfold vp_in; decide)))
    refine AW.cg (ih _ (by omega) (k + 1) (by omega) rfl) rfl rfl rfl (by first | rfl | (simp (discharger := omega) only [msk, clr_i, clr_r, cI, cN, ← nI_0, nI_ltI, nI_leI, nI_eq, nI_add, pk_mul, pk_sub, nI_clamp, vinI, not_true_eq_false, not_false_eq_true, iK0, iK1, iK2, iK3, iK4, iK5, iKm1, bK6, bK7, bK8, bK9, bK10, bK12, bK14, bK15, bK16, bK20, bK21, bK26, bK30, bK32, bK33, bK45, bK48, bK57, bK59, bK60, bK62, bK63, bK64, bK80, bK93, bK98, bK99, bK100, bK104, bK107, bK109, bK110, bK112, bK113, bK114, bK115, bK116, bK119, sK255, sK256, sK500, sK700, sK798, sK912, sK1400, sK2000]; done) | (simp (discharger := omega) only [msk, clr_i, clr_r, cI, cN, ← nI_0, nI_ltI, nI_leI, nI_eq, nI_add, pk_mul, pk_sub, nI_clamp, vinI, not_true_eq_false, not_false_eq_true, iK0, iK1, iK2, iK3, iK4, iK5, iKm1, bK6, bK7, bK8, bK9, bK10, bK12, bK14, bK15, bK16, bK20, bK21, bK26, bK30, bK32, bK33, bK45, bK48, bK57, bK59, bK60, bK62, bK63, bK64, bK80, bK93, bK98, bK99, bK100, bK104, bK107, bK109, bK110, bK112, bK113, bK114, bK115, bK116, bK119, sK255, sK256, sK500, sK700, sK798, sK912, sK1400, sK2000]; rfl)) rfl ?_
    have e : List.replicate (k + 1) 33 = List.replicate k 33 ++ [33] := by
      rw [List.replicate_succ']
    rw [e, wrl_app, List.length_replicate]
    rfl
/-- a bell's line -/
def lnL (g : Nat → Int32) (i z cr : Nat) (r : Option Nat) : List Nat := dig i ++ ([64] ++ ((match r with | none => [104] | some r => dig r) ++ ([110] ++ (dig z ++ List.replicate cr 33))))
set_option maxRecDepth 20000 in
theorem mo_line (hg : gOK G) (N : nT) (nb : Nat) (hb : N.nb nb) (hr : gK N.g nb) (hz : ∀ i, i < nb → ∃ z, z < 1000 ∧ gnote N.g i = nI z) (hcr : ∀ i, i < nb → ∃ c, c ≤ 9 ∧ N.b i 5 = nI c) (x : Int32) : Spec G 3 0 0 m_X9_line [.ref 0, .int x] (mw N) (fun v w' =>
    (¬ hasP x nb ∧ nRef N 1 v w') ∨
    (∃ i z cr r, i < nb ∧ x = nI i ∧ gnote N.g i = nI z ∧ N.b i 5 = nI cr ∧ ((r = none ∧ N.b i 3 = -1) ∨ ∃ r', r = some r' ∧ N.b i 3 = nI r' ∧ r' < 4) ∧ v = some (.int (nI (lnL N.g i z cr r).length)) ∧ w' = mwl (N.s_co (nI 0)) 0 N.sn (lnL N.g i z cr r))) NX := by
  have hb2 := hb.2
  refine wp_spec (M := M_X9_line) hg ok_X9_line (lkp [(83, [true, true, true])]) 60 rfl rfl ?_
  repeat' (first | refine And.intro ?_ ?_ | (with_reducible intro h9; exact absurd h9 (by simp only [cI, cN]; decide +kernel)) | with_reducible intro _ | exact (rfl : narrow _ _ = _) | decide | (unfold vp_in; decide))
  refine cc0 [0, 1, 2, 3, 4, 5, 6, 7, 8] (md_isBell hg N nb hb.1 (by omega) x) (by decide) (by decide) (by decide) rfl (by repeat' (first | exact trivial | refine And.intro ?_ ?_ | rfl)) (by first | rfl | (simp (discharger := omega) only [renVs, renV, rnI, cI, cN, ← nI_0, nI_ltI, nI_leI, nI_eq, nI_add, pk_mul, pk_sub, nI_clamp, vinI, not_true_eq_false, not_false_eq_true, iK0, iK1, iK2, iK3, iK4, iK5, iKm1, bK6, bK7, bK8, bK9, bK10, bK12, bK14, bK15, bK16, bK20, bK21, bK26, bK30, bK32, bK33, bK45, bK48, bK57, bK59, bK60, bK62, bK63, bK64, bK80, bK93, bK98, bK99, bK100, bK104, bK107, bK109, bK110, bK112, bK113, bK114, bK115, bK116, bK119, sK255, sK256, sK500, sK700, sK798, sK912, sK1400, sK2000])) ?_
  (rintro _ _ ⟨⟨rfl, q⟩ | ⟨rfl, q⟩, rfl⟩) <;> (repeat' (first | refine And.intro ?_ ?_ | (with_reducible intro h9; exact absurd h9 (by simp only [cI, cN]; decide +kernel)) | with_reducible intro _ | exact (rfl : narrow _ _ = _) | decide | (unfold vp_in; decide)))
  · obtain ⟨i, hi, rfl⟩ := q
    obtain ⟨z, hz1, hz2⟩ := hz i hi
    obtain ⟨cr, hc1, hc2⟩ := hcr i hi
    have l1 := dig_len i
    have l3 := dig_len z
    refine cc0 [0, 1, 2, 3, 4, 5, 6, 7, 8] (md_f0 hg N) (by decide) (by decide) (by decide) rfl (by repeat' (first | exact trivial | refine And.intro ?_ ?_ | rfl)) (by first | rfl | (simp (discharger := omega) only [renVs, renV, rnI, cI, cN, ← nI_0, nI_ltI, nI_leI, nI_eq, nI_add, pk_mul, pk_sub, nI_clamp, vinI, not_true_eq_false, not_false_eq_true, iK0, iK1, iK2, iK3, iK4, iK5, iKm1, bK6, bK7, bK8, bK9, bK10, bK12, bK14, bK15, bK16, bK20, bK21, bK26, bK30, bK32, bK33, bK45, bK48, bK57, bK59, bK60, bK62, bK63, bK64, bK80, bK93, bK98, bK99, bK100, bK104, bK107, bK109, bK110, bK112, bK113, bK114, bK115, bK116, bK119, sK255, sK256, sK500, sK700, sK798, sK912, sK1400, sK2000])) ?_
    (rintro _ _ ⟨rfl, rfl⟩) <;> (repeat' (first | refine And.intro ?_ ?_ | (with_reducible intro h9; exact absurd h9 (by simp only [cI, cN]; decide +kernel)) | with_reducible intro _ | exact (rfl : narrow _ _ = _) | decide | (unfold vp_in; decide)))
    refine cc0 [0, 1, 2, 3, 4, 5, 6, 7, 8] (md_wrN hg ((N.s_co (nI 0)).s_sm (nI 0)) 0 i rfl (by omega) (by omega)) (by decide) (by decide) (by decide) rfl (by repeat' (first | exact trivial | refine And.intro ?_ ?_ | rfl)) (by first | rfl | (simp (discharger := omega) only [renVs, renV, rnI, cI, cN, ← nI_0, nI_ltI, nI_leI, nI_eq, nI_add, pk_mul, pk_sub, nI_clamp, vinI, not_true_eq_false, not_false_eq_true, iK0, iK1, iK2, iK3, iK4, iK5, iKm1, bK6, bK7, bK8, bK9, bK10, bK12, bK14, bK15, bK16, bK20, bK21, bK26, bK30, bK32, bK33, bK45, bK48, bK57, bK59, bK60, bK62, bK63, bK64, bK80, bK93, bK98, bK99, bK100, bK104, bK107, bK109, bK110, bK112, bK113, bK114, bK115, bK116, bK119, sK255, sK256, sK500, sK700, sK798, sK912, sK1400, sK2000])) ?_
    (rintro _ _ ⟨rfl, rfl⟩) <;> (repeat' (first | refine And.intro ?_ ?_ | (with_reducible intro h9; exact absurd h9 (by simp only [cI, cN]; decide +kernel)) | with_reducible intro _ | exact (rfl : narrow _ _ = _) | decide | (unfold vp_in; decide)))
    refine cc0 [0, 1, 2, 3, 4, 5, 6, 7, 8] (md_writes hg _ (0 + (dig i).length) 64 rfl (by omega) (by omega)) (by decide) (by decide) (by decide) rfl (by repeat' (first | exact trivial | refine And.intro ?_ ?_ | rfl)) (by first | rfl | (simp (discharger := omega) only [renVs, renV, rnI, cI, cN, ← nI_0, nI_ltI, nI_leI, nI_eq, nI_add, pk_mul, pk_sub, nI_clamp, vinI, not_true_eq_false, not_false_eq_true, iK0, iK1, iK2, iK3, iK4, iK5, iKm1, bK6, bK7, bK8, bK9, bK10, bK12, bK14, bK15, bK16, bK20, bK21, bK26, bK30, bK32, bK33, bK45, bK48, bK57, bK59, bK60, bK62, bK63, bK64, bK80, bK93, bK98, bK99, bK100, bK104, bK107, bK109, bK110, bK112, bK113, bK114, bK115, bK116, bK119, sK255, sK256, sK500, sK700, sK798, sK912, sK1400, sK2000])) ?_
    (rintro _ _ ⟨rfl, rfl⟩) <;> (repeat' (first | refine And.intro ?_ ?_ | (with_reducible intro h9; exact absurd h9 (by simp only [cI, cN]; decide +kernel)) | with_reducible intro _ | exact (rfl : narrow _ _ = _) | decide | (unfold vp_in; decide)))
    have fin : ∀ (pre : List Nat) (r : Option Nat) (F : Nat → Int32) (L : Nat), lnL N.g i z cr r = pre ++ List.replicate cr 33 → wrl N.sn 0 pre = F → pre.length = L → L ≤ 15 → ((r = none ∧ N.b i 3 = -1) ∨ ∃ r', r = some r' ∧ N.b i 3 = nI r' ∧ r' < 4) →
        AW G M_X9_line 3 0 0 83 [some (.ref 0), some (.int (nI i)), some (.int (nI 0))] [] (mw (((N.s_co (nI 0)).s_sn F).s_sm (nI L))) (fun v w' =>
    (¬ hasP (nI i) nb ∧ nRef N 1 v w') ∨
    (∃ i1 z cr r, i1 < nb ∧ nI i = nI i1 ∧ gnote N.g i1 = nI z ∧ N.b i1 5 = nI cr ∧ ((r = none ∧ N.b i1 3 = -1) ∨ ∃ r', r = some r' ∧ N.b i1 3 = nI r' ∧ r' < 4) ∧ v = some (.int (nI (lnL N.g i1 z cr r).length)) ∧ w' = mwl (N.s_co (nI 0)) 0 N.sn (lnL N.g i1 z cr r))) NX := by
      intro pre r F L e1 e2 e3 e4 e5
      subst e2 e3
      refine AW.cg (mo_line_l hg (N.s_co (nI 0)) i cr (by omega) hc2 hc1 (wrl N.sn 0 pre) pre.length (by omega) (Or.inr ⟨i, z, cr, r, hi, rfl, hz2, hc2, e5, ?_, ?_⟩) _ 0 (by omega) rfl) rfl rfl rfl rfl rfl rfl
      · rw [e1, List.length_append, List.length_replicate]
      · rw [e1]
        show mw _ = mw _
        rw [wrl_app, List.length_append, List.length_replicate]
        simp only [Nat.zero_add]
    rcases hr i hi with h3 | ⟨r, hr4, h3⟩
    · have h3' : N.g (30 + 7 * i + 3) = -1 := h3
      have sp := fun (f : Nat → Int32) (x : Int32) => md_of hg (((N.s_co (nI 0)).s_sn f).s_sm x) i 3 (by omega) (by omega)
      have sp' : ∀ (f : Nat → Int32) (x : Int32), Spec G 1 0 0 m_X9_of [.ref 0, .int (nI i), .int (nI 3)] (mw (((N.s_co (nI 0)).s_sn f).s_sm x)) (fun v w' => v = some (.int (-1)) ∧ w' = mw (((N.s_co (nI 0)).s_sn f).s_sm x)) NX := fun f x => by
        have := sp f x
        rw [show (((N.s_co (nI 0)).s_sn f).s_sm x).b i 3 = -1 from h3'] at this
        exact this
      have sn' : ∀ (f : Nat → Int32) (x : Int32), Spec G 2 0 0 m_X9_noteOf [.ref 0, .int (nI i)] (mw (((N.s_co (nI 0)).s_sn f).s_sm x)) (fun v w' => v = some (.int (nI z)) ∧ w' = mw (((N.s_co (nI 0)).s_sn f).s_sm x)) NX := fun f x => by
        have := md_note hg (((N.s_co (nI 0)).s_sn f).s_sm x) i (by omega)
        rw [show gnote (((N.s_co (nI 0)).s_sn f).s_sm x).g i = nI z from hz2] at this
        exact this
      refine cc0 [0, 1, 2, 3, 4, 5, 6, 7, 8] (sp' _ _) (by decide) (by decide) (by decide) rfl (by repeat' (first | exact trivial | refine And.intro ?_ ?_ | rfl)) (by first | rfl | (simp (discharger := omega) only [renVs, renV, rnI, cI, cN, ← nI_0, nI_ltI, nI_leI, nI_eq, nI_add, pk_mul, pk_sub, nI_clamp, vinI, not_true_eq_false, not_false_eq_true, iK0, iK1, iK2, iK3, iK4, iK5, iKm1, bK6, bK7, bK8, bK9, bK10, bK12, bK14, bK15, bK16, bK20, bK21, bK26, bK30, bK32, bK33, bK45, bK48, bK57, bK59, bK60, bK62, bK63, bK64, bK80, bK93, bK98, bK99, bK100, bK104, bK107, bK109, bK110, bK112, bK113, bK114, bK115, bK116, bK119, sK255, sK256, sK500, sK700, sK798, sK912, sK1400, sK2000])) ?_
      (rintro _ _ ⟨rfl, rfl⟩) <;> (repeat' (first | refine And.intro ?_ ?_ | (with_reducible intro h9; exact absurd h9 (by simp only [cI, cN]; decide +kernel)) | with_reducible intro _ | exact (rfl : narrow _ _ = _) | decide | (unfold vp_in; decide)))
      refine cc0 [0, 1, 2, 3, 4, 5, 6, 7, 8] (md_writes hg _ (0 + (dig i).length + 1) 104 rfl (by omega) (by omega)) (by decide) (by decide) (by decide) rfl (by repeat' (first | exact trivial | refine And.intro ?_ ?_ | rfl)) (by first | rfl | (simp (discharger := omega) only [renVs, renV, rnI, cI, cN, ← nI_0, nI_ltI, nI_leI, nI_eq, nI_add, pk_mul, pk_sub, nI_clamp, vinI, not_true_eq_false, not_false_eq_true, iK0, iK1, iK2, iK3, iK4, iK5, iKm1, bK6, bK7, bK8, bK9, bK10, bK12, bK14, bK15, bK16, bK20, bK21, bK26, bK30, bK32, bK33, bK45, bK48, bK57, bK59, bK60, bK62, bK63, bK64, bK80, bK93, bK98, bK99, bK100, bK104, bK107, bK109, bK110, bK112, bK113, bK114, bK115, bK116, bK119, sK255, sK256, sK500, sK700, sK798, sK912, sK1400, sK2000])) ?_
      (rintro _ _ ⟨rfl, rfl⟩) <;> (repeat' (first | refine And.intro ?_ ?_ | (with_reducible intro h9; exact absurd h9 (by simp only [cI, cN]; decide +kernel)) | with_reducible intro _ | exact (rfl : narrow _ _ = _) | decide | (unfold vp_in; decide)))
      refine cc0 [0, 1, 2, 3, 4, 5, 6, 7, 8] (md_writes hg _ (0 + (dig i).length + 1 + 1) 110 rfl (by omega) (by omega)) (by decide) (by decide) (by decide) rfl (by repeat' (first | exact trivial | refine And.intro ?_ ?_ | rfl)) (by first | rfl | (simp (discharger := omega) only [renVs, renV, rnI, cI, cN, ← nI_0, nI_ltI, nI_leI, nI_eq, nI_add, pk_mul, pk_sub, nI_clamp, vinI, not_true_eq_false, not_false_eq_true, iK0, iK1, iK2, iK3, iK4, iK5, iKm1, bK6, bK7, bK8, bK9, bK10, bK12, bK14, bK15, bK16, bK20, bK21, bK26, bK30, bK32, bK33, bK45, bK48, bK57, bK59, bK60, bK62, bK63, bK64, bK80, bK93, bK98, bK99, bK100, bK104, bK107, bK109, bK110, bK112, bK113, bK114, bK115, bK116, bK119, sK255, sK256, sK500, sK700, sK798, sK912, sK1400, sK2000])) ?_
      (rintro _ _ ⟨rfl, rfl⟩) <;> (repeat' (first | refine And.intro ?_ ?_ | (with_reducible intro h9; exact absurd h9 (by simp only [cI, cN]; decide +kernel)) | with_reducible intro _ | exact (rfl : narrow _ _ = _) | decide | (unfold vp_in; decide)))
      refine cc0 [0, 1, 2, 3, 4, 5, 6, 7, 8] (sn' _ _) (by decide) (by decide) (by decide) rfl (by repeat' (first | exact trivial | refine And.intro ?_ ?_ | rfl)) (by first | rfl | (simp (discharger := omega) only [renVs, renV, rnI, cI, cN, ← nI_0, nI_ltI, nI_leI, nI_eq, nI_add, pk_mul, pk_sub, nI_clamp, vinI, not_true_eq_false, not_false_eq_true, iK0, iK1, iK2, iK3, iK4, iK5, iKm1, bK6, bK7, bK8, bK9, bK10, bK12, bK14, bK15, bK16, bK20, bK21, bK26, bK30, bK32, bK33, bK45, bK48, bK57, bK59, bK60, bK62, bK63, bK64, bK80, bK93, bK98, bK99, bK100, bK104, bK107, bK109, bK110, bK112, bK113, bK114, bK115, bK116, bK119, sK255, sK256, sK500, sK700, sK798, sK912, sK1400, sK2000])) ?_
      (rintro _ _ ⟨rfl, rfl⟩) <;> (repeat' (first | refine And.intro ?_ ?_ | (with_reducible intro h9; exact absurd h9 (by simp only [cI, cN]; decide +kernel)) | with_reducible intro _ | exact (rfl : narrow _ _ = _) | decide | (unfold vp_in; decide)))
      refine cc0 [0, 1, 2, 3, 4, 5, 6, 7, 8] (md_wrN hg _ (0 + (dig i).length + 1 + 1 + 1) z rfl (by omega) (by omega)) (by decide) (by decide) (by decide) rfl (by repeat' (first | exact trivial | refine And.intro ?_ ?_ | rfl)) (by first | rfl | (simp (discharger := omega) only [renVs, renV, rnI, cI, cN, ← nI_0, nI_ltI, nI_leI, nI_eq, nI_add, pk_mul, pk_sub, nI_clamp, vinI, not_true_eq_false, not_false_eq_true, iK0, iK1, iK2, iK3, iK4, iK5, iKm1, bK6, bK7, bK8, bK9, bK10, bK12, bK14, bK15, bK16, bK20, bK21, bK26, bK30, bK32, bK33, bK45, bK48, bK57, bK59, bK60, bK62, bK63, bK64, bK80, bK93, bK98, bK99, bK100, bK104, bK107, bK109, bK110, bK112, bK113, bK114, bK115, bK116, bK119, sK255, sK256, sK500, sK700, sK798, sK912, sK1400, sK2000])) ?_
      (rintro _ _ ⟨rfl, rfl⟩) <;> (repeat' (first | refine And.intro ?_ ?_ | (with_reducible intro h9; exact absurd h9 (by simp only [cI, cN]; decide +kernel)) | with_reducible intro _ | exact (rfl : narrow _ _ = _) | decide | (unfold vp_in; decide)))
      refine AW.cg (fin (dig i ++ (64 :: 104 :: 110 :: dig z)) none _ _ ?_ (by (rw [wrl_app]) <;> rfl) rfl ?_ (Or.inl ⟨rfl, h3⟩)) rfl rfl rfl (by first | rfl | (simp (discharger := omega) only [msk, clr_i, clr_r, cI, cN, ← nI_0, nI_ltI, nI_leI, nI_eq, nI_add, pk_mul, pk_sub, nI_clamp, vinI, not_true_eq_false, not_false_eq_true, iK0, iK1, iK2, iK3, iK4, iK5, iKm1, bK6, bK7, bK8, bK9, bK10, bK12, bK14, bK15, bK16, bK20, bK21, bK26, bK30, bK32, bK33, bK45, bK48, bK57, bK59, bK60, bK62, bK63, bK64, bK80, bK93, bK98, bK99, bK100, bK104, bK107, bK109, bK110, bK112, bK113, bK114, bK115, bK116, bK119, sK255, sK256, sK500, sK700, sK798, sK912, sK1400, sK2000]; done) | (simp (discharger := omega) only [msk, clr_i, clr_r, cI, cN, ← nI_0, nI_ltI, nI_leI, nI_eq, nI_add, pk_mul, pk_sub, nI_clamp, vinI, not_true_eq_false, not_false_eq_true, iK0, iK1, iK2, iK3, iK4, iK5, iKm1, bK6, bK7, bK8, bK9, bK10, bK12, bK14, bK15, bK16, bK20, bK21, bK26, bK30, bK32, bK33, bK45, bK48, bK57, bK59, bK60, bK62, bK63, bK64, bK80, bK93, bK98, bK99, bK100, bK104, bK107, bK109, bK110, bK112, bK113, bK114, bK115, bK116, bK119, sK255, sK256, sK500, sK700, sK798, sK912, sK1400, sK2000]; rfl)) rfl ?_
      · unfold lnL
        simp only [List.append_assoc, List.cons_append, List.nil_append]
      · simp only [List.length_append, List.length_cons]; omega
      · rw [List.length_append, List.length_cons, List.length_cons, List.length_cons, show (dig i).length + ((dig z).length + 1 + 1 + 1) = 0 + (dig i).length + 1 + 1 + 1 + (dig z).length by omega]
        rfl
    · have h3' : N.g (30 + 7 * i + 3) = nI r := h3
      have l2 := dig_len r
      have l2' : (dig r).length = 1 := by
        unfold dig
        rw [if_neg (by omega), if_neg (by omega)]
        rfl
      have sp' : ∀ (f : Nat → Int32) (x : Int32), Spec G 1 0 0 m_X9_of [.ref 0, .int (nI i), .int (nI 3)] (mw (((N.s_co (nI 0)).s_sn f).s_sm x)) (fun v w' => v = some (.int (nI r)) ∧ w' = mw (((N.s_co (nI 0)).s_sn f).s_sm x)) NX := fun f x => by
        have := md_of hg (((N.s_co (nI 0)).s_sn f).s_sm x) i 3 (by omega) (by omega)
        rw [show (((N.s_co (nI 0)).s_sn f).s_sm x).b i 3 = nI r from h3'] at this
        exact this
      have sn' : ∀ (f : Nat → Int32) (x : Int32), Spec G 2 0 0 m_X9_noteOf [.ref 0, .int (nI i)] (mw (((N.s_co (nI 0)).s_sn f).s_sm x)) (fun v w' => v = some (.int (nI z)) ∧ w' = mw (((N.s_co (nI 0)).s_sn f).s_sm x)) NX := fun f x => by
        have := md_note hg (((N.s_co (nI 0)).s_sn f).s_sm x) i (by omega)
        rw [show gnote (((N.s_co (nI 0)).s_sn f).s_sm x).g i = nI z from hz2] at this
        exact this
      refine cc0 [0, 1, 2, 3, 4, 5, 6, 7, 8] (sp' _ _) (by decide) (by decide) (by decide) rfl (by repeat' (first | exact trivial | refine And.intro ?_ ?_ | rfl)) (by first | rfl | (simp (discharger := omega) only [renVs, renV, rnI, cI, cN, ← nI_0, nI_ltI, nI_leI, nI_eq, nI_add, pk_mul, pk_sub, nI_clamp, vinI, not_true_eq_false, not_false_eq_true, iK0, iK1, iK2, iK3, iK4, iK5, iKm1, bK6, bK7, bK8, bK9, bK10, bK12, bK14, bK15, bK16, bK20, bK21, bK26, bK30, bK32, bK33, bK45, bK48, bK57, bK59, bK60, bK62, bK63, bK64, bK80, bK93, bK98, bK99, bK100, bK104, bK107, bK109, bK110, bK112, bK113, bK114, bK115, bK116, bK119, sK255, sK256, sK500, sK700, sK798, sK912, sK1400, sK2000])) ?_
      (rintro _ _ ⟨rfl, rfl⟩) <;> (repeat' (first | refine And.intro ?_ ?_ | (with_reducible intro h9; exact absurd h9 (by simp only [cI, cN]; decide +kernel)) | with_reducible intro _ | exact (rfl : narrow _ _ = _) | decide | (unfold vp_in; decide)))
      · refine cc0 [0, 1, 2, 3, 4, 5, 6, 7, 8] (sp' _ _) (by decide) (by decide) (by decide) rfl (by repeat' (first | exact trivial | refine And.intro ?_ ?_ | rfl)) (by first | rfl | (simp (discharger := omega) only [renVs, renV, rnI, cI, cN, ← nI_0, nI_ltI, nI_leI, nI_eq, nI_add, pk_mul, pk_sub, nI_clamp, vinI, not_true_eq_false, not_false_eq_true, iK0, iK1, iK2, iK3, iK4, iK5, iKm1, bK6, bK7, bK8, bK9, bK10, bK12, bK14, bK15, bK16, bK20, bK21, bK26, bK30, bK32, bK33, bK45, bK48, bK57, bK59, bK60, bK62, bK63, bK64, bK80, bK93, bK98, bK99, bK100, bK104, bK107, bK109, bK110, bK112, bK113, bK114, bK115, bK116, bK119, sK255, sK256, sK500, sK700, sK798, sK912, sK1400, sK2000])) ?_
        (rintro _ _ ⟨rfl, rfl⟩) <;> (repeat' (first | refine And.intro ?_ ?_ | (with_reducible intro h9; exact absurd h9 (by simp only [cI, cN]; decide +kernel)) | with_reducible intro _ | exact (rfl : narrow _ _ = _) | decide | (unfold vp_in; decide)))
        refine cc0 [0, 1, 2, 3, 4, 5, 6, 7, 8] (md_wrN hg _ (0 + (dig i).length + 1) r rfl (by omega) (by omega)) (by decide) (by decide) (by decide) rfl (by repeat' (first | exact trivial | refine And.intro ?_ ?_ | rfl)) (by first | rfl | (simp (discharger := omega) only [renVs, renV, rnI, cI, cN, ← nI_0, nI_ltI, nI_leI, nI_eq, nI_add, pk_mul, pk_sub, nI_clamp, vinI, not_true_eq_false, not_false_eq_true, iK0, iK1, iK2, iK3, iK4, iK5, iKm1, bK6, bK7, bK8, bK9, bK10, bK12, bK14, bK15, bK16, bK20, bK21, bK26, bK30, bK32, bK33, bK45, bK48, bK57, bK59, bK60, bK62, bK63, bK64, bK80, bK93, bK98, bK99, bK100, bK104, bK107, bK109, bK110, bK112, bK113, bK114, bK115, bK116, bK119, sK255, sK256, sK500, sK700, sK798, sK912, sK1400, sK2000])) ?_
        (rintro _ _ ⟨rfl, rfl⟩) <;> (repeat' (first | refine And.intro ?_ ?_ | (with_reducible intro h9; exact absurd h9 (by simp only [cI, cN]; decide +kernel)) | with_reducible intro _ | exact (rfl : narrow _ _ = _) | decide | (unfold vp_in; decide)))
        refine cc0 [0, 1, 2, 3, 4, 5, 6, 7, 8] (md_writes hg _ (0 + (dig i).length + 1 + (dig r).length) 110 rfl (by omega) (by omega)) (by decide) (by decide) (by decide) rfl (by repeat' (first | exact trivial | refine And.intro ?_ ?_ | rfl)) (by first | rfl | (simp (discharger := omega) only [renVs, renV, rnI, cI, cN, ← nI_0, nI_ltI, nI_leI, nI_eq, nI_add, pk_mul, pk_sub, nI_clamp, vinI, not_true_eq_false, not_false_eq_true, iK0, iK1, iK2, iK3, iK4, iK5, iKm1, bK6, bK7, bK8, bK9, bK10, bK12, bK14, bK15, bK16, bK20, bK21, bK26, bK30, bK32, bK33, bK45, bK48, bK57, bK59, bK60, bK62, bK63, bK64, bK80, bK93, bK98, bK99, bK100, bK104, bK107, bK109, bK110, bK112, bK113, bK114, bK115, bK116, bK119, sK255, sK256, sK500, sK700, sK798, sK912, sK1400, sK2000])) ?_
        (rintro _ _ ⟨rfl, rfl⟩) <;> (repeat' (first | refine And.intro ?_ ?_ | (with_reducible intro h9; exact absurd h9 (by simp only [cI, cN]; decide +kernel)) | with_reducible intro _ | exact (rfl : narrow _ _ = _) | decide | (unfold vp_in; decide)))
        refine cc0 [0, 1, 2, 3, 4, 5, 6, 7, 8] (sn' _ _) (by decide) (by decide) (by decide) rfl (by repeat' (first | exact trivial | refine And.intro ?_ ?_ | rfl)) (by first | rfl | (simp (discharger := omega) only [renVs, renV, rnI, cI, cN, ← nI_0, nI_ltI, nI_leI, nI_eq, nI_add, pk_mul, pk_sub, nI_clamp, vinI, not_true_eq_false, not_false_eq_true, iK0, iK1, iK2, iK3, iK4, iK5, iKm1, bK6, bK7, bK8, bK9, bK10, bK12, bK14, bK15, bK16, bK20, bK21, bK26, bK30, bK32, bK33, bK45, bK48, bK57, bK59, bK60, bK62, bK63, bK64, bK80, bK93, bK98, bK99, bK100, bK104, bK107, bK109, bK110, bK112, bK113, bK114, bK115, bK116, bK119, sK255, sK256, sK500, sK700, sK798, sK912, sK1400, sK2000])) ?_
        (rintro _ _ ⟨rfl, rfl⟩) <;> (repeat' (first | refine And.intro ?_ ?_ | (with_reducible intro h9; exact absurd h9 (by simp only [cI, cN]; decide +kernel)) | with_reducible intro _ | exact (rfl : narrow _ _ = _) | decide | (unfold vp_in; decide)))
        refine cc0 [0, 1, 2, 3, 4, 5, 6, 7, 8] (md_wrN hg _ (0 + (dig i).length + 1 + (dig r).length + 1) z rfl (by omega) (by omega)) (by decide) (by decide) (by decide) rfl (by repeat' (first | exact trivial | refine And.intro ?_ ?_ | rfl)) (by first | rfl | (simp (discharger := omega) only [renVs, renV, rnI, cI, cN, ← nI_0, nI_ltI, nI_leI, nI_eq, nI_add, pk_mul, pk_sub, nI_clamp, vinI, not_true_eq_false, not_false_eq_true, iK0, iK1, iK2, iK3, iK4, iK5, iKm1, bK6, bK7, bK8, bK9, bK10, bK12, bK14, bK15, bK16, bK20, bK21, bK26, bK30, bK32, bK33, bK45, bK48, bK57, bK59, bK60, bK62, bK63, bK64, bK80, bK93, bK98, bK99, bK100, bK104, bK107, bK109, bK110, bK112, bK113, bK114, bK115, bK116, bK119, sK255, sK256, sK500, sK700, sK798, sK912, sK1400, sK2000])) ?_
        (rintro _ _ ⟨rfl, rfl⟩) <;> (repeat' (first | refine And.intro ?_ ?_ | (with_reducible intro h9; exact absurd h9 (by simp only [cI, cN]; decide +kernel)) | with_reducible intro _ | exact (rfl : narrow _ _ = _) | decide | (unfold vp_in; decide)))
        refine AW.cg (fin (dig i ++ (64 :: (dig r ++ (110 :: dig z)))) (some r) _ _ ?_ (show wrl N.sn 0 (dig i ++ (64 :: (dig r ++ (110 :: dig z)))) = wrl (upd (wrl (upd (wrl N.sn 0 (dig i)) (0 + (dig i).length) (nI 64)) (0 + (dig i).length + 1) (dig r)) (0 + (dig i).length + 1 + (dig r).length) (nI 110)) (0 + (dig i).length + 1 + (dig r).length + 1) (dig z) from by
          rw [wrl_app]
          exact wrl_app (f := upd (wrl N.sn 0 (dig i)) (0 + (dig i).length) (nI 64)) (l := dig r) (m := 110 :: dig z) (n := 0 + (dig i).length + 1)) rfl ?_ (Or.inr ⟨r, rfl, h3, hr4⟩)) rfl rfl rfl (by first | rfl | (simp (discharger := omega) only [msk, clr_i, clr_r, cI, cN, ← nI_0, nI_ltI, nI_leI, nI_eq, nI_add, pk_mul, pk_sub, nI_clamp, vinI, not_true_eq_false, not_false_eq_true, iK0, iK1, iK2, iK3, iK4, iK5, iKm1, bK6, bK7, bK8, bK9, bK10, bK12, bK14, bK15, bK16, bK20, bK21, bK26, bK30, bK32, bK33, bK45, bK48, bK57, bK59, bK60, bK62, bK63, bK64, bK80, bK93, bK98, bK99, bK100, bK104, bK107, bK109, bK110, bK112, bK113, bK114, bK115, bK116, bK119, sK255, sK256, sK500, sK700, sK798, sK912, sK1400, sK2000]; done) | (simp (discharger := omega) only [msk, clr_i, clr_r, cI, cN, ← nI_0, nI_ltI, nI_leI, nI_eq, nI_add, pk_mul, pk_sub, nI_clamp, vinI, not_true_eq_false, not_false_eq_true, iK0, iK1, iK2, iK3, iK4, iK5, iKm1, bK6, bK7, bK8, bK9, bK10, bK12, bK14, bK15, bK16, bK20, bK21, bK26, bK30, bK32, bK33, bK45, bK48, bK57, bK59, bK60, bK62, bK63, bK64, bK80, bK93, bK98, bK99, bK100, bK104, bK107, bK109, bK110, bK112, bK113, bK114, bK115, bK116, bK119, sK255, sK256, sK500, sK700, sK798, sK912, sK1400, sK2000]; rfl)) rfl ?_
        · unfold lnL
          simp only [List.append_assoc, List.cons_append, List.nil_append]
        · simp only [List.length_append, List.length_cons]; omega
        · rw [List.length_append, List.length_cons, List.length_append, List.length_cons, show (dig i).length + ((dig r).length + ((dig z).length + 1) + 1) = 0 + (dig i).length + 1 + (dig r).length + 1 + (dig z).length by omega]
          rfl
      · rename_i g
        exact absurd (show nI 0 ≤ nI r by rw [nI_leI (by omega) (by omega)]; omega) (by rw [nI_0]; exact g)
  · refine cc0 [0, 1, 2, 3, 4, 5, 6, 7, 8] (md_f1 hg N) (by decide) (by decide) (by decide) rfl (by repeat' (first | exact trivial | refine And.intro ?_ ?_ | rfl)) (by first | rfl | (simp (discharger := omega) only [renVs, renV, rnI, cI, cN, ← nI_0, nI_ltI, nI_leI, nI_eq, nI_add, pk_mul, pk_sub, nI_clamp, vinI, not_true_eq_false, not_false_eq_true, iK0, iK1, iK2, iK3, iK4, iK5, iKm1, bK6, bK7, bK8, bK9, bK10, bK12, bK14, bK15, bK16, bK20, bK21, bK26, bK30, bK32, bK33, bK45, bK48, bK57, bK59, bK60, bK62, bK63, bK64, bK80, bK93, bK98, bK99, bK100, bK104, bK107, bK109, bK110, bK112, bK113, bK114, bK115, bK116, bK119, sK255, sK256, sK500, sK700, sK798, sK912, sK1400, sK2000])) ?_
    (rintro _ _ ⟨rfl, rfl⟩) <;> (repeat' (first | refine And.intro ?_ ?_ | (with_reducible intro h9; exact absurd h9 (by simp only [cI, cN]; decide +kernel)) | with_reducible intro _ | exact (rfl : narrow _ _ = _) | decide | (unfold vp_in; decide)))
    exact Or.inl ⟨q, rfl, _, rfl⟩
end NN
