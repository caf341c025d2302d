/-! ===== History: remember, goBack ===== -/
theorem lenL_app {α : Type} {m : List α} : ∀ {l : List α}, lenL (l ++ m) = lenL l + lenL m
  | [] => (Nat.zero_add _).symm
  | a :: l => by
    show lenL (l ++ m) + 1 = lenL l + 1 + lenL m
    rw [lenL_app (l := l)]
    omega
theorem stN_end {α : Type} {x y : α} : ∀ {l : List α}, stN (l ++ [x]) (lenL l) y = l ++ [y]
  | [] => rfl
  | a :: l => by
    show a :: stN (l ++ [x]) (lenL l) y = _
    rw [stN_end (l := l)]
    rfl
abbrev nxt (n : Nat) : Nat := if n + 1 < 8 then n + 1 else 0
abbrev lst (n : Nat) : Nat := if 0 < n then n - 1 else 7
abbrev fnul : va_E := .inr (4, [.null, .null, .null, .int 0, .int 0, .int 0, .int 0, .int 0, .int 0, .int 0])
section AK
variable {G : gT} {M : mT} {d bc bs pc k np ci b n0 x : Nat} {tg : Nat} {K : Option Value → xW → Prop} {KX : Nat → xW → Prop} {m : m0T} {ls : List (Option Value)} {st as rest : List Value} {w : xW} {fs : List Value} {i : Int32} {f : Nat → Option Nat}
theorem aw_kv (hg : gOK G) (hm : mOK M) (cut : Nat → Option (List Bool)) (n : Nat) (hcd : M.cd pc = some (Instr.invokevirtual k, np, tg)) (hk : M.cp.mth k = some (0, m, ci)) (hp : popN m.na [] st = some (as, .ref b :: rest)) (hn : nth w b = some (.inr (ci, fs))) (hr : Nat.ble (catS rest) 8 = true)
    (h : CallC G d bc bs m (.ref b :: as) w (wpC (wpG G M cut d K KX (wp G M cut d K KX n)) np ls rest) (wpX M K)) : AW G M d bc bs pc ls st w K KX := by
  refine wp_ok hg hm cut (n + 1) _ _ _ _ _ _ ?_
  show (match M.cd pc with | some (i, np, tg) => wpI G M d K KX (wpG G M cut d K KX (wp G M cut d K KX n)) bc bs pc ls st w i np tg | none => False)
  rw [hcd]
  show (match M.cp.mth k with | some (0, m, ci) => wpKV G M d K (wpG G M cut d K KX (wp G M cut d K KX n)) bc bs np ls st w m ci | some (9, m, ci) => wpKU G d (wpG G M cut d K KX (wp G M cut d K KX n)) bc bs np ls st w m | _ => False)
  rw [hk]
  show wpKV G M d K (wpG G M cut d K KX (wp G M cut d K KX n)) bc bs np ls st w m ci
  unfold wpKV
  rw [hp]
  show (match nth w b with | some (.inr (c2, _)) => (match Nat.beq c2 ci with | true => wpCall G M d K (wpG G M cut d K KX (wp G M cut d K KX n)) bc bs np ls w m (.ref b :: as) rest | false => False) | _ => False)
  rw [hn]
  show (match Nat.beq ci ci with | true => wpCall G M d K (wpG G M cut d K KX (wp G M cut d K KX n)) bc bs np ls w m (.ref b :: as) rest | false => False)
  rw [Nat.beq_refl]
  unfold wpCall
  rw [hr]
  exact h
theorem aw_aas (hg : gOK G) (hm : mOK M) (cut : Nat → Option (List Bool)) (n : Nat) (hcd : M.cd pc = some (Instr.aastore, np, tg)) (ha : nth w b = some (.inl (6, n0, .inr (.inr (.inr (.inr f)))))) (hx : nth w x = some (.inr (4, fs))) (hi : vp_in i n0)
    (h : wpG G M cut d K KX (wp G M cut d K KX n) bc bs np ls st (stN w b (.inl (6, n0, .inr (.inr (.inr (.inr (va_up f i.toNatClampNeg (some x))))))))) : AW G M d bc bs pc ls (.ref x :: .int i :: .ref b :: st) w K KX := by
  refine wp_ok hg hm cut (n + 1) _ _ _ _ _ _ ?_
  show (match M.cd pc with | some (i9, np, tg) => wpI G M d K KX (wpG G M cut d K KX (wp G M cut d K KX n)) bc bs pc ls (.ref x :: .int i :: .ref b :: st) w i9 np tg | none => False)
  rw [hcd]
  show wpI G M d K KX (wpG G M cut d K KX (wp G M cut d K KX n)) bc bs pc ls (.ref x :: .int i :: .ref b :: st) w Instr.aastore np tg
  unfold wpI
  simp only [ha, hx, fL_eq]
  exact ⟨hi, h⟩
end AK
section HC
variable {G : gT} {F E : fT} {H : hT} {r : Int32 × Int32} {X : xT} {ht : Nat → Int32} {P : pT7} {S : sT4} {sd : Value} {er : Int32} {t : xW}
set_option maxRecDepth 20000 in
theorem wb_new (hg : gOK G) : Spec G 3 6 128 m_X0_init [.ref (lenL t + 31)] (ww F E H r X ht P S sd er (t ++ [fnul])) (fun v w' => v = none ∧ w' = ww F E H r X ht P S sd er (hnew t f00)) NX := by
  refine Spec.frs [lenL t + 31] (fd_init hg) rfl ⟨nth_end, trivial⟩ rfl ?_
  rintro _ _ ⟨rfl, rfl⟩
  refine ⟨rfl, ?_⟩
  have h1 : lenL (t ++ [fnul]) = lenL t + 1 := lenL_app
  show ww F E H r X ht P S sd er (stN (t ++ [fnul]) (lenL t) (.inr (4, [.ref (lenL (t ++ [fnul]) + 31), .ref (lenL (t ++ [fnul]) + 33), .ref (lenL (t ++ [fnul]) + 35), .int (nI 20), .int (nI 0), .int (nI 0), .int (nI 0), .int (nI 0), .int (nI 0), .int (nI 0)])) ++ [.inr (9, [.int (nI 8), .int (nI 2), .ref (lenL (t ++ [fnul]) + 32), .int (nI 0)]), .inl (0, 8 * 2, .inl (fun _ => 0)), .inr (9, [.int (nI 4), .int (nI 1), .ref (lenL (t ++ [fnul]) + 34), .int (nI 0)]), .inl (0, 4 * 1, .inl (fun _ => 0)), .inr (9, [.int (nI 12), .int (nI 8), .ref (lenL (t ++ [fnul]) + 36), .int (nI 0)]), .inl (0, 12 * 8, .inl (fun _ => 0))]) = _
  rw [h1, stN_end, List.append_assoc]
  rfl
theorem va_eq {α : Type} {f : Nat → α} {k : Nat} {x : α} : va_up f k x k = x := if_pos rfl
theorem va_ne {α : Type} {f : Nat → α} {k j : Nat} {x : α} (h : j ≠ k) : va_up f k x j = f j := if_neg h
set_option maxRecDepth 20000 in
theorem hi_rem_t (hg : gOK G) (hF : fB F) (k bc bs : Nat) (D : fT) (h1 : H.1 < 8) (h2 : H.2.1 ≤ 8) (hD : hblk t k D) {K : Option Value → xW → Prop} {KX : Nat → xW → Prop} (hK : K none (ww F E (nxt H.1, min 8 (H.2.1 + 1), H.2.2) r X ht P S sd er (hput t k (fcp D F)))) : AW G M_X2_remember 4 bc bs 52 [some (.ref 15), some (.ref 1), some (.ref (k + 31))] [] (ww F E H r X ht P S sd er t) K KX := by
  have e2 : (if nI H.2.1 + Int32.ofInt 1 < (Int8.ofInt 8).toInt32 then nI H.2.1 + Int32.ofInt 1 else (Int8.ofInt 8).toInt32) = nI (min 8 (H.2.1 + 1)) := by
    rw [iK1, bK8, nI_add]
    by_cases q : H.2.1 + 1 < 8
    · rw [if_pos ((nI_ltI (by omega) (by omega)).mpr q)]
      congr 1; omega
    · rw [if_neg (fun z => q ((nI_ltI (by omega) (by omega)).mp z))]
      congr 1; omega
  refine wp_ok (M := M_X2_remember) hg ok_X2_remember cut0 2 _ _ _ _ _ _ ?_
  refine aw_kv hg ok_X2_remember cut0 60 (pc := 54) rfl rfl rfl (b := k + 31) hD.1 rfl ?_
  refine cci 31 (wb_cpTo hg k D hD hF) (by decide) (Nat.zero_le _) (Nat.zero_le _) rfl rfl ?_ (fun _ _ h => h.elim)
  rintro _ _ ⟨rfl, rfl⟩
  repeat' (first | refine And.intro ?_ ?_ | (with_reducible intro h9; exact absurd h9 (by simp only [cI, cN]; decide +kernel)) | with_reducible intro _ | exact (rfl : narrow _ _ = _) | decide | (unfold vp_in; decide) | refine Eq.mpr (fL_eq _ _) ?_ | refine Eq.mpr (fW_eq _ _) ?_ | refine Eq.mpr (fN_eq _ _) ?_)
  · rename_i a
    have e1 : Int32.ofInt 0 = nI (nxt H.1) := by
      simp only [cI, iK1, bK8, nI_add] at a
      have a := (nI_leI (by omega) (by omega)).mp a
      unfold nxt
      rw [if_neg (by omega)]
      rfl
    refine Kcg (K := K) hK rfl ?_
    rw [e1, e2]
    rfl
  · rename_i a
    have e1 : nI H.1 + Int32.ofInt 1 = nI (nxt H.1) := by
      simp only [cN, iK1, bK8, nI_add] at a
      rw [nI_leI (by omega) (by omega)] at a
      unfold nxt
      rw [if_pos (by omega), iK1, nI_add]
    refine Kcg (K := K) hK rfl ?_
    rw [e1, e2]
    rfl
set_option maxRecDepth 20000 in
theorem hi_rem1 (hg : gOK G) (hF : fB F) (k : Nat) (D : fT) (h1 : H.1 < 8) (h2 : H.2.1 ≤ 8) (h3 : H.2.2 H.1 = some (k + 31)) (hD : hblk t k D) : Spec G 4 7 138 m_X2_remember [.ref 15, .ref 1] (ww F E H r X ht P S sd er t) (fun v w' => v = none ∧ w' = ww F E (nxt H.1, min 8 (H.2.1 + 1), H.2.2) r X ht P S sd er (hput t k (fcp D F))) NX := by
  have e : H.2.2 (nI H.1).toNatClampNeg = some (k + 31) := by rw [nI_clamp (by omega)]; exact h3
  refine wp_spec (M := M_X2_remember) hg ok_X2_remember (lkp [(52, [true, true, true])]) 60 rfl rfl ?_
  repeat' (first | refine And.intro ?_ ?_ | (with_reducible intro h9; exact absurd h9 (by simp only [cI, cN]; decide +kernel)) | with_reducible intro _ | exact (rfl : narrow _ _ = _) | decide | (unfold vp_in; decide) | refine Eq.mpr (fL_eq _ _) ?_ | refine Eq.mpr (fW_eq _ _) ?_ | refine Eq.mpr (fN_eq _ _) ?_)
  · rename_i a
    exact absurd a (nI_pos (by omega))
  · exact vp_in_nI h1 (by omega)
  · rw [e]
    exact AW.cg (hi_rem_t hg hF k 7 138 D h1 h2 hD ⟨rfl, rfl⟩) rfl rfl rfl (by first | rfl | (simp (discharger := omega) only [msk, clr_i, clr_r, cI, cN, ← nI_0, nI_ltI, nI_leI, nI_eq, nI_add, pk_mul, pk_sub, nI_clamp, vinI, not_true_eq_false, not_false_eq_true, iK0, iK1, iK2, iK3, iK4, iK5, iKm1, bK6, bK7, bK8, bK9, bK10, bK12, bK14, bK15, bK16, bK20, bK21, bK26, bK30, bK32, bK33, bK45, bK48, bK57, bK59, bK60, bK62, bK63, bK64, bK80, bK93, bK98, bK99, bK100, bK104, bK107, bK109, bK110, bK112, bK113, bK114, bK115, bK116, bK119, sK255, sK256, sK500, sK700, sK798, sK912, sK1400, sK2000]; done) | (simp (discharger := omega) only [msk, clr_i, clr_r, cI, cN, ← nI_0, nI_ltI, nI_leI, nI_eq, nI_add, pk_mul, pk_sub, nI_clamp, vinI, not_true_eq_false, not_false_eq_true, iK0, iK1, iK2, iK3, iK4, iK5, iKm1, bK6, bK7, bK8, bK9, bK10, bK12, bK14, bK15, bK16, bK20, bK21, bK26, bK30, bK32, bK33, bK45, bK48, bK57, bK59, bK60, bK62, bK63, bK64, bK80, bK93, bK98, bK99, bK100, bK104, bK107, bK109, bK110, bK112, bK113, bK114, bK115, bK116, bK119, sK255, sK256, sK500, sK700, sK798, sK912, sK1400, sK2000]; rfl)) rfl rfl
  · rename_i a b
    exact absurd ((nI_ltI (by omega) (by omega)).mpr h1) b
set_option maxRecDepth 20000 in
theorem hi_rem0 (hg : gOK G) (hF : fB F) (h1 : H.1 < 8) (h2 : H.2.1 ≤ 8) (h3 : H.2.2 H.1 = none) : Spec G 4 7 138 m_X2_remember [.ref 15, .ref 1] (ww F E H r X ht P S sd er t) (fun v w' => v = none ∧ w' = ww F E (nxt H.1, min 8 (H.2.1 + 1), va_up H.2.2 H.1 (some (lenL t + 31))) r X ht P S sd er (hput (hnew t f00) (lenL t) (fcp f00 F))) NX := by
  have e : H.2.2 (nI H.1).toNatClampNeg = none := by rw [nI_clamp (by omega)]; exact h3
  refine wp_spec (M := M_X2_remember) hg ok_X2_remember (lkp [(51, [true, true, true]), (52, [true, true, true])]) 60 rfl rfl ?_
  repeat' (first | refine And.intro ?_ ?_ | (with_reducible intro h9; exact absurd h9 (by simp only [cI, cN]; decide +kernel)) | with_reducible intro _ | exact (rfl : narrow _ _ = _) | decide | (unfold vp_in; decide) | refine Eq.mpr (fL_eq _ _) ?_ | refine Eq.mpr (fW_eq _ _) ?_ | refine Eq.mpr (fN_eq _ _) ?_)
  · rename_i a
    exact absurd a (nI_pos (by omega))
  · exact vp_in_nI h1 (by omega)
  · rw [e]
    repeat' (first | refine And.intro ?_ ?_ | (with_reducible intro h9; exact absurd h9 (by simp only [cI, cN]; decide +kernel)) | with_reducible intro _ | exact (rfl : narrow _ _ = _) | decide | (unfold vp_in; decide) | refine Eq.mpr (fL_eq _ _) ?_ | refine Eq.mpr (fW_eq _ _) ?_ | refine Eq.mpr (fN_eq _ _) ?_)
    refine cci 31 (wb_new hg) (by decide) (by decide) (by decide) (by first | rfl | (simp only [renVs]; rfl)) (by first | rfl | (simp (discharger := omega) only [renVs, renV, rnI, cI, cN, ← nI_0, nI_ltI, nI_leI, nI_eq, nI_add, pk_mul, pk_sub, nI_clamp, vinI, not_true_eq_false, not_false_eq_true, iK0, iK1, iK2, iK3, iK4, iK5, iKm1, bK6, bK7, bK8, bK9, bK10, bK12, bK14, bK15, bK16, bK20, bK21, bK26, bK30, bK32, bK33, bK45, bK48, bK57, bK59, bK60, bK62, bK63, bK64, bK80, bK93, bK98, bK99, bK100, bK104, bK107, bK109, bK110, bK112, bK113, bK114, bK115, bK116, bK119, sK255, sK256, sK500, sK700, sK798, sK912, sK1400, sK2000])) ?_ (fun _ _ h => h.elim)
    (rintro _ _ ⟨rfl, rfl⟩) <;> (repeat' (first | refine And.intro ?_ ?_ | (with_reducible intro h9; exact absurd h9 (by simp only [cI, cN]; decide +kernel)) | with_reducible intro _ | exact (rfl : narrow _ _ = _) | decide | (unfold vp_in; decide) | refine Eq.mpr (fL_eq _ _) ?_ | refine Eq.mpr (fW_eq _ _) ?_ | refine Eq.mpr (fN_eq _ _) ?_))
    refine aw_aas hg ok_X2_remember (lkp [(52, [true, true, true])]) 60 (pc := 51) rfl rfl (hblk_new).1 (vp_in_nI h1 (by omega)) ?_
    refine AW.cg (hi_rem_t (F := F) (E := E) (r := r) (X := X) (ht := ht) (P := P) (S := S) (sd := sd) (er := er) (H := (H.1, H.2.1, va_up H.2.2 (nI H.1).toNatClampNeg (some (lenL t + 31)))) hg hF (lenL t) 0 0 f00 h1 h2 hblk_new ⟨rfl, ?_⟩) rfl rfl rfl (by first | rfl | (simp (discharger := omega) only [msk, clr_i, clr_r, cI, cN, ← nI_0, nI_ltI, nI_leI, nI_eq, nI_add, pk_mul, pk_sub, nI_clamp, vinI, not_true_eq_false, not_false_eq_true, iK0, iK1, iK2, iK3, iK4, iK5, iKm1, bK6, bK7, bK8, bK9, bK10, bK12, bK14, bK15, bK16, bK20, bK21, bK26, bK30, bK32, bK33, bK45, bK48, bK57, bK59, bK60, bK62, bK63, bK64, bK80, bK93, bK98, bK99, bK100, bK104, bK107, bK109, bK110, bK112, bK113, bK114, bK115, bK116, bK119, sK255, sK256, sK500, sK700, sK798, sK912, sK1400, sK2000]; done) | (simp (discharger := omega) only [msk, clr_i, clr_r, cI, cN, ← nI_0, nI_ltI, nI_leI, nI_eq, nI_add, pk_mul, pk_sub, nI_clamp, vinI, not_true_eq_false, not_false_eq_true, iK0, iK1, iK2, iK3, iK4, iK5, iKm1, bK6, bK7, bK8, bK9, bK10, bK12, bK14, bK15, bK16, bK20, bK21, bK26, bK30, bK32, bK33, bK45, bK48, bK57, bK59, bK60, bK62, bK63, bK64, bK80, bK93, bK98, bK99, bK100, bK104, bK107, bK109, bK110, bK112, bK113, bK114, bK115, bK116, bK119, sK255, sK256, sK500, sK700, sK798, sK912, sK1400, sK2000]; rfl)) rfl rfl
    show ww F E (nxt H.1, min 8 (H.2.1 + 1), va_up H.2.2 (nI H.1).toNatClampNeg (some (lenL t + 31))) r X ht P S sd er _ = _
    rw [nI_clamp (by omega)]
  · rename_i a b
    exact absurd ((nI_ltI (by omega) (by omega)).mpr h1) b
set_option maxRecDepth 20000 in
theorem hi_back1 (hg : gOK G) (k : Nat) (D : fT) (h1 : H.1 < 8) (h2 : H.2.1 ≤ 8) (h0 : 0 < H.2.1) (h3 : H.2.2 (lst H.1) = some (k + 31)) (hD : hblk t k D) (hf : fB D) : Spec G 3 0 0 m_X2_goBack [.ref 15, .ref 1] (ww F E H r X ht P S sd er t) (fun v w' => v = none ∧ w' = ww (fcp F D) E (lst H.1, H.2.1 - 1, H.2.2) r X ht P S sd er t) NX := by
  have n0 : ¬ nI H.2.1 = 0 := by rw [← nI_0, nI_eq (by omega) (by omega)]; omega
  have hk : nI H.2.1 - Int32.ofInt 1 = nI (H.2.1 - 1) := by rw [iK1]; exact pk_sub h0
  by_cases z : H.1 = 0
  · have l7 : lst H.1 = 7 := by simp only [lst]; rw [if_neg (by omega)]
    have e : H.2.2 (Int8.ofInt 7).toInt32.toNatClampNeg = some (k + 31) := by rw [bK7, nI_clamp (by omega), ← l7]; exact h3
    have nl : ¬ cN .le (nI H.1) 0 := fun q => q (by rw [z]; decide)
    refine wp_spec (M := M_X2_goBack) hg ok_X2_goBack cut0 60 rfl rfl ?_
    repeat' (first | refine And.intro ?_ ?_ | (with_reducible intro h9; exact absurd h9 (by simp only [cI, cN]; decide +kernel)) | with_reducible intro _ | exact (rfl : narrow _ _ = _) | decide | (unfold vp_in; decide) | refine Eq.mpr (fL_eq _ _) ?_ | refine Eq.mpr (fW_eq _ _) ?_ | refine Eq.mpr (fN_eq _ _) ?_)
    · rename_i a b
      exact absurd b n0
    · rw [e]
      repeat' (first | refine And.intro ?_ ?_ | (with_reducible intro h9; exact absurd h9 (by simp only [cI, cN]; decide +kernel)) | with_reducible intro _ | exact (rfl : narrow _ _ = _) | decide | (unfold vp_in; decide) | refine Eq.mpr (fL_eq _ _) ?_ | refine Eq.mpr (fW_eq _ _) ?_ | refine Eq.mpr (fN_eq _ _) ?_)
      rw [e]
      repeat' (first | refine And.intro ?_ ?_ | (with_reducible intro h9; exact absurd h9 (by simp only [cI, cN]; decide +kernel)) | with_reducible intro _ | exact (rfl : narrow _ _ = _) | decide | (unfold vp_in; decide) | refine Eq.mpr (fL_eq _ _) ?_ | refine Eq.mpr (fW_eq _ _) ?_ | refine Eq.mpr (fN_eq _ _) ?_)
      refine cci 31 (wb_cpFrom hg k D hD hf) (by decide) (by decide) (by decide) (by first | rfl | (simp only [renVs]; rfl)) (by first | rfl | (simp (discharger := omega) only [renVs, renV, rnI, cI, cN, ← nI_0, nI_ltI, nI_leI, nI_eq, nI_add, pk_mul, pk_sub, nI_clamp, vinI, not_true_eq_false, not_false_eq_true, iK0, iK1, iK2, iK3, iK4, iK5, iKm1, bK6, bK7, bK8, bK9, bK10, bK12, bK14, bK15, bK16, bK20, bK21, bK26, bK30, bK32, bK33, bK45, bK48, bK57, bK59, bK60, bK62, bK63, bK64, bK80, bK93, bK98, bK99, bK100, bK104, bK107, bK109, bK110, bK112, bK113, bK114, bK115, bK116, bK119, sK255, sK256, sK500, sK700, sK798, sK912, sK1400, sK2000])) ?_ (fun _ _ h => h.elim)
      (rintro _ _ ⟨rfl, rfl⟩) <;> (repeat' (first | refine And.intro ?_ ?_ | (with_reducible intro h9; exact absurd h9 (by simp only [cI, cN]; decide +kernel)) | with_reducible intro _ | exact (rfl : narrow _ _ = _) | decide | (unfold vp_in; decide) | refine Eq.mpr (fL_eq _ _) ?_ | refine Eq.mpr (fW_eq _ _) ?_ | refine Eq.mpr (fN_eq _ _) ?_))
      (rw [hk, l7, bK7]) <;> rfl
    all_goals exact absurd (by assumption) nl
  · have l7 : lst H.1 = H.1 - 1 := by simp only [lst]; rw [if_pos (by omega)]
    have e1 : nI H.1 - Int32.ofInt 1 = nI (H.1 - 1) := by rw [iK1, pk_sub (by omega)]
    have e : H.2.2 (nI H.1 - Int32.ofInt 1).toNatClampNeg = some (k + 31) := by rw [e1, nI_clamp (by omega), ← l7]; exact h3
    have nl : ¬ cI .le (nI H.1) 0 := fun q => by
      have q := (nI_leI (b := 0) (by omega) (by omega)).mp q
      omega
    have nl2 : ¬ cI Cond.ge (nI H.1 - Int32.ofInt 1) (nI 8) := fun q => by
      rw [e1] at q
      have q := (nI_leI (by omega) (by omega)).mp q
      omega
    refine wp_spec (M := M_X2_goBack) hg ok_X2_goBack cut0 60 rfl rfl ?_
    repeat' (first | refine And.intro ?_ ?_ | (with_reducible intro h9; exact absurd h9 (by simp only [cI, cN]; decide +kernel)) | with_reducible intro _ | exact (rfl : narrow _ _ = _) | decide | (unfold vp_in; decide) | refine Eq.mpr (fL_eq _ _) ?_ | refine Eq.mpr (fW_eq _ _) ?_ | refine Eq.mpr (fN_eq _ _) ?_)
    all_goals first | exact absurd (by assumption) nl | exact absurd (by assumption) nl2 | exact absurd (by assumption) n0 | skip
    · rw [e1]
      exact vp_in_nI (by omega) (by omega)
    · rw [e]
      repeat' (first | refine And.intro ?_ ?_ | (with_reducible intro h9; exact absurd h9 (by simp only [cI, cN]; decide +kernel)) | with_reducible intro _ | exact (rfl : narrow _ _ = _) | decide | (unfold vp_in; decide) | refine Eq.mpr (fL_eq _ _) ?_ | refine Eq.mpr (fW_eq _ _) ?_ | refine Eq.mpr (fN_eq _ _) ?_)
      · rw [e1]
        exact vp_in_nI (by omega) (by omega)
      · rw [e]
        repeat' (first | refine And.intro ?_ ?_ | (with_reducible intro h9; exact absurd h9 (by simp only [cI, cN]; decide +kernel)) | with_reducible intro _ | exact (rfl : narrow _ _ = _) | decide | (unfold vp_in; decide) | refine Eq.mpr (fL_eq _ _) ?_ | refine Eq.mpr (fW_eq _ _) ?_ | refine Eq.mpr (fN_eq _ _) ?_)
        refine cci 31 (wb_cpFrom hg k D hD hf) (by decide) (by decide) (by decide) (by first | rfl | (simp only [renVs]; rfl)) (by first | rfl | (simp (discharger := omega) only [renVs, renV, rnI, cI, cN, ← nI_0, nI_ltI, nI_leI, nI_eq, nI_add, pk_mul, pk_sub, nI_clamp, vinI, not_true_eq_false, not_false_eq_true, iK0, iK1, iK2, iK3, iK4, iK5, iKm1, bK6, bK7, bK8, bK9, bK10, bK12, bK14, bK15, bK16, bK20, bK21, bK26, bK30, bK32, bK33, bK45, bK48, bK57, bK59, bK60, bK62, bK63, bK64, bK80, bK93, bK98, bK99, bK100, bK104, bK107, bK109, bK110, bK112, bK113, bK114, bK115, bK116, bK119, sK255, sK256, sK500, sK700, sK798, sK912, sK1400, sK2000])) ?_ (fun _ _ h => h.elim)
        (rintro _ _ ⟨rfl, rfl⟩) <;> (repeat' (first | refine And.intro ?_ ?_ | (with_reducible intro h9; exact absurd h9 (by simp only [cI, cN]; decide +kernel)) | with_reducible intro _ | exact (rfl : narrow _ _ = _) | decide | (unfold vp_in; decide) | refine Eq.mpr (fL_eq _ _) ?_ | refine Eq.mpr (fW_eq _ _) ?_ | refine Eq.mpr (fN_eq _ _) ?_))
        (rw [hk, l7, e1]) <;> rfl
set_option maxRecDepth 20000 in
theorem hi_forget (hg : gOK G) : Spec G 1 0 0 m_X2_forget [.ref 15] (ww F E H r X ht P S sd er t) (fun v w' => v = none ∧ w' = ww F E (H.1, 0, H.2.2) r X ht P S sd er t) NX := by
  refine wp_spec (M := M_X2_forget) hg ok_X2_forget cut0 60 rfl rfl ?_
  repeat' (first | refine And.intro ?_ ?_ | (with_reducible intro h9; exact absurd h9 (by simp only [cI, cN]; decide +kernel)) | with_reducible intro _ | exact (rfl : narrow _ _ = _) | decide | (unfold vp_in; decide) | refine Eq.mpr (fL_eq _ _) ?_ | refine Eq.mpr (fW_eq _ _) ?_ | refine Eq.mpr (fN_eq _ _) ?_)
  all_goals first | rfl | decide
set_option maxRecDepth 20000 in
theorem hi_size (hg : gOK G) : Spec G 1 0 0 m_X2_size [.ref 15] (ww F E H r X ht P S sd er t) (fun v w' => v = some (.int (nI H.2.1)) ∧ w' = ww F E H r X ht P S sd er t) NX := by
  refine wp_spec (M := M_X2_size) hg ok_X2_size cut0 60 rfl rfl ?_
  repeat' (first | refine And.intro ?_ ?_ | (with_reducible intro h9; exact absurd h9 (by simp only [cI, cN]; decide +kernel)) | with_reducible intro _ | exact (rfl : narrow _ _ = _) | decide | (unfold vp_in; decide) | refine Eq.mpr (fL_eq _ _) ?_ | refine Eq.mpr (fW_eq _ _) ?_ | refine Eq.mpr (fN_eq _ _) ?_)
  all_goals first | rfl | decide
end HC
