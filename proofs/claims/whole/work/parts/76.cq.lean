/-! ===== the class's questions ===== -/
theorem hasP_int {y : Int32} {n : Nat} (hn : n < 2 ^ 31) (h : ¬ hasP y n) : y.toInt < 0 ∨ (n : Int) ≤ y.toInt := by
  by_cases q : vp_in y n
  · exact absurd (vp_in_of q hn) h
  · rw [vp_in_iff] at q
    omega
def mofV (N : nT) (i j : Nat) : Int32 := match j with
  | 0 => N.g (10 + 2 * i)
  | 1 => N.g (10 + 2 * i + 1)
  | 2 => nI 5 * N.g (10 + 2 * i) + nI 10
  | 3 => nI 700 + nI 8 * N.g (10 + 2 * i)
  | _ => nI 100 - N.g (10 + 2 * i)
def rofV (N : nT) (nb i j : Nat) : Int32 := match j with
  | 0 => N.g (26 + i)
  | 1 => nI (gon N.g (nI i) nb)
  | _ => mlos N.g nb i
def oTwo (N : nT) (n m : Nat) (f : Nat → Nat → Int32) (x y : Int32) : oA3 := if hasD x n then (if hasD y m then (0, f x.toNatClampNeg y.toNatClampNeg, N.s_co (nI 0)) else (2, 0, N.s_co (nI 2))) else (1, 0, N.s_co (nI 1))
def oOne (N : nT) (n : Nat) (f : Nat → Int32) (x : Int32) : oA3 := if hasD x n then (0, f x.toNatClampNeg, N.s_co (nI 0)) else (1, 0, N.s_co (nI 1))
def oWould (N : nT) (nb : Nat) (x y : Int32) : oA3 := if hasD x nb then (if nI 0 ≤ y ∧ y ≤ nI 48 then (0, gwo N.g nb x.toNatClampNeg y, N.s_co (nI 0)) else (2, 0, N.s_co (nI 2))) else (1, 0, N.s_co (nI 1))
def oRefusal (N : nT) (b : Int32) : oA3 := if N.wy = nI 0 then (1, 0, N.s_co (nI 1)) else (0, if b = nI 0 then N.wy else N.de, N.s_co (nI 0))
theorem oTwo_0 {N : nT} {n m : Nat} {f : Nat → Nat → Int32} {i j : Nat} (hi : i < n) (hj : j < m) (hn : n < 2 ^ 31) (hm : m < 2 ^ 31) : oTwo N n m f (nI i) (nI j) = (0, f i j, N.s_co (nI 0)) := by
  unfold oTwo
  rw [if_pos (hasD_i hi hn), if_pos (hasD_i hj hm), nI_clamp (by omega), nI_clamp (by omega)]
theorem oTwo_2 {N : nT} {n m : Nat} {f : Nat → Nat → Int32} {x y : Int32} (hi : hasP x n) (hj : ¬ hasP y m) (hn : n < 2 ^ 31) : oTwo N n m f x y = (2, 0, N.s_co (nI 2)) := by
  unfold oTwo
  rw [if_pos (hasP_D hi hn), if_neg (fun z => hj (hasD_P z))]
theorem oTwo_1 {N : nT} {n m : Nat} {f : Nat → Nat → Int32} {x y : Int32} (hi : ¬ hasP x n) : oTwo N n m f x y = (1, 0, N.s_co (nI 1)) := if_neg (fun z => hi (hasD_P z))
theorem oOne_0 {N : nT} {n : Nat} {f : Nat → Int32} {i : Nat} (hi : i < n) (hn : n < 2 ^ 31) : oOne N n f (nI i) = (0, f i, N.s_co (nI 0)) := by
  unfold oOne
  rw [if_pos (hasD_i hi hn), nI_clamp (by omega)]
theorem oOne_1 {N : nT} {n : Nat} {f : Nat → Int32} {x : Int32} (hi : ¬ hasP x n) : oOne N n f x = (1, 0, N.s_co (nI 1)) := if_neg (fun z => hi (hasD_P z))
section RR
variable {G : gT}
set_option maxRecDepth 20000 in
theorem r_mouldOf (hg : gOK G) (N : nT) (n : Nat) (hn : N.g 2 = nI n) (hn8 : n ≤ 8) (x y : Int32) : Spec G 3 0 0 m_X9_mouldOf [.ref 0, .int x, .int y] (mw N) (ansR (oTwo N n 5 (mofV N) x y)) NX := by
  refine Spec.mono (mo_mouldOf hg N n hn hn8 x y) ?_ (fun _ _ h => h)
  rintro v w' (⟨h, rfl, b, rfl⟩ | ⟨h, h2, rfl, b, rfl⟩ | ⟨i, j, hi, rfl, hj, rfl, rfl, rfl⟩)
  · exact ansR_n (oTwo_1 h) rfl
  · exact ansR_n (oTwo_2 h h2 (by omega)) rfl
  · exact ansR_y (oTwo_0 hi hj (by omega) (by omega)) rfl
set_option maxRecDepth 20000 in
theorem r_rackOf (hg : gOK G) (N : nT) (n nb : Nat) (hn : N.g 3 = nI n) (hn4 : n ≤ 4) (hb : N.nb nb) (x y : Int32) : Spec G 4 0 0 m_X9_rackOf [.ref 0, .int x, .int y] (mw N) (ansR (oTwo N n 3 (rofV N nb) x y)) NX := by
  refine Spec.mono (mo_rackOf hg N n nb hn hn4 hb x y) ?_ (fun _ _ h => h)
  rintro v w' (⟨h, rfl, b, rfl⟩ | ⟨h, h2, rfl, b, rfl⟩ | ⟨i, j, hi, rfl, hj, rfl, rfl, rfl⟩)
  · exact ansR_n (oTwo_1 h) rfl
  · exact ansR_n (oTwo_2 h h2 (by omega)) rfl
  · exact ansR_y (oTwo_0 hi hj (by omega) (by omega)) rfl
set_option maxRecDepth 20000 in
theorem r_bellOf (hg : gOK G) (N : nT) (nb : Nat) (hb : N.nb nb) (x y : Int32) : Spec G 3 0 0 m_X9_bellOf [.ref 0, .int x, .int y] (mw N) (ansR (oTwo N nb 7 N.b x y)) NX := by
  have hb2 := hb.2
  refine Spec.mono (mo_bellOf hg N nb hb x y) ?_ (fun _ _ h => h)
  rintro v w' (⟨h, rfl, b, rfl⟩ | ⟨h, h2, rfl, b, rfl⟩ | ⟨i, j, hi, rfl, hj, rfl, rfl, rfl⟩)
  · exact ansR_n (oTwo_1 h) rfl
  · exact ansR_n (oTwo_2 h h2 (by omega)) rfl
  · exact ansR_y (oTwo_0 hi hj (by omega) (by omega)) rfl
set_option maxRecDepth 20000 in
theorem r_note (hg : gOK G) (N : nT) (nb : Nat) (hb : N.nb nb) (x y : Int32) : Spec G 3 0 0 m_X9_note [.ref 0, .int x, .int y] (mw N) (ansR (oOne N nb (gnote N.g) x)) NX := by
  have hb2 := hb.2
  refine Spec.mono (mo_note hg N nb hb x y) ?_ (fun _ _ h => h)
  rintro v w' (⟨h, rfl, b, rfl⟩ | ⟨i, hi, rfl, rfl, rfl⟩)
  · exact ansR_n (oOne_1 h) rfl
  · exact ansR_y (oOne_0 hi (by omega)) rfl
set_option maxRecDepth 20000 in
theorem r_coldIn (hg : gOK G) (N : nT) (nb : Nat) (hb : N.nb nb) (hH : gH N.g nb) (x : Int32) : Spec G 5 0 0 m_X9_coldIn [.ref 0, .int x] (mw N) (ansR (oOne N nb (mhrs N.g nb) x)) NX := by
  have hb2 := hb.2
  refine Spec.mono (mo_coldIn hg N nb hb hH x) ?_ (fun _ _ h => h)
  rintro v w' (⟨h, rfl, b, rfl⟩ | ⟨i, hi, rfl, rfl, rfl⟩)
  · exact ansR_n (oOne_1 h) rfl
  · exact ansR_y (oOne_0 hi (by omega)) rfl
set_option maxRecDepth 20000 in
theorem r_acc (hg : gOK G) (N : nT) (nb : Nat) (hb : N.nb nb) (x : Int32) : Spec G 3 0 0 m_X9_account [.ref 0, .int x] (mw N) (ansR (oOne N 16 (gacc N nb) x)) NX := by
  refine Spec.mono (mo_acc hg N nb hb x) ?_ (fun _ _ h => h)
  rintro v w' (⟨h, rfl, b, rfl⟩ | ⟨i, hi, rfl, rfl, rfl⟩)
  · exact ansR_n (oOne_1 h) rfl
  · exact ansR_y (oOne_0 hi (by omega)) rfl
set_option maxRecDepth 20000 in
theorem r_would (hg : gOK G) (N : nT) (nb : Nat) (hb : N.nb nb) (hH : gH N.g nb) (x y : Int32) : Spec G 5 0 0 m_X9_wouldCrack [.ref 0, .int x, .int y] (mw N) (ansR (oWould N nb x y)) NX := by
  have hb2 := hb.2
  refine Spec.mono (mo_would hg N nb hb hH x y) ?_ (fun _ _ h => h)
  unfold oWould
  rintro v w' (⟨h, rfl, b, rfl⟩ | ⟨h, h2, rfl, b, rfl⟩ | ⟨i, hi, rfl, hy, rfl, rfl⟩)
  · exact ansR_n (if_neg (fun z => h (hasD_P z))) rfl
  · exact ansR_n ((if_pos (hasP_D h (by omega))).trans (if_neg h2)) rfl
  · exact ansR_y ((if_pos (hasD_i hi (by omega))).trans ((if_pos hy).trans (by rw [nI_clamp (by omega)]))) rfl
set_option maxRecDepth 20000 in
theorem r_refusal (hg : gOK G) (N : nT) (b : Int32) : Spec G 2 0 0 m_X9_refusal [.ref 0, .int b] (mw N) (ansR (oRefusal N b)) NX := by
  refine Spec.mono (mo_refusal hg N b) ?_ (fun _ _ h => h)
  rintro v w' (⟨h, rfl, b, rfl⟩ | ⟨h, rfl, rfl⟩)
  · exact ansR_n (if_pos h) rfl
  · exact ansR_y (if_neg h) rfl
set_option maxRecDepth 20000 in
theorem r_err (hg : gOK G) (N : nT) : Spec G 1 0 0 m_X9_errorPosition [.ref 0] (mw N) (ansR (0, N.er, N.s_co (nI 0))) NX := by
  refine Spec.mono (mo_err hg N) ?_ (fun _ _ h => h)
  rintro v w' ⟨rfl, rfl⟩
  exact ansR_y rfl rfl
end RR
section CO
variable {G : gT} {F E : fT} {H : hT} {r : Int32 × Int32} {X : xT} {ht : Nat → Int32} {P : pT7} {S : sT4} {sd : Value} {er : Int32} {t : xW} {N : nT}
set_option maxRecDepth 20000 in
theorem c_mouldOf (hg : gOK G) (I : cV F E H r X S sd er t N) (x y : Int32) : Spec G 7 8 150 m_X8_mouldOf [.ref 0, .int x, .int y] (ww F E H r X ht P S sd er t) (ansC t (oTwo N F.M.1 5 (mofV N) x y)) (excC t [(2, 1), (0, 2)] (oTwo N F.M.1 5 (mofV N) x y)) := by
  have h8 := I.nm.2
  refine wp_spec (M := M_X8_mouldOf) hg ok_X8_mouldOf cut0 60 rfl rfl ?_
  repeat' (first | refine And.intro ?_ ?_ | (with_reducible intro h9; exact absurd h9 (by simp only [cI, cN]; decide +kernel)) | with_reducible intro _ | exact (rfl : narrow _ _ = _) | decide | (unfold vp_in; decide) | refine Eq.mpr (fL_eq _ _) ?_ | refine Eq.mpr (fW_eq _ _) ?_ | refine Eq.mpr (fN_eq _ _) ?_)
  refine ccn 31 [2, 3] (tb_has hg 8 2 F.M.1 F.M.2 x (by omega)) (by decide) (by decide) (by decide) rfl (by repeat' (first | exact trivial | refine And.intro ?_ ?_ | rfl)) (by first | rfl | (simp (discharger := omega) only [renVs, renV, rnI, cI, cN, ← nI_0, nI_ltI, nI_leI, nI_eq, nI_add, pk_mul, pk_sub, nI_clamp, vinI, not_true_eq_false, not_false_eq_true, iK0, iK1, iK2, iK3, iK4, iK5, iKm1, bK6, bK7, bK8, bK9, bK10, bK12, bK14, bK15, bK16, bK20, bK21, bK26, bK30, bK32, bK33, bK45, bK48, bK57, bK59, bK60, bK62, bK63, bK64, bK80, bK93, bK98, bK99, bK100, bK104, bK107, bK109, bK110, bK112, bK113, bK114, bK115, bK116, bK119, sK255, sK256, sK500, sK700, sK798, sK912, sK1400, sK2000])) ?_
  (rintro _ _ ⟨⟨rfl, q⟩ | ⟨rfl, q⟩, rfl⟩) <;> (repeat' (first | refine And.intro ?_ ?_ | (with_reducible intro h9; exact absurd h9 (by simp only [cI, cN]; decide +kernel)) | with_reducible intro _ | exact (rfl : narrow _ _ = _) | decide | (unfold vp_in; decide) | refine Eq.mpr (fL_eq _ _) ?_ | refine Eq.mpr (fW_eq _ _) ?_ | refine Eq.mpr (fN_eq _ _) ?_))
  · obtain ⟨i, hi, rfl⟩ := q
    have ec : N.g (10 + 2 * i) = F.m i 0 := I.1.1.2.1 i 0 hi (by omega)
    have es : N.g (10 + 2 * i + 1) = F.m i 1 := I.1.1.2.1 i 1 hi (by omega)
    refine ccn 31 [2, 3] (tb_get hg 8 2 F.M.1 i 0 F.M.2 h8 hi (by omega) (by omega) (by omega) (by omega)) (by decide) (by decide) (by decide) rfl (by repeat' (first | exact trivial | refine And.intro ?_ ?_ | rfl)) (by first | rfl | (simp (discharger := omega) only [renVs, renV, rnI, cI, cN, ← nI_0, nI_ltI, nI_leI, nI_eq, nI_add, pk_mul, pk_sub, nI_clamp, vinI, not_true_eq_false, not_false_eq_true, iK0, iK1, iK2, iK3, iK4, iK5, iKm1, bK6, bK7, bK8, bK9, bK10, bK12, bK14, bK15, bK16, bK20, bK21, bK26, bK30, bK32, bK33, bK45, bK48, bK57, bK59, bK60, bK62, bK63, bK64, bK80, bK93, bK98, bK99, bK100, bK104, bK107, bK109, bK110, bK112, bK113, bK114, bK115, bK116, bK119, sK255, sK256, sK500, sK700, sK798, sK912, sK1400, sK2000])) ?_
    (rintro _ _ ⟨rfl, rfl⟩) <;> (repeat' (first | refine And.intro ?_ ?_ | (with_reducible intro h9; exact absurd h9 (by simp only [cI, cN]; decide +kernel)) | with_reducible intro _ | exact (rfl : narrow _ _ = _) | decide | (unfold vp_in; decide) | refine Eq.mpr (fL_eq _ _) ?_ | refine Eq.mpr (fW_eq _ _) ?_ | refine Eq.mpr (fN_eq _ _) ?_))
    by_cases hy : hasP y 5
    · obtain ⟨j, hj, rfl⟩ := hy
      have e := oTwo_0 (N := N) (f := mofV N) hi hj (by omega) (by omega)
      rcases (show j = 0 ∨ j = 1 ∨ j = 2 ∨ j = 3 ∨ j = 4 by omega) with rfl | rfl | rfl | rfl | rfl
      · refine sw_at 72 0 (by decide) rfl ?_
        repeat' (first | refine And.intro ?_ ?_ | (with_reducible intro h9; exact absurd h9 (by simp only [cI, cN]; decide +kernel)) | with_reducible intro _ | exact (rfl : narrow _ _ = _) | decide | (unfold vp_in; decide) | refine Eq.mpr (fL_eq _ _) ?_ | refine Eq.mpr (fW_eq _ _) ?_ | refine Eq.mpr (fN_eq _ _) ?_)
        show ansC t (oTwo N F.M.1 5 (mofV N) (nI i) (nI 0)) _ _
        exact ansC_y e ec.symm (cEnd_co I _)
      · refine sw_at 74 1 (by decide) rfl ?_
        repeat' (first | refine And.intro ?_ ?_ | (with_reducible intro h9; exact absurd h9 (by simp only [cI, cN]; decide +kernel)) | with_reducible intro _ | exact (rfl : narrow _ _ = _) | decide | (unfold vp_in; decide) | refine Eq.mpr (fL_eq _ _) ?_ | refine Eq.mpr (fW_eq _ _) ?_ | refine Eq.mpr (fN_eq _ _) ?_)
        refine ccn 31 [2, 3] (tb_get hg 8 2 F.M.1 i 1 F.M.2 h8 hi (by omega) (by omega) (by omega) (by omega)) (by decide) (by decide) (by decide) rfl (by repeat' (first | exact trivial | refine And.intro ?_ ?_ | rfl)) (by first | rfl | (simp (discharger := omega) only [renVs, renV, rnI, cI, cN, ← nI_0, nI_ltI, nI_leI, nI_eq, nI_add, pk_mul, pk_sub, nI_clamp, vinI, not_true_eq_false, not_false_eq_true, iK0, iK1, iK2, iK3, iK4, iK5, iKm1, bK6, bK7, bK8, bK9, bK10, bK12, bK14, bK15, bK16, bK20, bK21, bK26, bK30, bK32, bK33, bK45, bK48, bK57, bK59, bK60, bK62, bK63, bK64, bK80, bK93, bK98, bK99, bK100, bK104, bK107, bK109, bK110, bK112, bK113, bK114, bK115, bK116, bK119, sK255, sK256, sK500, sK700, sK798, sK912, sK1400, sK2000])) ?_
        (rintro _ _ ⟨rfl, rfl⟩) <;> (repeat' (first | refine And.intro ?_ ?_ | (with_reducible intro h9; exact absurd h9 (by simp only [cI, cN]; decide +kernel)) | with_reducible intro _ | exact (rfl : narrow _ _ = _) | decide | (unfold vp_in; decide) | refine Eq.mpr (fL_eq _ _) ?_ | refine Eq.mpr (fW_eq _ _) ?_ | refine Eq.mpr (fN_eq _ _) ?_))
        show ansC t (oTwo N F.M.1 5 (mofV N) (nI i) (nI 1)) _ _
        exact ansC_y e es.symm (cEnd_co I _)
      · refine sw_at 87 2 (by decide) rfl ?_
        repeat' (first | refine And.intro ?_ ?_ | (with_reducible intro h9; exact absurd h9 (by simp only [cI, cN]; decide +kernel)) | with_reducible intro _ | exact (rfl : narrow _ _ = _) | decide | (unfold vp_in; decide) | refine Eq.mpr (fL_eq _ _) ?_ | refine Eq.mpr (fW_eq _ _) ?_ | refine Eq.mpr (fN_eq _ _) ?_)
        refine ccn 31 [] (bc_pounds hg _) (by decide) (by decide) (by decide) rfl (by repeat' (first | exact trivial | refine And.intro ?_ ?_ | rfl)) (by first | rfl | (simp (discharger := omega) only [renVs, renV, rnI, cI, cN, ← nI_0, nI_ltI, nI_leI, nI_eq, nI_add, pk_mul, pk_sub, nI_clamp, vinI, not_true_eq_false, not_false_eq_true, iK0, iK1, iK2, iK3, iK4, iK5, iKm1, bK6, bK7, bK8, bK9, bK10, bK12, bK14, bK15, bK16, bK20, bK21, bK26, bK30, bK32, bK33, bK45, bK48, bK57, bK59, bK60, bK62, bK63, bK64, bK80, bK93, bK98, bK99, bK100, bK104, bK107, bK109, bK110, bK112, bK113, bK114, bK115, bK116, bK119, sK255, sK256, sK500, sK700, sK798, sK912, sK1400, sK2000])) ?_
        (rintro _ _ ⟨rfl, rfl⟩) <;> (repeat' (first | refine And.intro ?_ ?_ | (with_reducible intro h9; exact absurd h9 (by simp only [cI, cN]; decide +kernel)) | with_reducible intro _ | exact (rfl : narrow _ _ = _) | decide | (unfold vp_in; decide) | refine Eq.mpr (fL_eq _ _) ?_ | refine Eq.mpr (fW_eq _ _) ?_ | refine Eq.mpr (fN_eq _ _) ?_))
        show ansC t (oTwo N F.M.1 5 (mofV N) (nI i) (nI 2)) _ _
        exact ansC_y e (by show _ = nI 5 * N.g (10 + 2 * i) + nI 10; rw [ec]) (cEnd_co I _)
      · refine sw_at 92 3 (by decide) rfl ?_
        repeat' (first | refine And.intro ?_ ?_ | (with_reducible intro h9; exact absurd h9 (by simp only [cI, cN]; decide +kernel)) | with_reducible intro _ | exact (rfl : narrow _ _ = _) | decide | (unfold vp_in; decide) | refine Eq.mpr (fL_eq _ _) ?_ | refine Eq.mpr (fW_eq _ _) ?_ | refine Eq.mpr (fN_eq _ _) ?_)
        refine ccn 31 [] (bc_heat hg _) (by decide) (by decide) (by decide) rfl (by repeat' (first | exact trivial | refine And.intro ?_ ?_ | rfl)) (by first | rfl | (simp (discharger := omega) only [renVs, renV, rnI, cI, cN, ← nI_0, nI_ltI, nI_leI, nI_eq, nI_add, pk_mul, pk_sub, nI_clamp, vinI, not_true_eq_false, not_false_eq_true, iK0, iK1, iK2, iK3, iK4, iK5, iKm1, bK6, bK7, bK8, bK9, bK10, bK12, bK14, bK15, bK16, bK20, bK21, bK26, bK30, bK32, bK33, bK45, bK48, bK57, bK59, bK60, bK62, bK63, bK64, bK80, bK93, bK98, bK99, bK100, bK104, bK107, bK109, bK110, bK112, bK113, bK114, bK115, bK116, bK119, sK255, sK256, sK500, sK700, sK798, sK912, sK1400, sK2000])) ?_
        (rintro _ _ ⟨rfl, rfl⟩) <;> (repeat' (first | refine And.intro ?_ ?_ | (with_reducible intro h9; exact absurd h9 (by simp only [cI, cN]; decide +kernel)) | with_reducible intro _ | exact (rfl : narrow _ _ = _) | decide | (unfold vp_in; decide) | refine Eq.mpr (fL_eq _ _) ?_ | refine Eq.mpr (fW_eq _ _) ?_ | refine Eq.mpr (fN_eq _ _) ?_))
        show ansC t (oTwo N F.M.1 5 (mofV N) (nI i) (nI 3)) _ _
        exact ansC_y e (by show _ = nI 700 + nI 8 * N.g (10 + 2 * i); rw [ec]) (cEnd_co I _)
      · refine sw_at 97 4 (by decide) rfl ?_
        repeat' (first | refine And.intro ?_ ?_ | (with_reducible intro h9; exact absurd h9 (by simp only [cI, cN]; decide +kernel)) | with_reducible intro _ | exact (rfl : narrow _ _ = _) | decide | (unfold vp_in; decide) | refine Eq.mpr (fL_eq _ _) ?_ | refine Eq.mpr (fW_eq _ _) ?_ | refine Eq.mpr (fN_eq _ _) ?_)
        refine ccn 31 [] (bc_first hg _) (by decide) (by decide) (by decide) rfl (by repeat' (first | exact trivial | refine And.intro ?_ ?_ | rfl)) (by first | rfl | (simp (discharger := omega) only [renVs, renV, rnI, cI, cN, ← nI_0, nI_ltI, nI_leI, nI_eq, nI_add, pk_mul, pk_sub, nI_clamp, vinI, not_true_eq_false, not_false_eq_true, iK0, iK1, iK2, iK3, iK4, iK5, iKm1, bK6, bK7, bK8, bK9, bK10, bK12, bK14, bK15, bK16, bK20, bK21, bK26, bK30, bK32, bK33, bK45, bK48, bK57, bK59, bK60, bK62, bK63, bK64, bK80, bK93, bK98, bK99, bK100, bK104, bK107, bK109, bK110, bK112, bK113, bK114, bK115, bK116, bK119, sK255, sK256, sK500, sK700, sK798, sK912, sK1400, sK2000])) ?_
        (rintro _ _ ⟨rfl, rfl⟩) <;> (repeat' (first | refine And.intro ?_ ?_ | (with_reducible intro h9; exact absurd h9 (by simp only [cI, cN]; decide +kernel)) | with_reducible intro _ | exact (rfl : narrow _ _ = _) | decide | (unfold vp_in; decide) | refine Eq.mpr (fL_eq _ _) ?_ | refine Eq.mpr (fW_eq _ _) ?_ | refine Eq.mpr (fN_eq _ _) ?_))
        show ansC t (oTwo N F.M.1 5 (mofV N) (nI i) (nI 4)) _ _
        exact ansC_y e (by show _ = nI 100 - N.g (10 + 2 * i); rw [ec]) (cEnd_co I _)
    · refine sw_df ((hasP_int (by omega) hy).imp_right fun z => z) ?_
      repeat' (first | refine And.intro ?_ ?_ | (with_reducible intro h9; exact absurd h9 (by simp only [cI, cN]; decide +kernel)) | with_reducible intro _ | exact (rfl : narrow _ _ = _) | decide | (unfold vp_in; decide) | refine Eq.mpr (fL_eq _ _) ?_ | refine Eq.mpr (fW_eq _ _) ?_ | refine Eq.mpr (fN_eq _ _) ?_)
      show excC t [(2, 1), (0, 2)] (oTwo N F.M.1 5 (mofV N) (nI i) y) 0 _
      exact excC_n (oTwo_2 ⟨i, hi, rfl⟩ hy (by omega)) rfl (cEnd_co I _)
  · show excC t [(2, 1), (0, 2)] (oTwo N F.M.1 5 (mofV N) x y) 2 _
    exact excC_n (oTwo_1 q) rfl (cEnd_co I _)
end CO
