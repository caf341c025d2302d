/-! ===== the reference: what it keeps; an hour ===== -/
def kpX (N : nT) (row : Nat → Int32) : Nat → Int32 := if N.iW = nI 0 then (if N.ch = nI 8 then cpo (shf N.kp 0 798 114) row 0 (114 * 7) 114 else cpo N.kp row 0 (114 * N.ch.toNatClampNeg) 114) else N.kp
def chX (N : nT) : Int32 := if N.iW = nI 0 then (if N.ch = nI 8 then nI 8 else N.ch + nI 1) else N.ch
abbrev nT.kps (N : nT) (row : Nat → Int32) : nT := ((N.s_co (nI 0)).s_kp (kpX N row)).s_ch (chX N)
/-- the reference's counts of what it keeps -/
def nT.cK (N : nT) : Prop := (N.iW = nI 1 ∨ N.iW = nI 0) ∧ ∃ c, c ≤ 8 ∧ N.ch = nI c
/-- an hour of a bell: its loss, whether it cracks -/
abbrev glo (g : Nat → Int32) (n i : Nat) : Int32 := mlos g n (grk g i)
abbrev gck (g : Nat → Int32) (n i : Nat) : Bool := decide (¬ (glo g n i ≤ nI 6 + nI 2 * g (30 + 7 * i + 1) ∨ g (30 + 7 * i + 5) = nI 9))
def hg1 (g : Nat → Int32) (n k : Nat) : Nat → Int32 := fun q => if 30 ≤ q ∧ (q - 30) / 7 < k ∧ nI 0 < g (30 + 7 * ((q - 30) / 7) + 4) then (if (q - 30) % 7 = 4 then mxi (nI 0) (g q - glo g n ((q - 30) / 7)) else if (q - 30) % 7 = 5 ∧ gck g n ((q - 30) / 7) = true then g q + nI 1 else g q) else g q
theorem hg1_0 {g : Nat → Int32} {n : Nat} : hg1 g n 0 = g := funext fun q => if_neg (fun z => by omega)
theorem hg1_lo {g : Nat → Int32} {n k q : Nat} (h : q < 30) : hg1 g n k q = g q := if_neg (fun z => by omega)
theorem hg1_k {g : Nat → Int32} {n k j : Nat} (h : j < 7) : hg1 g n k (30 + 7 * k + j) = g (30 + 7 * k + j) := if_neg (fun z => by omega)
theorem hg1_3 {g : Nat → Int32} {n k i : Nat} : hg1 g n k (30 + 7 * i + 3) = g (30 + 7 * i + 3) := by
  unfold hg1
  rw [if_neg (show ¬ (30 + 7 * i + 3 - 30) % 7 = 4 by omega), if_neg (show ¬ ((30 + 7 * i + 3 - 30) % 7 = 5 ∧ _) from fun z => by omega)]
  split <;> rfl
theorem hg1_ne {g : Nat → Int32} {n k q : Nat} (h : ∀ j, j < 7 → q ≠ 30 + 7 * k + j) : hg1 g n (k + 1) q = hg1 g n k q := by
  unfold hg1
  by_cases h1 : 30 ≤ q ∧ (q - 30) / 7 < k ∧ nI 0 < g (30 + 7 * ((q - 30) / 7) + 4)
  · rw [if_pos h1, if_pos ⟨h1.1, by omega, h1.2.2⟩]
  · rw [if_neg h1, if_neg (fun z => h1 ⟨z.1, by
      have : (q - 30) / 7 ≠ k := fun e => h ((q - 30) % 7) (by omega) (by omega)
      omega, z.2.2⟩)]
theorem hg1_at {g : Nat → Int32} {n k j : Nat} (h : j < 7) : hg1 g n (k + 1) (30 + 7 * k + j) = if nI 0 < g (30 + 7 * k + 4) then (if j = 4 then mxi (nI 0) (g (30 + 7 * k + j) - glo g n k) else if j = 5 ∧ gck g n k = true then g (30 + 7 * k + j) + nI 1 else g (30 + 7 * k + j)) else g (30 + 7 * k + j) := by
  unfold hg1
  have e1 : (30 + 7 * k + j - 30) / 7 = k := by omega
  have e2 : (30 + 7 * k + j - 30) % 7 = j := by omega
  rw [e1, e2]
  by_cases h1 : nI 0 < g (30 + 7 * k + 4)
  · rw [if_pos ⟨by omega, by omega, h1⟩, if_pos h1]
  · rw [if_neg (fun z => h1 z.2.2), if_neg h1]
theorem glo_eq {g f : Nat → Int32} {n : Nat} (h : ∀ q, q < 30 → f q = g q) (h3 : ∀ i, f (30 + 7 * i + 3) = g (30 + 7 * i + 3)) (r : Nat) (hr : r < 4) : mlos f n r = mlos g n r := by
  have e : gon f (nI r) n = gon g (nI r) n := congrArg (fun p => cnt p n) (funext fun j => by rw [h3])
  show f (26 + r) + nI 2 * (nI 3 - nI (gon f (nI r) n)) = _
  rw [e, h _ (by omega)]
section NN
variable {G : gT}
set_option maxRecDepth 20000 in
theorem md_keep_l (hg : gOK G) (N : nT) (row : Nat → Int32) (kp0 : Nat → Int32) (p : Nat) {K : Option Value → xW → Prop} {KX : Nat → xW → Prop} (hK : AW G M_X9_keeps 2 0 0 52 [some (.ref 0), some (.ref p), none] [] (mw (N.s_kp (shf kp0 0 798 114))) K KX) : ∀ (c k : Nat) (hk : k ≤ 798) (hc9 : 798 - k = c),
    AW G M_X9_keeps 2 0 0 24 [some (.ref 0), some (.ref p), some (.int (nI k))] [] (mw (N.s_kp (shf kp0 0 k 114))) K KX := by
  intro c
  induction c using Nat.strongRecOn with | ind c ih => ?_
  intro k hk hc9
  refine wp_ok (M := M_X9_keeps) hg ok_X9_keeps (lkp [(24, [true, true, true]), (52, [true, true, false])]) 60 _ _ _ _ _ _ ?_
  repeat' (first | refine And.intro ?_ ?_ | (with_reducible intro h9; exact absurd h9 (by simp only [cI, cN]; decide +kernel)) | with_reducible intro _ | exact (rfl : narrow _ _ = _) | decide | (unfold vp_in; decide))
  · rename_i g
    simp (discharger := omega) only [cI, sK798, nI_leI] at g
    have : k = 798 := by omega
    subst this
    exact hK
  · rename_i g
    simp (discharger := omega) only [cN, sK798, nI_leI] at g
    simp (discharger := omega) only [bK114, nI_add, vinI]; omega
  · rename_i g
    simp (discharger := omega) only [cN, sK798, nI_leI] at g
    rw [vinI (by omega)]; omega
  · rename_i g
    simp (discharger := omega) only [cN, sK798, nI_leI] at g
    exact AW.cg (ih _ (by omega) (k + 1) (by omega) rfl) rfl rfl rfl (by first | rfl | (simp (discharger := omega) only [msk, clr_i, clr_r, cI, cN, ← nI_0, nI_ltI, nI_leI, nI_eq, nI_add, pk_mul, pk_sub, nI_clamp, vinI, not_true_eq_false, not_false_eq_true, iK0, iK1, iK2, iK3, iK4, iK5, iKm1, bK6, bK7, bK8, bK9, bK10, bK12, bK14, bK15, bK16, bK20, bK21, bK26, bK30, bK32, bK33, bK45, bK48, bK57, bK59, bK60, bK62, bK63, bK64, bK80, bK93, bK98, bK99, bK100, bK104, bK107, bK109, bK110, bK112, bK113, bK114, bK115, bK116, bK119, sK255, sK256, sK500, sK700, sK798, sK912, sK1400, sK2000]; done) | (simp (discharger := omega) only [msk, clr_i, clr_r, cI, cN, ← nI_0, nI_ltI, nI_leI, nI_eq, nI_add, pk_mul, pk_sub, nI_clamp, vinI, not_true_eq_false, not_false_eq_true, iK0, iK1, iK2, iK3, iK4, iK5, iKm1, bK6, bK7, bK8, bK9, bK10, bK12, bK14, bK15, bK16, bK20, bK21, bK26, bK30, bK32, bK33, bK45, bK48, bK57, bK59, bK60, bK62, bK63, bK64, bK80, bK93, bK98, bK99, bK100, bK104, bK107, bK109, bK110, bK112, bK113, bK114, bK115, bK116, bK119, sK255, sK256, sK500, sK700, sK798, sK912, sK1400, sK2000]; rfl)) rfl (by
      (rw [← shf_s (Nat.zero_le k), ← shf_at (f := kp0) (a := 0) (k := k) (s := 114)]) <;> first | rfl | (simp (discharger := omega) only [bK114, nI_add, nI_clamp]; rfl))
set_option maxRecDepth 20000 in
theorem md_keep_tG (hg : gOK G) (N : nT) (h3 : N.ch = nI 8) (kp1 : Nat → Int32) {K : Option Value → xW → Prop} {KX : Nat → xW → Prop} (hK : K none (mw ((N.s_kp (cpo kp1 N.g 0 (114 * 7) 114)).s_ch (nI 8)))) : AW G M_X9_keeps 2 0 0 52 [some (.ref 0), some (.ref 1), none] [] (mw (N.s_kp kp1)) K KX := by
  have e : (N.s_kp kp1).ch = nI 8 := h3
  refine wp_ok (M := M_X9_keeps) hg ok_X9_keeps (lkp []) 60 _ _ _ _ _ _ ?_
  repeat' (first | refine And.intro ?_ ?_ | (with_reducible intro h9; exact absurd h9 (by simp only [cI, cN]; decide +kernel)) | with_reducible intro _ | exact (rfl : narrow _ _ = _) | decide | (unfold vp_in; decide))
  refine cc0 [1, 2] (md_copies hg 114 912 0 (114 * 7) N.g kp1 (by omega) (by omega) (by omega) (by omega)) (by decide) (by decide) (by decide) rfl (by repeat' (first | exact trivial | refine And.intro ?_ ?_ | rfl)) (by first | rfl | (simp (discharger := omega) only [renVs, renV, rnI, e, cI, cN, ← nI_0, nI_ltI, nI_leI, nI_eq, nI_add, pk_mul, pk_sub, nI_clamp, vinI, not_true_eq_false, not_false_eq_true, iK0, iK1, iK2, iK3, iK4, iK5, iKm1, bK6, bK7, bK8, bK9, bK10, bK12, bK14, bK15, bK16, bK20, bK21, bK26, bK30, bK32, bK33, bK45, bK48, bK57, bK59, bK60, bK62, bK63, bK64, bK80, bK93, bK98, bK99, bK100, bK104, bK107, bK109, bK110, bK112, bK113, bK114, bK115, bK116, bK119, sK255, sK256, sK500, sK700, sK798, sK912, sK1400, sK2000])) ?_
  (rintro _ _ ⟨rfl, rfl⟩) <;> (repeat' (first | refine And.intro ?_ ?_ | (with_reducible intro h9; exact absurd h9 (by simp only [cI, cN]; decide +kernel)) | with_reducible intro _ | exact (rfl : narrow _ _ = _) | decide | (unfold vp_in; decide)))
  exact Kcg (K := K) hK rfl (by simp (discharger := omega) only [e, iK1, pk_sub, nI_add]; rfl)
set_option maxRecDepth 20000 in
theorem md_keepG (hg : gOK G) (N : nT) (hc : N.cK) : Spec G 2 0 0 m_X9_keeps [.ref 0, .ref 1] (mw N) (fun v w' => v = none ∧ w' = mw (N.kps N.g)) NX := by
  obtain ⟨h1, c, h2, h3⟩ := hc
  refine wp_spec (M := M_X9_keeps) hg ok_X9_keeps (lkp [(24, [true, true, true]), (52, [true, true, false])]) 60 rfl rfl ?_
  repeat' (first | refine And.intro ?_ ?_ | (with_reducible intro h9; exact absurd h9 (by simp only [cI, cN]; decide +kernel)) | with_reducible intro _ | exact (rfl : narrow _ _ = _) | decide | (unfold vp_in; decide))
  · rename_i g g2
    simp only [cI, ← nI_0] at g
    simp (discharger := omega) only [cI, h3, bK8, nI_eq] at g2
    have g3 : ¬ N.ch = nI 8 := by rw [h3, nI_eq (by omega) (by omega)]; exact g2
    have e1 : kpX N N.g = cpo N.kp N.g 0 (114 * c) 114 := by
      unfold kpX
      rw [if_pos g, if_neg g3, h3, nI_clamp (by omega)]
    have e2 : chX N = nI c + nI 1 := by
      unfold chX
      rw [if_pos g, if_neg g3, h3]
    rw [h3]
    refine cc0 [1, 2] (md_copies hg 114 912 0 (114 * c) N.g N.kp (by omega) (by omega) (by omega) (by omega)) (by decide) (by decide) (by decide) rfl (by repeat' (first | exact trivial | refine And.intro ?_ ?_ | rfl)) (by first | rfl | (simp (discharger := omega) only [renVs, renV, rnI, cI, cN, ← nI_0, nI_ltI, nI_leI, nI_eq, nI_add, pk_mul, pk_sub, nI_clamp, vinI, not_true_eq_false, not_false_eq_true, iK0, iK1, iK2, iK3, iK4, iK5, iKm1, bK6, bK7, bK8, bK9, bK10, bK12, bK14, bK15, bK16, bK20, bK21, bK26, bK30, bK32, bK33, bK45, bK48, bK57, bK59, bK60, bK62, bK63, bK64, bK80, bK93, bK98, bK99, bK100, bK104, bK107, bK109, bK110, bK112, bK113, bK114, bK115, bK116, bK119, sK255, sK256, sK500, sK700, sK798, sK912, sK1400, sK2000])) ?_
    (rintro _ _ ⟨rfl, rfl⟩) <;> (repeat' (first | refine And.intro ?_ ?_ | (with_reducible intro h9; exact absurd h9 (by simp only [cI, cN]; decide +kernel)) | with_reducible intro _ | exact (rfl : narrow _ _ = _) | decide | (unfold vp_in; decide)))
    show _ = mw (((N.s_co (nI 0)).s_kp (kpX N N.g)).s_ch (chX N))
    rw [e1, e2]
    rfl
  · rename_i g g2
    simp only [cI, ← nI_0] at g
    simp only [cN, bK8, Classical.not_not] at g2
    have e1 : kpX N N.g = cpo (shf N.kp 0 798 114) N.g 0 (114 * 7) 114 := by
      unfold kpX
      rw [if_pos g, if_pos g2]
    have e2 : chX N = nI 8 := by
      unfold chX
      rw [if_pos g, if_pos g2]
    refine AW.cg (md_keep_l hg (N.s_co (nI 0)) N.g N.kp 1 (md_keep_tG hg (N.s_co (nI 0)) g2 _ ⟨rfl, ?_⟩) _ 0 (by omega) rfl) rfl rfl rfl (by first | rfl | (simp (discharger := omega) only [msk, clr_i, clr_r, cI, cN, ← nI_0, nI_ltI, nI_leI, nI_eq, nI_add, pk_mul, pk_sub, nI_clamp, vinI, not_true_eq_false, not_false_eq_true, iK0, iK1, iK2, iK3, iK4, iK5, iKm1, bK6, bK7, bK8, bK9, bK10, bK12, bK14, bK15, bK16, bK20, bK21, bK26, bK30, bK32, bK33, bK45, bK48, bK57, bK59, bK60, bK62, bK63, bK64, bK80, bK93, bK98, bK99, bK100, bK104, bK107, bK109, bK110, bK112, bK113, bK114, bK115, bK116, bK119, sK255, sK256, sK500, sK700, sK798, sK912, sK1400, sK2000]; done) | (simp (discharger := omega) only [msk, clr_i, clr_r, cI, cN, ← nI_0, nI_ltI, nI_leI, nI_eq, nI_add, pk_mul, pk_sub, nI_clamp, vinI, not_true_eq_false, not_false_eq_true, iK0, iK1, iK2, iK3, iK4, iK5, iKm1, bK6, bK7, bK8, bK9, bK10, bK12, bK14, bK15, bK16, bK20, bK21, bK26, bK30, bK32, bK33, bK45, bK48, bK57, bK59, bK60, bK62, bK63, bK64, bK80, bK93, bK98, bK99, bK100, bK104, bK107, bK109, bK110, bK112, bK113, bK114, bK115, bK116, bK119, sK255, sK256, sK500, sK700, sK798, sK912, sK1400, sK2000]; rfl)) rfl (by (rw [shf_0]) <;> rfl)
    show _ = mw (((N.s_co (nI 0)).s_kp (kpX N N.g)).s_ch (chX N))
    rw [e1, e2]
  · rename_i g
    simp only [cN, ← nI_0] at g
    have e1 : kpX N N.g = N.kp := if_neg g
    have e2 : chX N = N.ch := if_neg g
    show _ = mw (((N.s_co (nI 0)).s_kp (kpX N N.g)).s_ch (chX N))
    rw [e1, e2]
    rfl
set_option maxRecDepth 20000 in
theorem md_keep_tB (hg : gOK G) (N : nT) (h3 : N.ch = nI 8) (kp1 : Nat → Int32) {K : Option Value → xW → Prop} {KX : Nat → xW → Prop} (hK : K none (mw ((N.s_kp (cpo kp1 N.bf 0 (114 * 7) 114)).s_ch (nI 8)))) : AW G M_X9_keeps 2 0 0 52 [some (.ref 0), some (.ref 4), none] [] (mw (N.s_kp kp1)) K KX := by
  have e : (N.s_kp kp1).ch = nI 8 := h3
  refine wp_ok (M := M_X9_keeps) hg ok_X9_keeps (lkp []) 60 _ _ _ _ _ _ ?_
  repeat' (first | refine And.intro ?_ ?_ | (with_reducible intro h9; exact absurd h9 (by simp only [cI, cN]; decide +kernel)) | with_reducible intro _ | exact (rfl : narrow _ _ = _) | decide | (unfold vp_in; decide))
  refine cc0 [4, 2] (md_copies hg 114 912 0 (114 * 7) N.bf kp1 (by omega) (by omega) (by omega) (by omega)) (by decide) (by decide) (by decide) rfl (by repeat' (first | exact trivial | refine And.intro ?_ ?_ | rfl)) (by first | rfl | (simp (discharger := omega) only [renVs, renV, rnI, e, cI, cN, ← nI_0, nI_ltI, nI_leI, nI_eq, nI_add, pk_mul, pk_sub, nI_clamp, vinI, not_true_eq_false, not_false_eq_true, iK0, iK1, iK2, iK3, iK4, iK5, iKm1, bK6, bK7, bK8, bK9, bK10, bK12, bK14, bK15, bK16, bK20, bK21, bK26, bK30, bK32, bK33, bK45, bK48, bK57, bK59, bK60, bK62, bK63, bK64, bK80, bK93, bK98, bK99, bK100, bK104, bK107, bK109, bK110, bK112, bK113, bK114, bK115, bK116, bK119, sK255, sK256, sK500, sK700, sK798, sK912, sK1400, sK2000])) ?_
  (rintro _ _ ⟨rfl, rfl⟩) <;> (repeat' (first | refine And.intro ?_ ?_ | (with_reducible intro h9; exact absurd h9 (by simp only [cI, cN]; decide +kernel)) | with_reducible intro _ | exact (rfl : narrow _ _ = _) | decide | (unfold vp_in; decide)))
  exact Kcg (K := K) hK rfl (by simp (discharger := omega) only [e, iK1, pk_sub, nI_add]; rfl)
set_option maxRecDepth 20000 in
theorem md_keepB (hg : gOK G) (N : nT) (hc : N.cK) : Spec G 2 0 0 m_X9_keeps [.ref 0, .ref 4] (mw N) (fun v w' => v = none ∧ w' = mw (N.kps N.bf)) NX := by
  obtain ⟨h1, c, h2, h3⟩ := hc
  refine wp_spec (M := M_X9_keeps) hg ok_X9_keeps (lkp [(24, [true, true, true]), (52, [true, true, false])]) 60 rfl rfl ?_
  repeat' (first | refine And.intro ?_ ?_ | (with_reducible intro h9; exact absurd h9 (by simp only [cI, cN]; decide +kernel)) | with_reducible intro _ | exact (rfl : narrow _ _ = _) | decide | (unfold vp_in; decide))
  · rename_i g g2
    simp only [cI, ← nI_0] at g
    simp (discharger := omega) only [cI, h3, bK8, nI_eq] at g2
    have g3 : ¬ N.ch = nI 8 := by rw [h3, nI_eq (by omega) (by omega)]; exact g2
    have e1 : kpX N N.bf = cpo N.kp N.bf 0 (114 * c) 114 := by
      unfold kpX
      rw [if_pos g, if_neg g3, h3, nI_clamp (by omega)]
    have e2 : chX N = nI c + nI 1 := by
      unfold chX
      rw [if_pos g, if_neg g3, h3]
    rw [h3]
    refine cc0 [4, 2] (md_copies hg 114 912 0 (114 * c) N.bf N.kp (by omega) (by omega) (by omega) (by omega)) (by decide) (by decide) (by decide) rfl (by repeat' (first | exact trivial | refine And.intro ?_ ?_ | rfl)) (by first | rfl | (simp (discharger := omega) only [renVs, renV, rnI, cI, cN, ← nI_0, nI_ltI, nI_leI, nI_eq, nI_add, pk_mul, pk_sub, nI_clamp, vinI, not_true_eq_false, not_false_eq_true, iK0, iK1, iK2, iK3, iK4, iK5, iKm1, bK6, bK7, bK8, bK9, bK10, bK12, bK14, bK15, bK16, bK20, bK21, bK26, bK30, bK32, bK33, bK45, bK48, bK57, bK59, bK60, bK62, bK63, bK64, bK80, bK93, bK98, bK99, bK100, bK104, bK107, bK109, bK110, bK112, bK113, bK114, bK115, bK116, bK119, sK255, sK256, sK500, sK700, sK798, sK912, sK1400, sK2000])) ?_
    (rintro _ _ ⟨rfl, rfl⟩) <;> (repeat' (first | refine And.intro ?_ ?_ | (with_reducible intro h9; exact absurd h9 (by simp only [cI, cN]; decide +kernel)) | with_reducible intro _ | exact (rfl : narrow _ _ = _) | decide | (unfold vp_in; decide)))
    show _ = mw (((N.s_co (nI 0)).s_kp (kpX N N.bf)).s_ch (chX N))
    rw [e1, e2]
    rfl
  · rename_i g g2
    simp only [cI, ← nI_0] at g
    simp only [cN, bK8, Classical.not_not] at g2
    have e1 : kpX N N.bf = cpo (shf N.kp 0 798 114) N.bf 0 (114 * 7) 114 := by
      unfold kpX
      rw [if_pos g, if_pos g2]
    have e2 : chX N = nI 8 := by
      unfold chX
      rw [if_pos g, if_pos g2]
    refine AW.cg (md_keep_l hg (N.s_co (nI 0)) N.bf N.kp 4 (md_keep_tB hg (N.s_co (nI 0)) g2 _ ⟨rfl, ?_⟩) _ 0 (by omega) rfl) rfl rfl rfl (by first | rfl | (simp (discharger := omega) only [msk, clr_i, clr_r, cI, cN, ← nI_0, nI_ltI, nI_leI, nI_eq, nI_add, pk_mul, pk_sub, nI_clamp, vinI, not_true_eq_false, not_false_eq_true, iK0, iK1, iK2, iK3, iK4, iK5, iKm1, bK6, bK7, bK8, bK9, bK10, bK12, bK14, bK15, bK16, bK20, bK21, bK26, bK30, bK32, bK33, bK45, bK48, bK57, bK59, bK60, bK62, bK63, bK64, bK80, bK93, bK98, bK99, bK100, bK104, bK107, bK109, bK110, bK112, bK113, bK114, bK115, bK116, bK119, sK255, sK256, sK500, sK700, sK798, sK912, sK1400, sK2000]; done) | (simp (discharger := omega) only [msk, clr_i, clr_r, cI, cN, ← nI_0, nI_ltI, nI_leI, nI_eq, nI_add, pk_mul, pk_sub, nI_clamp, vinI, not_true_eq_false, not_false_eq_true, iK0, iK1, iK2, iK3, iK4, iK5, iKm1, bK6, bK7, bK8, bK9, bK10, bK12, bK14, bK15, bK16, bK20, bK21, bK26, bK30, bK32, bK33, bK45, bK48, bK57, bK59, bK60, bK62, bK63, bK64, bK80, bK93, bK98, bK99, bK100, bK104, bK107, bK109, bK110, bK112, bK113, bK114, bK115, bK116, bK119, sK255, sK256, sK500, sK700, sK798, sK912, sK1400, sK2000]; rfl)) rfl (by (rw [shf_0]) <;> rfl)
    show _ = mw (((N.s_co (nI 0)).s_kp (kpX N N.bf)).s_ch (chX N))
    rw [e1, e2]
  · rename_i g
    simp only [cN, ← nI_0] at g
    have e1 : kpX N N.bf = N.kp := if_neg g
    have e2 : chX N = N.ch := if_neg g
    show _ = mw (((N.s_co (nI 0)).s_kp (kpX N N.bf)).s_ch (chX N))
    rw [e1, e2]
    rfl
set_option maxRecDepth 20000 in
theorem md_cools (hg : gOK G) (N : nT) (n : Nat) (hn : N.nb n) (i r : Nat) (hi : i < n) (hr : r < 4) (hb : N.b i 3 = nI r) : Spec G 4 0 0 m_X9_cools [.ref 0, .int (nI i)] (mw N) (fun v w' =>
    (gck N.g n i = false ∧ v = some (.int (nI 0)) ∧ w' = mw (N.s_g (upd N.g (30 + 7 * i + 4) (mxi (nI 0) (N.b i 4 - glo N.g n i))))) ∨
    (gck N.g n i = true ∧ v = some (.int (nI 1)) ∧ w' = mw (N.s_g (upd (upd N.g (30 + 7 * i + 4) (mxi (nI 0) (N.b i 4 - glo N.g n i))) (30 + 7 * i + 5) (N.b i 5 + nI 1))))) NX := by
  have hn2 := hn.2
  have el : mlos N.g n r = glo N.g n i := by
    show _ = mlos N.g n (grk N.g i)
    rw [show grk N.g i = r from by unfold grk; rw [show N.g (30 + 7 * i + 3) = nI r from hb, nI_clamp (by omega)]]
  have hu1 : (N.s_g (upd N.g (30 + 7 * i + 4) (mxi (nI 0) (N.b i 4 - glo N.g n i)))).b i 1 = N.g (30 + 7 * i + 1) := upd_ne (by omega)
  have hu5 : (N.s_g (upd N.g (30 + 7 * i + 4) (mxi (nI 0) (N.b i 4 - glo N.g n i)))).b i 5 = N.g (30 + 7 * i + 5) := upd_ne (by omega)
  have sp1 := md_losing hg N n hn r hr
  rw [el] at sp1
  refine wp_spec (M := M_X9_cools) hg ok_X9_cools cut0 90 rfl rfl ?_
  repeat' (first | refine And.intro ?_ ?_ | (with_reducible intro h9; exact absurd h9 (by simp only [cI, cN]; decide +kernel)) | with_reducible intro _ | exact (rfl : narrow _ _ = _) | decide | (unfold vp_in; decide))
  refine cc0 [0, 1, 2, 3, 4, 5, 6, 7, 8] (md_of hg N i 3 (by omega) (by omega)) (by decide) (by decide) (by decide) rfl (by repeat' (first | exact trivial | refine And.intro ?_ ?_ | rfl)) (by first | rfl | (simp (discharger := omega) only [renVs, renV, rnI, cI, cN, ← nI_0, nI_ltI, nI_leI, nI_eq, nI_add, pk_mul, pk_sub, nI_clamp, vinI, not_true_eq_false, not_false_eq_true, iK0, iK1, iK2, iK3, iK4, iK5, iKm1, bK6, bK7, bK8, bK9, bK10, bK12, bK14, bK15, bK16, bK20, bK21, bK26, bK30, bK32, bK33, bK45, bK48, bK57, bK59, bK60, bK62, bK63, bK64, bK80, bK93, bK98, bK99, bK100, bK104, bK107, bK109, bK110, bK112, bK113, bK114, bK115, bK116, bK119, sK255, sK256, sK500, sK700, sK798, sK912, sK1400, sK2000])) ?_
  (rintro _ _ ⟨rfl, rfl⟩) <;> (repeat' (first | refine And.intro ?_ ?_ | (with_reducible intro h9; exact absurd h9 (by simp only [cI, cN]; decide +kernel)) | with_reducible intro _ | exact (rfl : narrow _ _ = _) | decide | (unfold vp_in; decide)))
  rw [hb]
  refine cc0 [0, 1, 2, 3, 4, 5, 6, 7, 8] (sp1) (by decide) (by decide) (by decide) rfl (by repeat' (first | exact trivial | refine And.intro ?_ ?_ | rfl)) (by first | rfl | (simp (discharger := omega) only [renVs, renV, rnI, cI, cN, ← nI_0, nI_ltI, nI_leI, nI_eq, nI_add, pk_mul, pk_sub, nI_clamp, vinI, not_true_eq_false, not_false_eq_true, iK0, iK1, iK2, iK3, iK4, iK5, iKm1, bK6, bK7, bK8, bK9, bK10, bK12, bK14, bK15, bK16, bK20, bK21, bK26, bK30, bK32, bK33, bK45, bK48, bK57, bK59, bK60, bK62, bK63, bK64, bK80, bK93, bK98, bK99, bK100, bK104, bK107, bK109, bK110, bK112, bK113, bK114, bK115, bK116, bK119, sK255, sK256, sK500, sK700, sK798, sK912, sK1400, sK2000])) ?_
  (rintro _ _ ⟨rfl, rfl⟩) <;> (repeat' (first | refine And.intro ?_ ?_ | (with_reducible intro h9; exact absurd h9 (by simp only [cI, cN]; decide +kernel)) | with_reducible intro _ | exact (rfl : narrow _ _ = _) | decide | (unfold vp_in; decide)))
  refine cc0 [0, 1, 2, 3, 4, 5, 6, 7, 8] (md_of hg N i 4 (by omega) (by omega)) (by decide) (by decide) (by decide) rfl (by repeat' (first | exact trivial | refine And.intro ?_ ?_ | rfl)) (by first | rfl | (simp (discharger := omega) only [renVs, renV, rnI, cI, cN, ← nI_0, nI_ltI, nI_leI, nI_eq, nI_add, pk_mul, pk_sub, nI_clamp, vinI, not_true_eq_false, not_false_eq_true, iK0, iK1, iK2, iK3, iK4, iK5, iKm1, bK6, bK7, bK8, bK9, bK10, bK12, bK14, bK15, bK16, bK20, bK21, bK26, bK30, bK32, bK33, bK45, bK48, bK57, bK59, bK60, bK62, bK63, bK64, bK80, bK93, bK98, bK99, bK100, bK104, bK107, bK109, bK110, bK112, bK113, bK114, bK115, bK116, bK119, sK255, sK256, sK500, sK700, sK798, sK912, sK1400, sK2000])) ?_
  (rintro _ _ ⟨rfl, rfl⟩) <;> (repeat' (first | refine And.intro ?_ ?_ | (with_reducible intro h9; exact absurd h9 (by simp only [cI, cN]; decide +kernel)) | with_reducible intro _ | exact (rfl : narrow _ _ = _) | decide | (unfold vp_in; decide)))
  refine cc0 [] (md_most hg _ _) (by decide) (by decide) (by decide) rfl (by repeat' (first | exact trivial | refine And.intro ?_ ?_ | rfl)) (by first | rfl | (simp (discharger := omega) only [renVs, renV, rnI, cI, cN, ← nI_0, nI_ltI, nI_leI, nI_eq, nI_add, pk_mul, pk_sub, nI_clamp, vinI, not_true_eq_false, not_false_eq_true, iK0, iK1, iK2, iK3, iK4, iK5, iKm1, bK6, bK7, bK8, bK9, bK10, bK12, bK14, bK15, bK16, bK20, bK21, bK26, bK30, bK32, bK33, bK45, bK48, bK57, bK59, bK60, bK62, bK63, bK64, bK80, bK93, bK98, bK99, bK100, bK104, bK107, bK109, bK110, bK112, bK113, bK114, bK115, bK116, bK119, sK255, sK256, sK500, sK700, sK798, sK912, sK1400, sK2000])) ?_
  (rintro _ _ ⟨rfl, rfl⟩) <;> (repeat' (first | refine And.intro ?_ ?_ | (with_reducible intro h9; exact absurd h9 (by simp only [cI, cN]; decide +kernel)) | with_reducible intro _ | exact (rfl : narrow _ _ = _) | decide | (unfold vp_in; decide)))
  refine cc0 [0, 1, 2, 3, 4, 5, 6, 7, 8] (md_lays hg N i 4 (by omega) (by omega) _) (by decide) (by decide) (by decide) rfl (by repeat' (first | exact trivial | refine And.intro ?_ ?_ | rfl)) (by first | rfl | (simp (discharger := omega) only [renVs, renV, rnI, cI, cN, ← nI_0, nI_ltI, nI_leI, nI_eq, nI_add, pk_mul, pk_sub, nI_clamp, vinI, not_true_eq_false, not_false_eq_true, iK0, iK1, iK2, iK3, iK4, iK5, iKm1, bK6, bK7, bK8, bK9, bK10, bK12, bK14, bK15, bK16, bK20, bK21, bK26, bK30, bK32, bK33, bK45, bK48, bK57, bK59, bK60, bK62, bK63, bK64, bK80, bK93, bK98, bK99, bK100, bK104, bK107, bK109, bK110, bK112, bK113, bK114, bK115, bK116, bK119, sK255, sK256, sK500, sK700, sK798, sK912, sK1400, sK2000])) ?_
  (rintro _ _ ⟨rfl, rfl⟩) <;> (repeat' (first | refine And.intro ?_ ?_ | (with_reducible intro h9; exact absurd h9 (by simp only [cI, cN]; decide +kernel)) | with_reducible intro _ | exact (rfl : narrow _ _ = _) | decide | (unfold vp_in; decide)))
  refine cc0 [0, 1, 2, 3, 4, 5, 6, 7, 8] (md_of hg (N.s_g (upd N.g (30 + 7 * i + 4) (mxi (nI 0) (N.b i 4 - glo N.g n i)))) i 1 (by omega) (by omega)) (by decide) (by decide) (by decide) rfl (by repeat' (first | exact trivial | refine And.intro ?_ ?_ | rfl)) (by first | rfl | (simp (discharger := omega) only [renVs, renV, rnI, cI, cN, ← nI_0, nI_ltI, nI_leI, nI_eq, nI_add, pk_mul, pk_sub, nI_clamp, vinI, not_true_eq_false, not_false_eq_true, iK0, iK1, iK2, iK3, iK4, iK5, iKm1, bK6, bK7, bK8, bK9, bK10, bK12, bK14, bK15, bK16, bK20, bK21, bK26, bK30, bK32, bK33, bK45, bK48, bK57, bK59, bK60, bK62, bK63, bK64, bK80, bK93, bK98, bK99, bK100, bK104, bK107, bK109, bK110, bK112, bK113, bK114, bK115, bK116, bK119, sK255, sK256, sK500, sK700, sK798, sK912, sK1400, sK2000])) ?_
  (rintro _ _ ⟨rfl, rfl⟩) <;> (repeat' (first | refine And.intro ?_ ?_ | (with_reducible intro h9; exact absurd h9 (by simp only [cI, cN]; decide +kernel)) | with_reducible intro _ | exact (rfl : narrow _ _ = _) | decide | (unfold vp_in; decide)))
  · rename_i g
    simp only [cI, bK6, iK2] at g
    rw [hu1] at g
    refine Or.inl ?_
    exact ⟨decide_eq_false (fun z => z (Or.inl g)), rfl, rfl⟩
  · rename_i g
    simp only [cN, bK6, iK2] at g
    rw [hu1] at g
    refine cc0 [0, 1, 2, 3, 4, 5, 6, 7, 8] (md_of hg (N.s_g (upd N.g (30 + 7 * i + 4) (mxi (nI 0) (N.b i 4 - glo N.g n i)))) i 5 (by omega) (by omega)) (by decide) (by decide) (by decide) rfl (by repeat' (first | exact trivial | refine And.intro ?_ ?_ | rfl)) (by first | rfl | (simp (discharger := omega) only [renVs, renV, rnI, cI, cN, ← nI_0, nI_ltI, nI_leI, nI_eq, nI_add, pk_mul, pk_sub, nI_clamp, vinI, not_true_eq_false, not_false_eq_true, iK0, iK1, iK2, iK3, iK4, iK5, iKm1, bK6, bK7, bK8, bK9, bK10, bK12, bK14, bK15, bK16, bK20, bK21, bK26, bK30, bK32, bK33, bK45, bK48, bK57, bK59, bK60, bK62, bK63, bK64, bK80, bK93, bK98, bK99, bK100, bK104, bK107, bK109, bK110, bK112, bK113, bK114, bK115, bK116, bK119, sK255, sK256, sK500, sK700, sK798, sK912, sK1400, sK2000])) ?_
    (rintro _ _ ⟨rfl, rfl⟩) <;> (repeat' (first | refine And.intro ?_ ?_ | (with_reducible intro h9; exact absurd h9 (by simp only [cI, cN]; decide +kernel)) | with_reducible intro _ | exact (rfl : narrow _ _ = _) | decide | (unfold vp_in; decide)))
    · rename_i g2
      simp only [cI, bK9] at g2
      rw [hu5] at g2
      refine cc0 [0, 1, 2, 3, 4, 5, 6, 7, 8] (md_of hg (N.s_g (upd N.g (30 + 7 * i + 4) (mxi (nI 0) (N.b i 4 - glo N.g n i)))) i 5 (by omega) (by omega)) (by decide) (by decide) (by decide) rfl (by repeat' (first | exact trivial | refine And.intro ?_ ?_ | rfl)) (by first | rfl | (simp (discharger := omega) only [renVs, renV, rnI, cI, cN, ← nI_0, nI_ltI, nI_leI, nI_eq, nI_add, pk_mul, pk_sub, nI_clamp, vinI, not_true_eq_false, not_false_eq_true, iK0, iK1, iK2, iK3, iK4, iK5, iKm1, bK6, bK7, bK8, bK9, bK10, bK12, bK14, bK15, bK16, bK20, bK21, bK26, bK30, bK32, bK33, bK45, bK48, bK57, bK59, bK60, bK62, bK63, bK64, bK80, bK93, bK98, bK99, bK100, bK104, bK107, bK109, bK110, bK112, bK113, bK114, bK115, bK116, bK119, sK255, sK256, sK500, sK700, sK798, sK912, sK1400, sK2000])) ?_
      (rintro _ _ ⟨rfl, rfl⟩) <;> (repeat' (first | refine And.intro ?_ ?_ | (with_reducible intro h9; exact absurd h9 (by simp only [cI, cN]; decide +kernel)) | with_reducible intro _ | exact (rfl : narrow _ _ = _) | decide | (unfold vp_in; decide)))
      refine cc0 [0, 1, 2, 3, 4, 5, 6, 7, 8] (md_lays hg (N.s_g (upd N.g (30 + 7 * i + 4) (mxi (nI 0) (N.b i 4 - glo N.g n i)))) i 5 (by omega) (by omega) _) (by decide) (by decide) (by decide) rfl (by repeat' (first | exact trivial | refine And.intro ?_ ?_ | rfl)) (by first | rfl | (simp (discharger := omega) only [renVs, renV, rnI, cI, cN, ← nI_0, nI_ltI, nI_leI, nI_eq, nI_add, pk_mul, pk_sub, nI_clamp, vinI, not_true_eq_false, not_false_eq_true, iK0, iK1, iK2, iK3, iK4, iK5, iKm1, bK6, bK7, bK8, bK9, bK10, bK12, bK14, bK15, bK16, bK20, bK21, bK26, bK30, bK32, bK33, bK45, bK48, bK57, bK59, bK60, bK62, bK63, bK64, bK80, bK93, bK98, bK99, bK100, bK104, bK107, bK109, bK110, bK112, bK113, bK114, bK115, bK116, bK119, sK255, sK256, sK500, sK700, sK798, sK912, sK1400, sK2000])) ?_
      (rintro _ _ ⟨rfl, rfl⟩) <;> (repeat' (first | refine And.intro ?_ ?_ | (with_reducible intro h9; exact absurd h9 (by simp only [cI, cN]; decide +kernel)) | with_reducible intro _ | exact (rfl : narrow _ _ = _) | decide | (unfold vp_in; decide)))
      refine Or.inr ?_
      refine ⟨decide_eq_true (fun z => ?_), rfl, ?_⟩
      · rcases z with z | z
        · exact g z
        · exact g2 z
      · show mw (N.s_g (upd _ _ ((N.s_g (upd N.g (30 + 7 * i + 4) (mxi (nI 0) (N.b i 4 - glo N.g n i)))).b i 5 + _))) = _
        rw [hu5]
        rfl
    · rename_i g2
      simp only [cN, bK9, Classical.not_not] at g2
      rw [hu5] at g2
      refine Or.inl ?_
      exact ⟨decide_eq_false (fun z => z (Or.inr g2)), rfl, rfl⟩
end NN
