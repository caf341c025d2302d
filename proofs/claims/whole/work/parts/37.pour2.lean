/-! ===== Pouring: the best way, the first mould, by the hottest ===== -/
def dnL (t : Nat) : Int32 := match t with
  | 0 => -1
  | t + 1 => nI t
/-- the hottest mould that is not in a set -/
def isHt (D : pT) (s b : Nat) : Prop := b < D.2.1 ∧ s.testBit b = false ∧ ∀ k, k < D.2.1 → s.testBit k = false → D.1 k ≤ D.1 b ∧ (D.1 k = D.1 b → b ≤ k)
theorem isHt_u {D : pT} {s a b : Nat} (h1 : isHt D s a) (h2 : isHt D s b) : a = b := by
  have x := h1.2.2 b h2.1 h2.2.1
  have y := h2.2.2 a h1.1 h1.2.1
  have e : D.1 a = D.1 b := by omega
  have := x.2 e.symm
  have := y.2 e
  omega
/-- of the first k moulds -/
def phT (D : pT) (s k b : Nat) : Prop := b < k ∧ s.testBit b = false ∧ ∀ j, j < k → s.testBit j = false → D.1 j ≤ D.1 b ∧ (D.1 j = D.1 b → b ≤ j)
theorem phT_n {D : pT} {s k b : Nat} (h : phT D s k b) (hn : s.testBit k = true ∨ D.1 k ≤ D.1 b) : phT D s (k + 1) b := ⟨by have := h.1; omega, h.2.1, fun j hj hb => by
  rcases Nat.lt_or_ge j k with z | z
  · exact h.2.2 j z hb
  · have : j = k := by omega
    subst this
    rcases hn with q | q
    · rw [q] at hb; cases hb
    · have := h.1
      exact ⟨q, fun _ => by omega⟩⟩
theorem phT_y {D : pT} {s k b : Nat} (h : phT D s k b) (hk : s.testBit k = false) (hc : D.1 b < D.1 k) : phT D s (k + 1) k := ⟨by omega, hk, fun j hj hb => by
  rcases Nat.lt_or_ge j k with z | z
  · have := h.2.2 j z hb
    exact ⟨by omega, fun e => by omega⟩
  · have : j = k := by omega
    subst this
    exact ⟨Nat.le_refl _, fun _ => Nat.le_refl _⟩⟩
theorem phT_0 {D : pT} {s k : Nat} (h : ∀ j, j < k → s.testBit j = true) (hk : s.testBit k = false) : phT D s (k + 1) k := ⟨by omega, hk, fun j hj hb => by
  rcases Nat.lt_or_ge j k with z | z
  · rw [h j z] at hb; cases hb
  · have : j = k := by omega
    subst this
    exact ⟨Nat.le_refl _, fun _ => Nat.le_refl _⟩⟩
section PP
variable {G : gT}
theorem pr_count_o (hg : gOK G) (D : pT) (co hlf plf : Nat → Int32) (hp : pOK D co) (hv0 : ∀ s, s < 2 ^ D.2.1 → hlf s = hv D s ∧ plf s = pv D s) {K : Option Value → xW → Prop} {KX : Nat → xW → Prop} (hK : ∀ mb, mOk D mb 0 → K none (pw D co hlf plf mb)) : ∀ (t : Nat) (ht : t ≤ 2 ^ D.2.1) (mb : Nat → Int32) (hm : mOk D mb t),
    AW G M_X4_countBehind 4 0 0 9 [some (.ref 0), some (.int (dnL t)), none, none] [] (pw D co hlf plf mb) K KX
  | 0, ht, mb, hm => by
    refine wp_ok (M := M_X4_countBehind) hg ok_X4_countBehind (lkp [(9, [true, true, false, false])]) 60 _ _ _ _ _ _ ?_
    repeat' (first | refine And.intro ?_ ?_ | (with_reducible intro h9; exact absurd h9 (by simp only [cI, cN]; decide +kernel)) | with_reducible intro _ | exact (rfl : narrow _ _ = _) | decide | (unfold vp_in; decide))
    exact hK mb hm
  | t + 1, ht, mb, hm => by
    have hn := hp.1
    have h256 := p2_le hn
    refine wp_ok (M := M_X4_countBehind) hg ok_X4_countBehind (lkp [(9, [true, true, false, false]), (17, [true, true, true, true])]) 60 _ _ _ _ _ _ ?_
    repeat' (first | refine And.intro ?_ ?_ | (with_reducible intro h9; exact absurd h9 (by simp only [cI, cN]; decide +kernel)) | with_reducible intro _ | exact (rfl : narrow _ _ = _) | decide | (unfold vp_in; decide))
    · rename_i g
      exact absurd g (by simp only [cI, dnL]; exact nI_pos (by omega))
    · refine AW.cg (pr_count_i hg D co hlf plf mb hp hv0 t (by omega) hm (fun m h8 hmx => ?_) _ 0 (by omega) 0 (by omega) pmx_0 rfl) rfl rfl rfl (by first | rfl | (simp (discharger := omega) only [msk, clr_i, clr_r, dnL, cI, cN, ← nI_0, nI_ltI, nI_leI, nI_eq, nI_add, pk_mul, pk_sub, nI_clamp, vinI, not_true_eq_false, not_false_eq_true, iK0, iK1, iK2, iK3, iK4, iK5, iKm1, bK6, bK7, bK8, bK9, bK10, bK12, bK14, bK15, bK16, bK20, bK21, bK26, bK30, bK32, bK33, bK45, bK48, bK57, bK59, bK60, bK62, bK63, bK64, bK80, bK93, bK98, bK99, bK100, bK104, bK107, bK109, bK110, bK112, bK113, bK114, bK115, bK116, bK119, sK255, sK256, sK500, sK700, sK798, sK912, sK1400, sK2000]; done) | (simp (discharger := omega) only [msk, clr_i, clr_r, dnL, cI, cN, ← nI_0, nI_ltI, nI_leI, nI_eq, nI_add, pk_mul, pk_sub, nI_clamp, vinI, not_true_eq_false, not_false_eq_true, iK0, iK1, iK2, iK3, iK4, iK5, iKm1, bK6, bK7, bK8, bK9, bK10, bK12, bK14, bK15, bK16, bK20, bK21, bK26, bK30, bK32, bK33, bK45, bK48, bK57, bK59, bK60, bK62, bK63, bK64, bK80, bK93, bK98, bK99, bK100, bK104, bK107, bK109, bK110, bK112, bK113, bK114, bK115, bK116, bK119, sK255, sK256, sK500, sK700, sK798, sK912, sK1400, sK2000]; rfl)) rfl rfl
      refine wp_ok (M := M_X4_countBehind) hg ok_X4_countBehind (lkp [(9, [true, true, false, false])]) 60 _ _ _ _ _ _ ?_
      repeat' (first | refine And.intro ?_ ?_ | (with_reducible intro h9; exact absurd h9 (by simp only [cI, cN]; decide +kernel)) | with_reducible intro _ | exact (rfl : narrow _ _ = _) | decide | (unfold vp_in; decide))
      · rw [vinI (by omega)]; omega
      · refine AW.cg (pr_count_o hg D co hlf plf hp hv0 hK t (by omega) (upd mb t (nI m)) (fun s h1 h2 => ?_)) rfl rfl rfl ?_ rfl (by rw [nI_clamp (by omega)]; rfl)
        · by_cases z : s = t
          · subst z
            rw [upd_eq]
            exact ⟨m, rfl, h8, hmx⟩
          · rw [upd_ne z]
            exact hm s (by omega) h2
        · have e : dnL t = nI t + Int32.ofInt (-1) := by
            cases t with
            | zero => decide
            | succ t => rw [iKm1, pk_m1]; rfl
          rw [e]
          rfl
set_option maxRecDepth 20000 in
theorem pr_count (hg : gOK G) (D : pT) (co hlf plf mb0 : Nat → Int32) (hp : pOK D co) (hv0 : ∀ s, s < 2 ^ D.2.1 → hlf s = hv D s ∧ plf s = pv D s) : Spec G 4 0 0 m_X4_countBehind [.ref 0] (pw D co hlf plf mb0) (fun v w' => v = none ∧ ∃ mb, mOk D mb 0 ∧ w' = pw D co hlf plf mb) NX := by
  have hn := hp.1
  have ep := bs_pow ⟨D.2.1, by omega⟩
  simp only at ep
  have hpos : 0 < 2 ^ D.2.1 := Nat.two_pow_pos _
  have hle := p2_le hn
  refine wp_spec (M := M_X4_countBehind) hg ok_X4_countBehind (lkp [(9, [true, true, false, false])]) 60 rfl rfl ?_
  repeat' (first | refine And.intro ?_ ?_ | (with_reducible intro h9; exact absurd h9 (by simp only [cI, cN]; decide +kernel)) | with_reducible intro _ | exact (rfl : narrow _ _ = _) | decide | (unfold vp_in; decide))
  refine AW.cg (pr_count_o hg D co hlf plf hp hv0 (fun mb h => ⟨rfl, mb, h, rfl⟩) (2 ^ D.2.1) (Nat.le_refl _) mb0 (fun s h1 h2 => by omega)) rfl rfl rfl ?_ rfl rfl
  have e : dnL (2 ^ D.2.1) = Int32.ofInt 1 <<< (nI D.2.1 &&& 31) - Int32.ofInt 1 := by
    rw [ep, iK1, pk_sub (by omega)]
    obtain ⟨z, hz⟩ : ∃ z, 2 ^ D.2.1 = z + 1 := ⟨2 ^ D.2.1 - 1, by omega⟩
    rw [hz]
    rfl
  rw [e]
  rfl
set_option maxRecDepth 20000 in
theorem pr_best (hg : gOK G) (D : pT) (co hlf0 plf0 mb0 : Nat → Int32) (hp : pOK D co) : Spec G 5 0 0 m_X4_best [.ref 0] (pw D co hlf0 plf0 mb0) (fun v w' => ∃ m hlf plf mb, m ≤ 8 ∧ isMx D 0 m ∧ (∀ s, s < 2 ^ D.2.1 → hlf s = hv D s ∧ plf s = pv D s) ∧ mOk D mb 0 ∧ v = some (.int (nI m)) ∧ w' = pw D co hlf plf mb) NX := by
  have hpos : 0 < 2 ^ D.2.1 := Nat.two_pow_pos _
  refine wp_spec (M := M_X4_best) hg ok_X4_best cut0 60 rfl rfl ?_
  repeat' (first | refine And.intro ?_ ?_ | (with_reducible intro h9; exact absurd h9 (by simp only [cI, cN]; decide +kernel)) | with_reducible intro _ | exact (rfl : narrow _ _ = _) | decide | (unfold vp_in; decide))
  refine cc0 [0, 1, 2, 3, 4] (pr_weigh hg D co hlf0 plf0 mb0 hp) (by decide) (by decide) (by decide) rfl (by repeat' (first | exact trivial | refine And.intro ?_ ?_ | rfl)) (by first | rfl | (simp (discharger := omega) only [renVs, renV, rnI, cI, cN, ← nI_0, nI_ltI, nI_leI, nI_eq, nI_add, pk_mul, pk_sub, nI_clamp, vinI, not_true_eq_false, not_false_eq_true, iK0, iK1, iK2, iK3, iK4, iK5, iKm1, bK6, bK7, bK8, bK9, bK10, bK12, bK14, bK15, bK16, bK20, bK21, bK26, bK30, bK32, bK33, bK45, bK48, bK57, bK59, bK60, bK62, bK63, bK64, bK80, bK93, bK98, bK99, bK100, bK104, bK107, bK109, bK110, bK112, bK113, bK114, bK115, bK116, bK119, sK255, sK256, sK500, sK700, sK798, sK912, sK1400, sK2000])) ?_
  (rintro _ _ ⟨rfl, hlf, plf, h1, rfl⟩) <;> (repeat' (first | refine And.intro ?_ ?_ | (with_reducible intro h9; exact absurd h9 (by simp only [cI, cN]; decide +kernel)) | with_reducible intro _ | exact (rfl : narrow _ _ = _) | decide | (unfold vp_in; decide)))
  refine cc0 [0, 1, 2, 3, 4] (pr_count hg D co hlf plf mb0 hp h1) (by decide) (by decide) (by decide) rfl (by repeat' (first | exact trivial | refine And.intro ?_ ?_ | rfl)) (by first | rfl | (simp (discharger := omega) only [renVs, renV, rnI, cI, cN, ← nI_0, nI_ltI, nI_leI, nI_eq, nI_add, pk_mul, pk_sub, nI_clamp, vinI, not_true_eq_false, not_false_eq_true, iK0, iK1, iK2, iK3, iK4, iK5, iKm1, bK6, bK7, bK8, bK9, bK10, bK12, bK14, bK15, bK16, bK20, bK21, bK26, bK30, bK32, bK33, bK45, bK48, bK57, bK59, bK60, bK62, bK63, bK64, bK80, bK93, bK98, bK99, bK100, bK104, bK107, bK109, bK110, bK112, bK113, bK114, bK115, bK116, bK119, sK255, sK256, sK500, sK700, sK798, sK912, sK1400, sK2000])) ?_
  (rintro _ _ ⟨rfl, mb, h2, rfl⟩) <;> (repeat' (first | refine And.intro ?_ ?_ | (with_reducible intro h9; exact absurd h9 (by simp only [cI, cN]; decide +kernel)) | with_reducible intro _ | exact (rfl : narrow _ _ = _) | decide | (unfold vp_in; decide)))
  obtain ⟨m, e1, e2, e3⟩ := h2 0 (by omega) hpos
  refine ⟨m, hlf, plf, mb, e2, e3, h1, h2, ?_, rfl⟩
  show some (Value.int (mb (Int32.ofInt 0).toNatClampNeg)) = _
  rw [show (Int32.ofInt 0).toNatClampNeg = 0 from rfl, e1]
/-- a mould with which a longest way begins -/
def isFi (D : pT) (m k : Nat) : Prop := avl D 0 k ∧ isMx D (sb 0 k) (m - 1)
set_option maxRecDepth 20000 in
theorem pr_first_l (hg : gOK G) (D : pT) (co hlf plf mb : Nat → Int32) (hp : pOK D co) (hv0 : ∀ s, s < 2 ^ D.2.1 → hlf s = hv D s ∧ plf s = pv D s) (hm : mOk D mb 0) (m : Nat) (h8 : m ≤ 8) {K : Option Value → xW → Prop} {KX : Nat → xW → Prop} (hK : ∀ k, 0 < m → isFi D m k → (∀ j, j < k → ¬ isFi D m j) → K (some (.int (nI k))) (pw D co hlf plf mb)) (hK2 : (m = 0 ∨ ∀ j, j < D.2.1 → ¬ isFi D m j) → K (some (.int (-1))) (pw D co hlf plf mb)) : ∀ (c k : Nat) (hk : k ≤ D.2.1) (hj : m = 0 ∨ ∀ j, j < k → ¬ isFi D m j) (hc9 : D.2.1 - k = c),
    AW G M_X4_firstOfBest 6 0 0 7 [some (.ref 0), some (.int (nI m)), some (.int (nI k))] [] (pw D co hlf plf mb) K KX := by
  intro c
  induction c using Nat.strongRecOn with | ind c ih => ?_
  intro k hk hj hc9
  have hn := hp.1
  have hpos : 0 < 2 ^ D.2.1 := Nat.two_pow_pos _
  refine wp_ok (M := M_X4_firstOfBest) hg ok_X4_firstOfBest (lkp [(7, [true, true, true])]) 60 _ _ _ _ _ _ ?_
  repeat' (first | refine And.intro ?_ ?_ | (with_reducible intro h9; exact absurd h9 (by simp only [cI, cN]; decide +kernel)) | with_reducible intro _ | exact (rfl : narrow _ _ = _) | decide | (unfold vp_in; decide))
  · rename_i g
    simp (discharger := omega) only [cI, nI_leI] at g
    have : k = D.2.1 := by omega
    subst this
    exact hK2 hj
  · rename_i g g2
    simp (discharger := omega) only [cI, ← nI_0, nI_leI] at g2
    simp (discharger := omega) only [cN, nI_leI] at g
    exact AW.cg (ih _ (by omega) (k + 1) (by omega) (Or.inl (by omega)) rfl) rfl rfl rfl (by first | rfl | (simp (discharger := omega) only [msk, clr_i, clr_r, cI, cN, ← nI_0, nI_ltI, nI_leI, nI_eq, nI_add, pk_mul, pk_sub, nI_clamp, vinI, not_true_eq_false, not_false_eq_true, iK0, iK1, iK2, iK3, iK4, iK5, iKm1, bK6, bK7, bK8, bK9, bK10, bK12, bK14, bK15, bK16, bK20, bK21, bK26, bK30, bK32, bK33, bK45, bK48, bK57, bK59, bK60, bK62, bK63, bK64, bK80, bK93, bK98, bK99, bK100, bK104, bK107, bK109, bK110, bK112, bK113, bK114, bK115, bK116, bK119, sK255, sK256, sK500, sK700, sK798, sK912, sK1400, sK2000]; done) | (simp (discharger := omega) only [msk, clr_i, clr_r, cI, cN, ← nI_0, nI_ltI, nI_leI, nI_eq, nI_add, pk_mul, pk_sub, nI_clamp, vinI, not_true_eq_false, not_false_eq_true, iK0, iK1, iK2, iK3, iK4, iK5, iKm1, bK6, bK7, bK8, bK9, bK10, bK12, bK14, bK15, bK16, bK20, bK21, bK26, bK30, bK32, bK33, bK45, bK48, bK57, bK59, bK60, bK62, bK63, bK64, bK80, bK93, bK98, bK99, bK100, bK104, bK107, bK109, bK110, bK112, bK113, bK114, bK115, bK116, bK119, sK255, sK256, sK500, sK700, sK798, sK912, sK1400, sK2000]; rfl)) rfl rfl
  · rename_i g g2
    simp (discharger := omega) only [cN, nI_leI] at g
    simp (discharger := omega) only [cN, ← nI_0, nI_leI] at g2
    have hj2 : ¬ isFi D m k → ∀ j, j < k + 1 → ¬ isFi D m j := fun hnk j hjk => by
      rcases hj with q | q
      · omega
      · rcases Nat.lt_or_ge j k with z | z
        · exact q j z
        · have : j = k := by omega
          rw [this]; exact hnk
    refine cc0 [0, 1, 2, 3, 4] (pr_next hg D co hlf plf mb hp 0 k hpos (by omega) (hv0 0 hpos).1 (hv0 0 hpos).2) (by decide) (by decide) (by decide) rfl (by repeat' (first | exact trivial | refine And.intro ?_ ?_ | rfl)) (by first | rfl | (simp (discharger := omega) only [renVs, renV, rnI, cI, cN, ← nI_0, nI_ltI, nI_leI, nI_eq, nI_add, pk_mul, pk_sub, nI_clamp, vinI, not_true_eq_false, not_false_eq_true, iK0, iK1, iK2, iK3, iK4, iK5, iKm1, bK6, bK7, bK8, bK9, bK10, bK12, bK14, bK15, bK16, bK20, bK21, bK26, bK30, bK32, bK33, bK45, bK48, bK57, bK59, bK60, bK62, bK63, bK64, bK80, bK93, bK98, bK99, bK100, bK104, bK107, bK109, bK110, bK112, bK113, bK114, bK115, bK116, bK119, sK255, sK256, sK500, sK700, sK798, sK912, sK1400, sK2000])) ?_
    (rintro _ _ ⟨⟨ha, rfl⟩ | ⟨ha, rfl⟩, rfl⟩) <;> (repeat' (first | refine And.intro ?_ ?_ | (with_reducible intro h9; exact absurd h9 (by simp only [cI, cN]; decide +kernel)) | with_reducible intro _ | exact (rfl : narrow _ _ = _) | decide | (unfold vp_in; decide)))
    · rename_i g3
      obtain ⟨b, e1, e2, e3⟩ := hm (sb 0 k) (by omega) (sb_n hn hpos ha.1)
      simp (discharger := omega) only [cI, e1, nI_add, nI_eq] at g3
      exact AW.cg (ih _ (by omega) (k + 1) (by omega) (Or.inr (hj2 fun z => g3 (by have := isMx_u e3 z.2; omega))) rfl) rfl rfl rfl (by first | rfl | (simp (discharger := omega) only [msk, clr_i, clr_r, cI, cN, ← nI_0, nI_ltI, nI_leI, nI_eq, nI_add, pk_mul, pk_sub, nI_clamp, vinI, not_true_eq_false, not_false_eq_true, iK0, iK1, iK2, iK3, iK4, iK5, iKm1, bK6, bK7, bK8, bK9, bK10, bK12, bK14, bK15, bK16, bK20, bK21, bK26, bK30, bK32, bK33, bK45, bK48, bK57, bK59, bK60, bK62, bK63, bK64, bK80, bK93, bK98, bK99, bK100, bK104, bK107, bK109, bK110, bK112, bK113, bK114, bK115, bK116, bK119, sK255, sK256, sK500, sK700, sK798, sK912, sK1400, sK2000]; done) | (simp (discharger := omega) only [msk, clr_i, clr_r, cI, cN, ← nI_0, nI_ltI, nI_leI, nI_eq, nI_add, pk_mul, pk_sub, nI_clamp, vinI, not_true_eq_false, not_false_eq_true, iK0, iK1, iK2, iK3, iK4, iK5, iKm1, bK6, bK7, bK8, bK9, bK10, bK12, bK14, bK15, bK16, bK20, bK21, bK26, bK30, bK32, bK33, bK45, bK48, bK57, bK59, bK60, bK62, bK63, bK64, bK80, bK93, bK98, bK99, bK100, bK104, bK107, bK109, bK110, bK112, bK113, bK114, bK115, bK116, bK119, sK255, sK256, sK500, sK700, sK798, sK912, sK1400, sK2000]; rfl)) rfl rfl
    · rename_i g3
      obtain ⟨b, e1, e2, e3⟩ := hm (sb 0 k) (by omega) (sb_n hn hpos ha.1)
      simp (discharger := omega) only [cN, e1, nI_add, nI_eq] at g3
      refine hK k (by omega) ⟨ha, by rw [show m - 1 = b by omega]; exact e3⟩ (fun j hjk => ?_)
      rcases hj with q | q
      · omega
      · exact q j hjk
    · exact AW.cg (ih _ (by omega) (k + 1) (by omega) (Or.inr (hj2 fun z => ha z.1)) rfl) rfl rfl rfl (by first | rfl | (simp (discharger := omega) only [msk, clr_i, clr_r, cI, cN, ← nI_0, nI_ltI, nI_leI, nI_eq, nI_add, pk_mul, pk_sub, nI_clamp, vinI, not_true_eq_false, not_false_eq_true, iK0, iK1, iK2, iK3, iK4, iK5, iKm1, bK6, bK7, bK8, bK9, bK10, bK12, bK14, bK15, bK16, bK20, bK21, bK26, bK30, bK32, bK33, bK45, bK48, bK57, bK59, bK60, bK62, bK63, bK64, bK80, bK93, bK98, bK99, bK100, bK104, bK107, bK109, bK110, bK112, bK113, bK114, bK115, bK116, bK119, sK255, sK256, sK500, sK700, sK798, sK912, sK1400, sK2000]; done) | (simp (discharger := omega) only [msk, clr_i, clr_r, cI, cN, ← nI_0, nI_ltI, nI_leI, nI_eq, nI_add, pk_mul, pk_sub, nI_clamp, vinI, not_true_eq_false, not_false_eq_true, iK0, iK1, iK2, iK3, iK4, iK5, iKm1, bK6, bK7, bK8, bK9, bK10, bK12, bK14, bK15, bK16, bK20, bK21, bK26, bK30, bK32, bK33, bK45, bK48, bK57, bK59, bK60, bK62, bK63, bK64, bK80, bK93, bK98, bK99, bK100, bK104, bK107, bK109, bK110, bK112, bK113, bK114, bK115, bK116, bK119, sK255, sK256, sK500, sK700, sK798, sK912, sK1400, sK2000]; rfl)) rfl rfl
    · rename_i g3
      simp (discharger := omega) only [cN, nI_eq] at g3
      omega
set_option maxRecDepth 20000 in
theorem pr_first (hg : gOK G) (D : pT) (co hlf0 plf0 mb0 : Nat → Int32) (hp : pOK D co) : Spec G 6 0 0 m_X4_firstOfBest [.ref 0] (pw D co hlf0 plf0 mb0) (fun v w' => (∃ m, isMx D 0 m ∧ ((∃ k, 0 < m ∧ isFi D m k ∧ (∀ j, j < k → ¬ isFi D m j) ∧ v = some (.int (nI k))) ∨ ((m = 0 ∨ ∀ j, j < D.2.1 → ¬ isFi D m j) ∧ v = some (.int (-1))))) ∧ ∃ hlf plf mb, w' = pw D co hlf plf mb) NX := by
  refine wp_spec (M := M_X4_firstOfBest) hg ok_X4_firstOfBest (lkp [(7, [true, true, true])]) 60 rfl rfl ?_
  repeat' (first | refine And.intro ?_ ?_ | (with_reducible intro h9; exact absurd h9 (by simp only [cI, cN]; decide +kernel)) | with_reducible intro _ | exact (rfl : narrow _ _ = _) | decide | (unfold vp_in; decide))
  refine cc0 [0, 1, 2, 3, 4] (pr_best hg D co hlf0 plf0 mb0 hp) (by decide) (by decide) (by decide) rfl (by repeat' (first | exact trivial | refine And.intro ?_ ?_ | rfl)) (by first | rfl | (simp (discharger := omega) only [renVs, renV, rnI, cI, cN, ← nI_0, nI_ltI, nI_leI, nI_eq, nI_add, pk_mul, pk_sub, nI_clamp, vinI, not_true_eq_false, not_false_eq_true, iK0, iK1, iK2, iK3, iK4, iK5, iKm1, bK6, bK7, bK8, bK9, bK10, bK12, bK14, bK15, bK16, bK20, bK21, bK26, bK30, bK32, bK33, bK45, bK48, bK57, bK59, bK60, bK62, bK63, bK64, bK80, bK93, bK98, bK99, bK100, bK104, bK107, bK109, bK110, bK112, bK113, bK114, bK115, bK116, bK119, sK255, sK256, sK500, sK700, sK798, sK912, sK1400, sK2000])) ?_
  (rintro _ _ ⟨m, hlf, plf, mb, h8, hmx, h1, h2, rfl, rfl⟩) <;> (repeat' (first | refine And.intro ?_ ?_ | (with_reducible intro h9; exact absurd h9 (by simp only [cI, cN]; decide +kernel)) | with_reducible intro _ | exact (rfl : narrow _ _ = _) | decide | (unfold vp_in; decide)))
  exact AW.cg (pr_first_l hg D co hlf plf mb hp h1 h2 m h8 (fun k q1 q2 q3 => ⟨⟨m, hmx, Or.inl ⟨k, q1, q2, q3, rfl⟩⟩, hlf, plf, mb, rfl⟩) (fun q => ⟨⟨m, hmx, Or.inr ⟨q, rfl⟩⟩, hlf, plf, mb, rfl⟩) _ 0 (by omega) (Or.inr fun j hj => by omega) rfl) rfl rfl rfl (by first | rfl | (simp (discharger := omega) only [msk, clr_i, clr_r, cI, cN, ← nI_0, nI_ltI, nI_leI, nI_eq, nI_add, pk_mul, pk_sub, nI_clamp, vinI, not_true_eq_false, not_false_eq_true, iK0, iK1, iK2, iK3, iK4, iK5, iKm1, bK6, bK7, bK8, bK9, bK10, bK12, bK14, bK15, bK16, bK20, bK21, bK26, bK30, bK32, bK33, bK45, bK48, bK57, bK59, bK60, bK62, bK63, bK64, bK80, bK93, bK98, bK99, bK100, bK104, bK107, bK109, bK110, bK112, bK113, bK114, bK115, bK116, bK119, sK255, sK256, sK500, sK700, sK798, sK912, sK1400, sK2000]; done) | (simp (discharger := omega) only [msk, clr_i, clr_r, cI, cN, ← nI_0, nI_ltI, nI_leI, nI_eq, nI_add, pk_mul, pk_sub, nI_clamp, vinI, not_true_eq_false, not_false_eq_true, iK0, iK1, iK2, iK3, iK4, iK5, iKm1, bK6, bK7, bK8, bK9, bK10, bK12, bK14, bK15, bK16, bK20, bK21, bK26, bK30, bK32, bK33, bK45, bK48, bK57, bK59, bK60, bK62, bK63, bK64, bK80, bK93, bK98, bK99, bK100, bK104, bK107, bK109, bK110, bK112, bK113, bK114, bK115, bK116, bK119, sK255, sK256, sK500, sK700, sK798, sK912, sK1400, sK2000]; rfl)) rfl rfl
set_option maxRecDepth 20000 in
theorem pr_hot_l (hg : gOK G) (D : pT) (co hlf plf mb : Nat → Int32) (hp : pOK D co) (s : Nat) (hs : s < 256) {K : Option Value → xW → Prop} {KX : Nat → xW → Prop} (hK : ∀ b, isHt D s b → K (some (.int (nI b))) (pw D co hlf plf mb)) (hex : ∃ k, k < D.2.1 ∧ s.testBit k = false) : ∀ (c k : Nat) (hk : k ≤ D.2.1) (b gr : Nat) (hb : (phT D s k b ∧ gr = D.1 b) ∨ ((∀ j, j < k → s.testBit j = true) ∧ b = 0 ∧ gr = 0)) (hc9 : D.2.1 - k = c),
    AW G M_X4_hottestBut 1 0 0 7 [some (.ref 0), some (.int (nI s)), some (.int (nI b)), some (.int (nI gr)), some (.int (nI k))] [] (pw D co hlf plf mb) K KX := by
  intro c
  induction c using Nat.strongRecOn with | ind c ih => ?_
  intro k hk b gr hb hc9
  have hn := hp.1
  have hgr : gr ≤ 60 := by
    rcases hb with ⟨-, q⟩ | ⟨-, -, q⟩
    · rw [q]; exact (hp.2.2.2.2.1 b).2
    · omega
  refine wp_ok (M := M_X4_hottestBut) hg ok_X4_hottestBut (lkp [(7, [true, true, true, true, true])]) 60 _ _ _ _ _ _ ?_
  repeat' (first | refine And.intro ?_ ?_ | (with_reducible intro h9; exact absurd h9 (by simp only [cI, cN]; decide +kernel)) | with_reducible intro _ | exact (rfl : narrow _ _ = _) | decide | (unfold vp_in; decide))
  · rename_i g
    simp (discharger := omega) only [cI, nI_leI] at g
    have : k = D.2.1 := by omega
    subst this
    rcases hb with ⟨q, -⟩ | ⟨q, -⟩
    · exact hK b q
    · obtain ⟨j, h1, h2⟩ := hex
      rw [q j h1] at h2
      cases h2
  · rename_i g g2
    simp (discharger := omega) only [cN, nI_leI] at g
    have hbit : s.testBit k = true := by
      cases hz : s.testBit k with
      | true => rfl
      | false => exact absurd ((b_and8 hs (show k < 8 by omega)).mpr hz) g2
    exact AW.cg (ih _ (by omega) (k + 1) (by omega) b gr (by
      rcases hb with ⟨q, e⟩ | ⟨q, e⟩
      · exact Or.inl ⟨phT_n q (Or.inl hbit), e⟩
      · exact Or.inr ⟨fun j hj => by
          rcases Nat.lt_or_ge j k with z | z
          · exact q j z
          · have : j = k := by omega
            rw [this]; exact hbit, e⟩) rfl) rfl rfl rfl (by first | rfl | (simp (discharger := omega) only [msk, clr_i, clr_r, cI, cN, ← nI_0, nI_ltI, nI_leI, nI_eq, nI_add, pk_mul, pk_sub, nI_clamp, vinI, not_true_eq_false, not_false_eq_true, iK0, iK1, iK2, iK3, iK4, iK5, iKm1, bK6, bK7, bK8, bK9, bK10, bK12, bK14, bK15, bK16, bK20, bK21, bK26, bK30, bK32, bK33, bK45, bK48, bK57, bK59, bK60, bK62, bK63, bK64, bK80, bK93, bK98, bK99, bK100, bK104, bK107, bK109, bK110, bK112, bK113, bK114, bK115, bK116, bK119, sK255, sK256, sK500, sK700, sK798, sK912, sK1400, sK2000]; done) | (simp (discharger := omega) only [msk, clr_i, clr_r, cI, cN, ← nI_0, nI_ltI, nI_leI, nI_eq, nI_add, pk_mul, pk_sub, nI_clamp, vinI, not_true_eq_false, not_false_eq_true, iK0, iK1, iK2, iK3, iK4, iK5, iKm1, bK6, bK7, bK8, bK9, bK10, bK12, bK14, bK15, bK16, bK20, bK21, bK26, bK30, bK32, bK33, bK45, bK48, bK57, bK59, bK60, bK62, bK63, bK64, bK80, bK93, bK98, bK99, bK100, bK104, bK107, bK109, bK110, bK112, bK113, bK114, bK115, bK116, bK119, sK255, sK256, sK500, sK700, sK798, sK912, sK1400, sK2000]; rfl)) rfl rfl
  · rename_i g g2
    simp (discharger := omega) only [cN, nI_leI] at g
    rw [vinI (by omega)]; omega
  · rename_i g g2 g3
    simp (discharger := omega) only [cN, nI_leI] at g
    have hbit : s.testBit k = false := (b_and8 hs (show k < 8 by omega)).mp g2
    have hcb := hp.2.2.2.2.1 k
    simp (discharger := omega) only [cI, nI_clamp, hp.2.2.2.2.2 k (by omega), nI_leI] at g3
    exact AW.cg (ih _ (by omega) (k + 1) (by omega) b gr (by
      rcases hb with ⟨q, e⟩ | ⟨q, e, e2⟩
      · exact Or.inl ⟨phT_n q (Or.inr (by omega)), e⟩
      · omega) rfl) rfl rfl rfl (by first | rfl | (simp (discharger := omega) only [msk, clr_i, clr_r, cI, cN, ← nI_0, nI_ltI, nI_leI, nI_eq, nI_add, pk_mul, pk_sub, nI_clamp, vinI, not_true_eq_false, not_false_eq_true, iK0, iK1, iK2, iK3, iK4, iK5, iKm1, bK6, bK7, bK8, bK9, bK10, bK12, bK14, bK15, bK16, bK20, bK21, bK26, bK30, bK32, bK33, bK45, bK48, bK57, bK59, bK60, bK62, bK63, bK64, bK80, bK93, bK98, bK99, bK100, bK104, bK107, bK109, bK110, bK112, bK113, bK114, bK115, bK116, bK119, sK255, sK256, sK500, sK700, sK798, sK912, sK1400, sK2000]; done) | (simp (discharger := omega) only [msk, clr_i, clr_r, cI, cN, ← nI_0, nI_ltI, nI_leI, nI_eq, nI_add, pk_mul, pk_sub, nI_clamp, vinI, not_true_eq_false, not_false_eq_true, iK0, iK1, iK2, iK3, iK4, iK5, iKm1, bK6, bK7, bK8, bK9, bK10, bK12, bK14, bK15, bK16, bK20, bK21, bK26, bK30, bK32, bK33, bK45, bK48, bK57, bK59, bK60, bK62, bK63, bK64, bK80, bK93, bK98, bK99, bK100, bK104, bK107, bK109, bK110, bK112, bK113, bK114, bK115, bK116, bK119, sK255, sK256, sK500, sK700, sK798, sK912, sK1400, sK2000]; rfl)) rfl rfl
  · rename_i g g2 g3
    simp (discharger := omega) only [cN, nI_leI] at g
    rw [vinI (by omega)]; omega
  · rename_i g g2 g3
    simp (discharger := omega) only [cN, nI_leI] at g
    have hbit : s.testBit k = false := (b_and8 hs (show k < 8 by omega)).mp g2
    have hcb := hp.2.2.2.2.1 k
    have hck := hp.2.2.2.2.2 k (by omega)
    simp (discharger := omega) only [cN, nI_clamp, hck, nI_leI] at g3
    exact AW.cg (ih _ (by omega) (k + 1) (by omega) k (D.1 k) (by
      rcases hb with ⟨q, e⟩ | ⟨q, e, e2⟩
      · exact Or.inl ⟨phT_y q hbit (by omega), rfl⟩
      · exact Or.inl ⟨phT_0 q hbit, rfl⟩) rfl) rfl rfl rfl (by first | rfl | (simp (discharger := omega) only [msk, clr_i, clr_r, hck, cI, cN, ← nI_0, nI_ltI, nI_leI, nI_eq, nI_add, pk_mul, pk_sub, nI_clamp, vinI, not_true_eq_false, not_false_eq_true, iK0, iK1, iK2, iK3, iK4, iK5, iKm1, bK6, bK7, bK8, bK9, bK10, bK12, bK14, bK15, bK16, bK20, bK21, bK26, bK30, bK32, bK33, bK45, bK48, bK57, bK59, bK60, bK62, bK63, bK64, bK80, bK93, bK98, bK99, bK100, bK104, bK107, bK109, bK110, bK112, bK113, bK114, bK115, bK116, bK119, sK255, sK256, sK500, sK700, sK798, sK912, sK1400, sK2000]; done) | (simp (discharger := omega) only [msk, clr_i, clr_r, hck, cI, cN, ← nI_0, nI_ltI, nI_leI, nI_eq, nI_add, pk_mul, pk_sub, nI_clamp, vinI, not_true_eq_false, not_false_eq_true, iK0, iK1, iK2, iK3, iK4, iK5, iKm1, bK6, bK7, bK8, bK9, bK10, bK12, bK14, bK15, bK16, bK20, bK21, bK26, bK30, bK32, bK33, bK45, bK48, bK57, bK59, bK60, bK62, bK63, bK64, bK80, bK93, bK98, bK99, bK100, bK104, bK107, bK109, bK110, bK112, bK113, bK114, bK115, bK116, bK119, sK255, sK256, sK500, sK700, sK798, sK912, sK1400, sK2000]; rfl)) rfl rfl
set_option maxRecDepth 20000 in
theorem pr_hot (hg : gOK G) (D : pT) (co hlf plf mb : Nat → Int32) (hp : pOK D co) (s : Nat) (hs : s < 256) (hex : ∃ k, k < D.2.1 ∧ s.testBit k = false) : Spec G 1 0 0 m_X4_hottestBut [.ref 0, .int (nI s)] (pw D co hlf plf mb) (fun v w' => (∃ b, isHt D s b ∧ v = some (.int (nI b))) ∧ w' = pw D co hlf plf mb) NX := by
  refine wp_spec (M := M_X4_hottestBut) hg ok_X4_hottestBut (lkp [(7, [true, true, true, true, true])]) 60 rfl rfl ?_
  repeat' (first | refine And.intro ?_ ?_ | (with_reducible intro h9; exact absurd h9 (by simp only [cI, cN]; decide +kernel)) | with_reducible intro _ | exact (rfl : narrow _ _ = _) | decide | (unfold vp_in; decide))
  exact AW.cg (pr_hot_l hg D co hlf plf mb hp s hs (fun b q => ⟨⟨b, q, rfl⟩, rfl⟩) hex _ 0 (by omega) 0 0 (Or.inr ⟨fun j hj => by omega, rfl, rfl⟩) rfl) rfl rfl rfl (by first | rfl | (simp (discharger := omega) only [msk, clr_i, clr_r, cI, cN, ← nI_0, nI_ltI, nI_leI, nI_eq, nI_add, pk_mul, pk_sub, nI_clamp, vinI, not_true_eq_false, not_false_eq_true, iK0, iK1, iK2, iK3, iK4, iK5, iKm1, bK6, bK7, bK8, bK9, bK10, bK12, bK14, bK15, bK16, bK20, bK21, bK26, bK30, bK32, bK33, bK45, bK48, bK57, bK59, bK60, bK62, bK63, bK64, bK80, bK93, bK98, bK99, bK100, bK104, bK107, bK109, bK110, bK112, bK113, bK114, bK115, bK116, bK119, sK255, sK256, sK500, sK700, sK798, sK912, sK1400, sK2000]; done) | (simp (discharger := omega) only [msk, clr_i, clr_r, cI, cN, ← nI_0, nI_ltI, nI_leI, nI_eq, nI_add, pk_mul, pk_sub, nI_clamp, vinI, not_true_eq_false, not_false_eq_true, iK0, iK1, iK2, iK3, iK4, iK5, iKm1, bK6, bK7, bK8, bK9, bK10, bK12, bK14, bK15, bK16, bK20, bK21, bK26, bK30, bK32, bK33, bK45, bK48, bK57, bK59, bK60, bK62, bK63, bK64, bK80, bK93, bK98, bK99, bK100, bK104, bK107, bK109, bK110, bK112, bK113, bK114, bK115, bK116, bK119, sK255, sK256, sK500, sK700, sK798, sK912, sK1400, sK2000]; rfl)) rfl rfl
end PP
