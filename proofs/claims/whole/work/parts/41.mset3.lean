/-! ===== the reference: the most that can be poured ===== -/
/-- the most of the sets ahead of a set that a way reaches -/
def bmx (D : pT) (fi : Option Nat) (t m : Nat) : Prop := (m = 0 ∨ ∃ s, 1 ≤ s ∧ s < t ∧ rch D fi s ∧ pc s = m) ∧ ∀ s, 1 ≤ s → s < t → rch D fi s → pc s ≤ m
theorem bmx_n {D : pT} {fi : Option Nat} {t m : Nat} (h : bmx D fi t m) (hr : ¬ rch D fi t) : bmx D fi (t + 1) m := ⟨h.1.imp_right fun ⟨s, a, b, c⟩ => ⟨s, a, by omega, c⟩, fun s a b c => by
  rcases Nat.lt_or_ge s t with z | z
  · exact h.2 s a z c
  · have : s = t := by omega
    rw [this] at c
    exact absurd c hr⟩
theorem bmx_y {D : pT} {fi : Option Nat} {t m : Nat} (h : bmx D fi t m) (h1 : 1 ≤ t) (hr : rch D fi t) : bmx D fi (t + 1) (max m (pc t)) := by
  refine ⟨?_, fun s a b c => ?_⟩
  · rcases Nat.le_total m (pc t) with q | q
    · rw [Nat.max_eq_right q]
      exact Or.inr ⟨t, h1, by omega, hr, rfl⟩
    · rw [Nat.max_eq_left q]
      exact h.1.imp_right fun ⟨s, a, b, c⟩ => ⟨s, a, by omega, c⟩
  · rcases Nat.lt_or_ge s t with z | z
    · exact Nat.le_trans (h.2 s a z c) (Nat.le_max_left _ _)
    · have : s = t := by omega
      rw [this]
      exact Nat.le_max_right _ _
/-- which sets a way reaches, as told for those ahead of t -/
def cOk (D : pT) (fi : Option Nat) (cb : Nat → Int32) (t : Nat) : Prop := ∀ r, 1 ≤ r → r < t → (cb r = nI 1 ∧ rch D fi r) ∨ (cb r = nI 0 ∧ ¬ rch D fi r)
/-- of the first k moulds, for the set t -/
def cAt (D : pT) (fi : Option Nat) (cb : Nat → Int32) (t k : Nat) : Prop := (cb t = nI 1 ∧ ∃ j, j < k ∧ stp D fi t j) ∨ (cb t = nI 0 ∧ ¬ ∃ j, j < k ∧ stp D fi t j)
theorem cAt_n {D : pT} {fi : Option Nat} {cb : Nat → Int32} {t k : Nat} (h : cAt D fi cb t k) (hn : ¬ stp D fi t k) : cAt D fi cb t (k + 1) := by
  rcases h with ⟨a, j, b, c⟩ | ⟨a, b⟩
  · exact Or.inl ⟨a, j, by omega, c⟩
  · refine Or.inr ⟨a, fun ⟨j, c, d⟩ => ?_⟩
    rcases Nat.lt_or_ge j k with z | z
    · exact b ⟨j, z, d⟩
    · have : j = k := by omega
      subst this
      exact hn d
section NN
variable {G : gT}
theorem mm_88 (hg : gOK G) (N : nT) (D : pT) (hd : gD D N.g) (y1 y2 : Int32) (t k r be a : Nat) (ht : t < 256) (hk : k < D.2.1) (hr : r < 256) (hbe : be < 2) (ha : a < 2) (cb : Nat → Int32) (hcb : cb t = nI a) {K : Option Value → xW → Prop} {KX : Nat → xW → Prop}
    (hK1 : be = 1 → okS D r k → AW G M_X9_mostPoured 4 0 0 26 [some (.ref 0), some (.int y1), some (.int y2), some (.int (nI t)), some (.int (nI (k + 1))), none, none] [] (mw (N.s_cb (upd cb t (nI 1)))) K KX)
    (hK0 : ¬ (be = 1 ∧ okS D r k) → AW G M_X9_mostPoured 4 0 0 26 [some (.ref 0), some (.int y1), some (.int y2), some (.int (nI t)), some (.int (nI (k + 1))), none, none] [] (mw (N.s_cb (upd cb t (nI a)))) K KX) :
    AW G M_X9_mostPoured 4 0 0 88 [some (.ref 0), some (.int y1), some (.int y2), some (.int (nI t)), some (.int (nI k)), some (.int (nI r)), some (.int (nI be))] [] (mw (N.s_cb cb)) K KX := by
  have hn := hd.1
  have hcb' : (N.s_cb cb).cb t = nI a := hcb
  have o0 : vp_nar .boolean (nI a ||| Int32.ofInt 0) = nI a := by
    have := or_b ⟨a, ha⟩ ⟨0, by omega⟩
    simp only at this
    rw [iK0, this]
    congr 1
    omega
  have o1 : vp_nar .boolean (nI a ||| Int32.ofInt 1) = nI 1 := by
    have := or_b ⟨a, ha⟩ ⟨1, by omega⟩
    simp only at this
    rw [iK1, this]
    congr 1
    omega
  refine wp_ok (M := M_X9_mostPoured) hg ok_X9_mostPoured (lkp [(26, [true, true, true, true, true, false, false])]) 60 _ _ _ _ _ _ ?_
  repeat' (first | refine And.intro ?_ ?_ | (with_reducible intro h9; exact absurd h9 (by simp only [cI, cN]; decide +kernel)) | with_reducible intro _ | exact (rfl : narrow _ _ = _) | decide | (unfold vp_in; decide))
  · rw [vinI (by omega)]; omega
  · rename_i g
    simp (discharger := omega) only [cI, ← nI_0, nI_eq] at g
    rw [vinI (by omega)]; omega
  · rename_i g
    simp (discharger := omega) only [cI, ← nI_0, nI_eq] at g
    refine AW.cg (hK0 (fun z => by omega)) rfl rfl rfl (by first | rfl | (simp (discharger := omega) only [msk, clr_i, clr_r, cI, cN, ← nI_0, nI_ltI, nI_leI, nI_eq, nI_add, pk_mul, pk_sub, nI_clamp, vinI, not_true_eq_false, not_false_eq_true, iK0, iK1, iK2, iK3, iK4, iK5, iKm1, bK6, bK7, bK8, bK9, bK10, bK12, bK14, bK15, bK16, bK20, bK21, bK26, bK30, bK32, bK33, bK45, bK48, bK57, bK59, bK60, bK62, bK63, bK64, bK80, bK93, bK98, bK99, bK100, bK104, bK107, bK109, bK110, bK112, bK113, bK114, bK115, bK116, bK119, sK255, sK256, sK500, sK700, sK798, sK912, sK1400, sK2000]; done) | (simp (discharger := omega) only [msk, clr_i, clr_r, cI, cN, ← nI_0, nI_ltI, nI_leI, nI_eq, nI_add, pk_mul, pk_sub, nI_clamp, vinI, not_true_eq_false, not_false_eq_true, iK0, iK1, iK2, iK3, iK4, iK5, iKm1, bK6, bK7, bK8, bK9, bK10, bK12, bK14, bK15, bK16, bK20, bK21, bK26, bK30, bK32, bK33, bK45, bK48, bK57, bK59, bK60, bK62, bK63, bK64, bK80, bK93, bK98, bK99, bK100, bK104, bK107, bK109, bK110, bK112, bK113, bK114, bK115, bK116, bK119, sK255, sK256, sK500, sK700, sK798, sK912, sK1400, sK2000]; rfl)) rfl ?_
    rw [nI_clamp (by omega), hcb', o0]
    rfl
  · rename_i g
    simp (discharger := omega) only [cN, ← nI_0, nI_eq] at g
    rw [nI_clamp (by omega), hcb']
    refine cc0 [0, 1, 2, 3, 4, 5, 6, 7, 8] (md_pours hg (N.s_cb cb) D hd r k hr hk) (by decide) (by decide) (by decide) rfl (by repeat' (first | exact trivial | refine And.intro ?_ ?_ | rfl)) (by first | rfl | (simp (discharger := omega) only [renVs, renV, rnI, cI, cN, ← nI_0, nI_ltI, nI_leI, nI_eq, nI_add, pk_mul, pk_sub, nI_clamp, vinI, not_true_eq_false, not_false_eq_true, iK0, iK1, iK2, iK3, iK4, iK5, iKm1, bK6, bK7, bK8, bK9, bK10, bK12, bK14, bK15, bK16, bK20, bK21, bK26, bK30, bK32, bK33, bK45, bK48, bK57, bK59, bK60, bK62, bK63, bK64, bK80, bK93, bK98, bK99, bK100, bK104, bK107, bK109, bK110, bK112, bK113, bK114, bK115, bK116, bK119, sK255, sK256, sK500, sK700, sK798, sK912, sK1400, sK2000])) ?_
    (rintro _ _ ⟨⟨rfl, z⟩ | ⟨rfl, z⟩, rfl⟩) <;> (repeat' (first | refine And.intro ?_ ?_ | (with_reducible intro h9; exact absurd h9 (by simp only [cI, cN]; decide +kernel)) | with_reducible intro _ | exact (rfl : narrow _ _ = _) | decide | (unfold vp_in; decide)))
    · rw [vinI (by omega)]; omega
    · refine AW.cg (hK1 (by omega) z) rfl rfl rfl (by first | rfl | (simp (discharger := omega) only [msk, clr_i, clr_r, cI, cN, ← nI_0, nI_ltI, nI_leI, nI_eq, nI_add, pk_mul, pk_sub, nI_clamp, vinI, not_true_eq_false, not_false_eq_true, iK0, iK1, iK2, iK3, iK4, iK5, iKm1, bK6, bK7, bK8, bK9, bK10, bK12, bK14, bK15, bK16, bK20, bK21, bK26, bK30, bK32, bK33, bK45, bK48, bK57, bK59, bK60, bK62, bK63, bK64, bK80, bK93, bK98, bK99, bK100, bK104, bK107, bK109, bK110, bK112, bK113, bK114, bK115, bK116, bK119, sK255, sK256, sK500, sK700, sK798, sK912, sK1400, sK2000]; done) | (simp (discharger := omega) only [msk, clr_i, clr_r, cI, cN, ← nI_0, nI_ltI, nI_leI, nI_eq, nI_add, pk_mul, pk_sub, nI_clamp, vinI, not_true_eq_false, not_false_eq_true, iK0, iK1, iK2, iK3, iK4, iK5, iKm1, bK6, bK7, bK8, bK9, bK10, bK12, bK14, bK15, bK16, bK20, bK21, bK26, bK30, bK32, bK33, bK45, bK48, bK57, bK59, bK60, bK62, bK63, bK64, bK80, bK93, bK98, bK99, bK100, bK104, bK107, bK109, bK110, bK112, bK113, bK114, bK115, bK116, bK119, sK255, sK256, sK500, sK700, sK798, sK912, sK1400, sK2000]; rfl)) rfl ?_
      rw [nI_clamp (by omega), o1]
      rfl
    · rw [vinI (by omega)]; omega
    · refine AW.cg (hK0 (fun q => z q.2)) rfl rfl rfl (by first | rfl | (simp (discharger := omega) only [msk, clr_i, clr_r, cI, cN, ← nI_0, nI_ltI, nI_leI, nI_eq, nI_add, pk_mul, pk_sub, nI_clamp, vinI, not_true_eq_false, not_false_eq_true, iK0, iK1, iK2, iK3, iK4, iK5, iKm1, bK6, bK7, bK8, bK9, bK10, bK12, bK14, bK15, bK16, bK20, bK21, bK26, bK30, bK32, bK33, bK45, bK48, bK57, bK59, bK60, bK62, bK63, bK64, bK80, bK93, bK98, bK99, bK100, bK104, bK107, bK109, bK110, bK112, bK113, bK114, bK115, bK116, bK119, sK255, sK256, sK500, sK700, sK798, sK912, sK1400, sK2000]; done) | (simp (discharger := omega) only [msk, clr_i, clr_r, cI, cN, ← nI_0, nI_ltI, nI_leI, nI_eq, nI_add, pk_mul, pk_sub, nI_clamp, vinI, not_true_eq_false, not_false_eq_true, iK0, iK1, iK2, iK3, iK4, iK5, iKm1, bK6, bK7, bK8, bK9, bK10, bK12, bK14, bK15, bK16, bK20, bK21, bK26, bK30, bK32, bK33, bK45, bK48, bK57, bK59, bK60, bK62, bK63, bK64, bK80, bK93, bK98, bK99, bK100, bK104, bK107, bK109, bK110, bK112, bK113, bK114, bK115, bK116, bK119, sK255, sK256, sK500, sK700, sK798, sK912, sK1400, sK2000]; rfl)) rfl ?_
      rw [nI_clamp (by omega), o0]
      rfl
theorem mm_26 (hg : gOK G) (N : nT) (D : pT) (hd : gD D N.g) (fi : Option Nat) (hfi : ∀ f, fi = some f → f < 8) (y2 : Int32) (t : Nat) (ht1 : 1 ≤ t) (ht : t < 2 ^ D.2.1) {K : Option Value → xW → Prop} {KX : Nat → xW → Prop}
    (hK : ∀ cb, cOk D fi cb (t + 1) → AW G M_X9_mostPoured 4 0 0 124 [some (.ref 0), some (.int (fv fi)), some (.int y2), some (.int (nI t)), none, none, none] [] (mw (N.s_cb cb)) K KX) : ∀ (c k : Nat) (hk : k ≤ D.2.1) (cb : Nat → Int32) (h1 : cOk D fi cb t) (h2 : cAt D fi cb t k) (hc9 : D.2.1 - k = c),
    AW G M_X9_mostPoured 4 0 0 26 [some (.ref 0), some (.int (fv fi)), some (.int y2), some (.int (nI t)), some (.int (nI k)), none, none] [] (mw (N.s_cb cb)) K KX := by
  intro c
  induction c using Nat.strongRecOn with | ind c ih => ?_
  intro k hk cb h1 h2 hc9
  obtain ⟨hn, h14, h20, hP20, hcb, hck, hg0, hg1, hg2⟩ := id hd
  have h256 : t < 256 := Nat.lt_of_lt_of_le ht (p2_le hn)
  have e2 : (N.s_cb cb).g (Int32.ofInt 2).toNatClampNeg = nI D.2.1 := hg2
  have e2b : (N.s_cb cb).g 2 = nI D.2.1 := hg2
  have nx : ∀ cb', (∀ r, r ≠ t → cb' r = cb r) → cAt D fi cb' t (k + 1) → k < D.2.1 → AW G M_X9_mostPoured 4 0 0 26 [some (.ref 0), some (.int (fv fi)), some (.int y2), some (.int (nI t)), some (.int (nI (k + 1))), none, none] [] (mw (N.s_cb cb')) K KX := fun cb' e h3 hlt => ih _ (by omega) (k + 1) (by omega) cb' (fun r r1 r2 => by rw [e r (by omega)]; exact h1 r r1 r2) h3 rfl
  obtain ⟨a, ha, hca⟩ : ∃ a, a < 2 ∧ cb t = nI a := by
    rcases h2 with ⟨q, -⟩ | ⟨q, -⟩
    · exact ⟨1, by omega, q⟩
    · exact ⟨0, by omega, q⟩
  -- behind isBegun
  have beg : ∀ (be : Nat), be < 2 → k < D.2.1 → t.testBit k = true → (be = 1 ↔ ((t - 2 ^ k = 0 ∧ fiok fi k) ∨ (¬ t - 2 ^ k = 0 ∧ rch D fi (t - 2 ^ k)))) → AW G M_X9_mostPoured 4 0 0 88 [some (.ref 0), some (.int (fv fi)), some (.int y2), some (.int (nI t)), some (.int (nI k)), some (.int (nI (t - 2 ^ k))), some (.int (nI be))] [] (mw (N.s_cb cb)) K KX := fun be hbe hlt hbit hiff =>
    mm_88 hg N D hd (fv fi) y2 t k (t - 2 ^ k) be a h256 hlt (Nat.lt_of_le_of_lt (Nat.sub_le _ _) h256) hbe ha cb hca
      (fun e1 e3 => nx _ (fun r hr => upd_ne hr) (Or.inl ⟨upd_eq, k, by omega, hbit, e3, hiff.mp e1⟩) hlt)
      (fun e1 => nx _ (fun r hr => upd_ne hr) (by
        have : cAt D fi (upd cb t (nI a)) t k := by
          unfold cAt
          rw [upd_eq, ← hca]
          exact h2
        exact cAt_n this (fun z => e1 ⟨hiff.mpr z.2.2, z.2.1⟩)) hlt)
  rcases Nat.lt_or_ge k D.2.1 with hlt | hge
  · have hk8 : k < 8 := by omega
    have hpos : 0 < 2 ^ k := Nat.two_pow_pos k
    cases hz : t.testBit k with
    | false =>
      have er : nI t &&& (nI 1 <<< (nI k &&& 31) ^^^ (-1)) = nI t := by
        have := bs_del0 ⟨t, h256⟩ ⟨k, hk8⟩ hz
        rw [iK1, iKm1] at this
        exact this
      refine wp_ok (M := M_X9_mostPoured) hg ok_X9_mostPoured (lkp [(26, [true, true, true, true, true, false, false]), (88, [true, true, true, true, true, true, true]), (124, [true, true, true, true, false, false, false])]) 60 _ _ _ _ _ _ ?_
      repeat' (first | refine And.intro ?_ ?_ | (with_reducible intro h9; exact absurd h9 (by simp only [cI, cN]; decide +kernel)) | with_reducible intro _ | exact (rfl : narrow _ _ = _) | decide | (unfold vp_in; decide))
      all_goals try (exfalso; simp (discharger := omega) only [er, e2b, cI, cN, ← nI_0, nI_ltI, nI_leI, nI_eq, nI_add, pk_mul, pk_sub, nI_clamp, vinI, not_true_eq_false, not_false_eq_true, iK0, iK1, iK2, iK3, iK4, iK5, iKm1, bK6, bK7, bK8, bK9, bK10, bK12, bK14, bK15, bK16, bK20, bK21, bK26, bK30, bK32, bK33, bK45, bK48, bK57, bK59, bK60, bK62, bK63, bK64, bK80, bK93, bK98, bK99, bK100, bK104, bK107, bK109, bK110, bK112, bK113, bK114, bK115, bK116, bK119, sK255, sK256, sK500, sK700, sK798, sK912, sK1400, sK2000] at * <;> first | done | omega)
      exact AW.cg (nx cb (fun _ _ => rfl) (cAt_n h2 (fun z => by have z1 := z.1; rw [hz] at z1; cases z1)) hlt) rfl rfl rfl (by first | rfl | (simp (discharger := omega) only [msk, clr_i, clr_r, cI, cN, ← nI_0, nI_ltI, nI_leI, nI_eq, nI_add, pk_mul, pk_sub, nI_clamp, vinI, not_true_eq_false, not_false_eq_true, iK0, iK1, iK2, iK3, iK4, iK5, iKm1, bK6, bK7, bK8, bK9, bK10, bK12, bK14, bK15, bK16, bK20, bK21, bK26, bK30, bK32, bK33, bK45, bK48, bK57, bK59, bK60, bK62, bK63, bK64, bK80, bK93, bK98, bK99, bK100, bK104, bK107, bK109, bK110, bK112, bK113, bK114, bK115, bK116, bK119, sK255, sK256, sK500, sK700, sK798, sK912, sK1400, sK2000]; done) | (simp (discharger := omega) only [msk, clr_i, clr_r, cI, cN, ← nI_0, nI_ltI, nI_leI, nI_eq, nI_add, pk_mul, pk_sub, nI_clamp, vinI, not_true_eq_false, not_false_eq_true, iK0, iK1, iK2, iK3, iK4, iK5, iKm1, bK6, bK7, bK8, bK9, bK10, bK12, bK14, bK15, bK16, bK20, bK21, bK26, bK30, bK32, bK33, bK45, bK48, bK57, bK59, bK60, bK62, bK63, bK64, bK80, bK93, bK98, bK99, bK100, bK104, bK107, bK109, bK110, bK112, bK113, bK114, bK115, bK116, bK119, sK255, sK256, sK500, sK700, sK798, sK912, sK1400, sK2000]; rfl)) rfl rfl
    | true =>
      obtain ⟨c1, c2, c3⟩ := cb_ok ⟨t, h256⟩ ⟨k, hk8⟩ hz
      simp only at c1 c2 c3
      have er : nI t &&& (nI 1 <<< (nI k &&& 31) ^^^ (-1)) = nI (t - 2 ^ k) := by
        have := bs_del1 ⟨t, h256⟩ ⟨k, hk8⟩ hz
        rw [iK1, iKm1] at this
        exact this
      have er' : nI t &&& (Int32.ofInt 1 <<< (nI k &&& 31) ^^^ Int32.ofInt (-1)) = nI (t - 2 ^ k) := bs_del1 ⟨t, h256⟩ ⟨k, hk8⟩ hz
      refine wp_ok (M := M_X9_mostPoured) hg ok_X9_mostPoured (lkp [(26, [true, true, true, true, true, false, false]), (88, [true, true, true, true, true, true, true]), (124, [true, true, true, true, false, false, false])]) 60 _ _ _ _ _ _ ?_
      repeat' (first | refine And.intro ?_ ?_ | (with_reducible intro h9; exact absurd h9 (by simp only [cI, cN]; decide +kernel)) | with_reducible intro _ | exact (rfl : narrow _ _ = _) | decide | (unfold vp_in; decide))
      · rename_i g
        simp (discharger := omega) only [cI, e2, nI_leI] at g
        omega
      · rw [er', vinI (by omega)]; omega
      · rename_i g g2 g3
        simp only [cI, er'] at g3
        have h0 : ¬ t - 2 ^ k = 0 := fun z => g3 (by rw [z]; decide)
        rcases h1 (t - 2 ^ k) (by omega) (by omega) with ⟨q, w⟩ | ⟨q, w⟩
        · refine AW.cg (beg 1 (by omega) hlt hz ⟨fun _ => Or.inr ⟨h0, w⟩, fun _ => rfl⟩) rfl rfl rfl ?_ rfl rfl
          rw [er', nI_clamp (by omega), show (N.s_cb cb).cb (t - 2 ^ k) = nI 1 from q]
          rfl
        · refine AW.cg (beg 0 (by omega) hlt hz ⟨fun z => by omega, fun z => by
            rcases z with z | z
            · exact absurd z.1 h0
            · exact absurd z.2 w⟩) rfl rfl rfl ?_ rfl rfl
          rw [er', nI_clamp (by omega), show (N.s_cb cb).cb (t - 2 ^ k) = nI 0 from q]
          rfl
      · rename_i g g2 g3 g4
        simp only [cN, er'] at g3
        simp only [cI] at g4
        have h0 : t - 2 ^ k = 0 := by
          rw [← nI_0, nI_eq (by omega) (by omega)] at g3
          exact g3
        have hf : fiok fi k := by
          cases fi with
          | none => exact Or.inl rfl
          | some f => exact absurd g4 (nI_pos (by have := hfi f rfl; omega))
        refine AW.cg (beg 1 (by omega) hlt hz ⟨fun _ => Or.inl ⟨h0, hf⟩, fun _ => rfl⟩) rfl rfl rfl ?_ rfl rfl
        rw [er']
        rfl
      · rename_i g g2 g3 g4 g5
        simp only [cN, er'] at g3
        simp only [cN] at g4
        simp only [cI] at g5
        have h0 : t - 2 ^ k = 0 := by
          rw [← nI_0, nI_eq (by omega) (by omega)] at g3
          exact g3
        have hf : ¬ fiok fi k := by
          rintro (z | z)
          · subst z
            exact g4 (by decide)
          · subst z
            exact g5 rfl
        refine AW.cg (beg 0 (by omega) hlt hz ⟨fun z => by omega, fun z => by
          rcases z with z | z
          · exact absurd z.2 hf
          · exact absurd h0 z.1⟩) rfl rfl rfl ?_ rfl rfl
        rw [er']
        rfl
      · rename_i g g2 g3 g4 g5
        simp only [cN, er'] at g3
        simp only [cN] at g4 g5
        have h0 : t - 2 ^ k = 0 := by
          rw [← nI_0, nI_eq (by omega) (by omega)] at g3
          exact g3
        have hf : fiok fi k := by
          cases fi with
          | none => exact Or.inl rfl
          | some f =>
            have hf8 := hfi f rfl
            refine Or.inr ?_
            have g6 : nI f = nI k := g5
            rw [nI_eq (by omega) (by omega)] at g6
            rw [g6]
        refine AW.cg (beg 1 (by omega) hlt hz ⟨fun _ => Or.inl ⟨h0, hf⟩, fun _ => rfl⟩) rfl rfl rfl ?_ rfl rfl
        rw [er']
        rfl
      · rename_i g g2
        simp only [cN, er'] at g2
        rw [nI_eq (by omega) (by omega)] at g2
        omega
  · have : k = D.2.1 := by omega
    subst this
    have hi := rch_iff hn (fi := fi) ht
    refine wp_ok (M := M_X9_mostPoured) hg ok_X9_mostPoured (lkp [(26, [true, true, true, true, true, false, false]), (88, [true, true, true, true, true, true, true]), (124, [true, true, true, true, false, false, false])]) 60 _ _ _ _ _ _ ?_
    repeat' (first | refine And.intro ?_ ?_ | (with_reducible intro h9; exact absurd h9 (by simp only [cI, cN]; decide +kernel)) | with_reducible intro _ | exact (rfl : narrow _ _ = _) | decide | (unfold vp_in; decide))
    · refine hK cb (fun r r1 r2 => ?_)
      rcases Nat.lt_or_ge r t with z | z
      · exact h1 r r1 z
      · have : r = t := by omega
        subst this
        rcases h2 with ⟨q, w⟩ | ⟨q, w⟩
        · exact Or.inl ⟨q, hi.mpr w⟩
        · exact Or.inr ⟨q, fun z => w (hi.mp z)⟩
    all_goals try (exfalso; simp (discharger := omega) only [e2b, cI, cN, ← nI_0, nI_ltI, nI_leI, nI_eq, nI_add, pk_mul, pk_sub, nI_clamp, vinI, not_true_eq_false, not_false_eq_true, iK0, iK1, iK2, iK3, iK4, iK5, iKm1, bK6, bK7, bK8, bK9, bK10, bK12, bK14, bK15, bK16, bK20, bK21, bK26, bK30, bK32, bK33, bK45, bK48, bK57, bK59, bK60, bK62, bK63, bK64, bK80, bK93, bK98, bK99, bK100, bK104, bK107, bK109, bK110, bK112, bK113, bK114, bK115, bK116, bK119, sK255, sK256, sK500, sK700, sK798, sK912, sK1400, sK2000] at * <;> first | done | omega)
end NN
