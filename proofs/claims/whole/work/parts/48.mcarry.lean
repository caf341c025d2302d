/-! ===== the reference: an order carried out ===== -/
/-- an order from the state N to N' (its code tells how it went) -/
def sCoal (N : nT) (x : Int32) (N' : nT) : Prop := (¬ (nI 1 ≤ x ∧ x ≤ nI 20) ∧ N' = N.s_co (nI 1)) ∨ ((nI 1 ≤ x ∧ x ≤ nI 20) ∧ N' = (N.kps N.g).s_g (upd (upd N.g 0 (mni (nI 1400) (N.g 0 + nI 30 * x))) 7 (N.g 7 + x)))
def sBronze (N : nT) (x : Int32) (N' : nT) : Prop :=
    (¬ (nI 1 ≤ x ∧ x ≤ nI 500) ∧ N' = N.s_co (nI 1)) ∨
    ((nI 1 ≤ x ∧ x ≤ nI 500) ∧ ¬ N.g 1 + x ≤ nI 2000 ∧ N' = N.ref (nI 2) (nI 1) (nI 2000)) ∨
    ((nI 1 ≤ x ∧ x ≤ nI 500) ∧ N.g 1 + x ≤ nI 2000 ∧ N' = (N.kps N.g).s_g (upd (upd N.g 1 (N.g 1 + x)) 5 (N.g 5 + x)))
def sMould (N : nT) (n : Nat) (x y : Int32) (N' : nT) : Prop :=
    (¬ ((nI 10 ≤ x ∧ x ≤ nI 60) ∧ (nI 0 ≤ y ∧ y ≤ nI 4)) ∧ N' = N.s_co (nI 1)) ∨
    (((nI 10 ≤ x ∧ x ≤ nI 60) ∧ (nI 0 ≤ y ∧ y ≤ nI 4)) ∧ n = 8 ∧ N' = N.ref (nI 2) (nI 1) (nI 8)) ∨
    (((nI 10 ≤ x ∧ x ≤ nI 60) ∧ (nI 0 ≤ y ∧ y ≤ nI 4)) ∧ n < 8 ∧ N' = (N.kps N.g).s_g (upd (upd (upd N.g (10 + 2 * n) x) (10 + 2 * n + 1) y) 2 (nI (n + 1))))
def sRack (N : nT) (n : Nat) (x : Int32) (N' : nT) : Prop :=
    (¬ (nI 1 ≤ x ∧ x ≤ nI 9) ∧ N' = N.s_co (nI 1)) ∨
    ((nI 1 ≤ x ∧ x ≤ nI 9) ∧ n = 4 ∧ N' = N.ref (nI 2) (nI 1) (nI 4)) ∨
    ((nI 1 ≤ x ∧ x ≤ nI 9) ∧ n < 4 ∧ N' = (N.kps N.g).s_g (upd (upd N.g (26 + n) x) 3 (nI (n + 1))))
def sPour (N : nT) (nm nr nb : Nat) (x y : Int32) (N' : nT) : Prop :=
    (¬ (hasP x nm ∧ hasP y nr) ∧ N' = N.s_co (nI 1)) ∨
    (∃ i, i < nm ∧ x = nI i ∧ hasP y nr ∧ (
      (nb = 12 ∧ N' = N.ref (nI 2) (nI 1) (nI 12)) ∨
      (nb < 12 ∧ gon N.g y nb = 3 ∧ N' = N.ref (nI 2) (nI 1) (nI 3)) ∨
      (nb < 12 ∧ ¬ gon N.g y nb = 3 ∧ ¬ nI 5 * N.g (10 + 2 * i) + nI 10 ≤ N.g 1 ∧ N' = N.ref (nI 2) (nI 2) (nI 5 * N.g (10 + 2 * i) + nI 10 - N.g 1)) ∨
      (nb < 12 ∧ ¬ gon N.g y nb = 3 ∧ nI 5 * N.g (10 + 2 * i) + nI 10 ≤ N.g 1 ∧ ¬ nI 700 + nI 8 * N.g (10 + 2 * i) ≤ N.g 0 ∧ N' = N.ref (nI 2) (nI 3) (nI 700 + nI 8 * N.g (10 + 2 * i) - N.g 0)) ∨
      (nb < 12 ∧ ¬ gon N.g y nb = 3 ∧ nI 5 * N.g (10 + 2 * i) + nI 10 ≤ N.g 1 ∧ nI 700 + nI 8 * N.g (10 + 2 * i) ≤ N.g 0 ∧ N' = (N.kps N.g).s_g (gpou N.g nb i nm y))))
def sPass (N : nT) (n : Nat) (x : Int32) (N' : nT) : Prop := (¬ (nI 1 ≤ x ∧ x ≤ nI 48) ∧ N' = N.s_co (nI 1)) ∨ (∃ t, 1 ≤ t ∧ t ≤ 48 ∧ x = nI t ∧ N' = (N.kps N.g).s_g (psG N.g n t))
def sTake (N : nT) (nb : Nat) (x : Int32) (N' : nT) : Prop :=
    (¬ hasP x nb ∧ N' = N.s_co (nI 1)) ∨
    (∃ i, i < nb ∧ x = nI i ∧ N.b i 3 < nI 0 ∧ N' = N.ref (nI 2) (nI 5) (-1)) ∨
    (∃ i, i < nb ∧ x = nI i ∧ ¬ N.b i 3 < nI 0 ∧ ¬ N.b i 4 ≤ nI 0 ∧ N' = N.ref (nI 2) (nI 4) (N.b i 4)) ∨
    (∃ i, i < nb ∧ x = nI i ∧ ¬ N.b i 3 < nI 0 ∧ N.b i 4 ≤ nI 0 ∧ N' = (N.kps N.g).s_g (upd N.g (30 + 7 * i + 3) (-1)))
def sRecast (N : nT) (nb : Nat) (x : Int32) (N' : nT) : Prop :=
    (¬ hasP x nb ∧ N' = N.s_co (nI 1)) ∨
    (∃ i, i < nb ∧ x = nI i ∧ ¬ N.b i 3 < nI 0 ∧ N' = N.ref (nI 2) (nI 5) (N.b i 3)) ∨
    (∃ i, i < nb ∧ x = nI i ∧ N.b i 3 < nI 0 ∧ ¬ N.g 1 + gbk N.g i ≤ nI 2000 ∧ N' = N.ref (nI 2) (nI 1) (nI 2000)) ∨
    (∃ i, i < nb ∧ x = nI i ∧ N.b i 3 < nI 0 ∧ N.g 1 + gbk N.g i ≤ nI 2000 ∧ N' = (N.kps N.g).s_g (grec N.g i nb))
/-- the counts of the reference's row, and what its hours ask -/
def nT.ok (N : nT) (nm nr nb : Nat) : Prop := N.cK ∧ N.g 2 = nI nm ∧ nm ≤ 8 ∧ N.g 3 = nI nr ∧ nr ≤ 4 ∧ N.nb nb ∧ gK N.g nb ∧ gC N.g nb
/-- one order -/
def sOrd (N : nT) (nm nr nb : Nat) (o : orT) (N' : nT) : Prop :=
  (o.1 = nI 99 ∧ sCoal N (nI o.2.1) N') ∨ (o.1 = nI 98 ∧ sBronze N (nI o.2.1) N') ∨ (o.1 = nI 109 ∧ sMould N nm (nI o.2.1) (nI o.2.2) N') ∨ (o.1 = nI 114 ∧ sRack N nr (nI o.2.1) N') ∨
  (o.1 = nI 112 ∧ sPour N nm nr nb (nI o.2.1) (nI o.2.2) N') ∨ (o.1 = nI 104 ∧ sPass N nb (nI o.2.1) N') ∨ (o.1 = nI 116 ∧ sTake N nb (nI o.2.1) N') ∨ (o.1 = nI 107 ∧ sRecast N nb (nI o.2.1) N')
def isKd (x : Int32) : Prop := x = nI 99 ∨ x = nI 98 ∨ x = nI 109 ∨ x = nI 114 ∨ x = nI 112 ∨ x = nI 104 ∨ x = nI 116 ∨ x = nI 107
section NN
variable {G : gT}
set_option maxRecDepth 20000 in
theorem md_carries (hg : gOK G) (N : nT) (nm nr nb : Nat) (hok : N.ok nm nr nb) (p : Nat) (hp : p + 2 < 93) (o : orT) (hk : isKd o.1) (h0 : N.td p = o.1) (h1 : N.td (p + 1) = nI o.2.1) (h2 : (o.1 = nI 109 ∨ o.1 = nI 112) → N.td (p + 2) = nI o.2.2) : Spec G 7 0 0 m_X9_carries [.ref 0, .int (nI p)] (mw N) (fun v w' => (∃ y, v = some (.int y)) ∧ ∃ N', sOrd N nm nr nb o N' ∧ w' = mw N') NX := by
  obtain ⟨hc, hm, hm8, hr, hr4, hb, hK3, hC⟩ := hok
  obtain ⟨x, v, w⟩ := o
  simp only at hk h0 h1 h2
  rcases hk with rfl | rfl | rfl | rfl | rfl | rfl | rfl | rfl
  · refine wp_spec (M := M_X9_carries) hg ok_X9_carries cut0 60 rfl rfl ?_
    repeat' (first | refine And.intro ?_ ?_ | (with_reducible intro h9; exact absurd h9 (by simp only [cI, cN]; decide +kernel)) | with_reducible intro _ | exact (rfl : narrow _ _ = _) | decide | (unfold vp_in; decide))
    · rw [vinI (by omega)]; omega
    rw [nI_clamp (by omega), h0]
    refine sw_at 96 1 (by decide) rfl ?_
    repeat' (first | refine And.intro ?_ ?_ | (with_reducible intro h9; exact absurd h9 (by simp only [cI, cN]; decide +kernel)) | with_reducible intro _ | exact (rfl : narrow _ _ = _) | decide | (unfold vp_in; decide))
    all_goals try (simp (discharger := omega) only [upd_ne, upd_eq, cI, cN, ← nI_0, nI_ltI, nI_leI, nI_eq, nI_add, pk_mul, pk_sub, nI_clamp, vinI, not_true_eq_false, not_false_eq_true, iK0, iK1, iK2, iK3, iK4, iK5, iKm1, bK6, bK7, bK8, bK9, bK10, bK12, bK14, bK15, bK16, bK20, bK21, bK26, bK30, bK32, bK33, bK45, bK48, bK57, bK59, bK60, bK62, bK63, bK64, bK80, bK93, bK98, bK99, bK100, bK104, bK107, bK109, bK110, bK112, bK113, bK114, bK115, bK116, bK119, sK255, sK256, sK500, sK700, sK798, sK912, sK1400, sK2000] <;> first | done | omega)
    refine cc0 [0, 1, 2, 3, 4, 5, 6, 7, 8] (mo_coal hg N hc (nI v)) (by decide) (by decide) (by decide) rfl (by repeat' (first | exact trivial | refine And.intro ?_ ?_ | rfl)) (by first | rfl | (simp (discharger := omega) only [renVs, renV, rnI, h1, cI, cN, ← nI_0, nI_ltI, nI_leI, nI_eq, nI_add, pk_mul, pk_sub, nI_clamp, vinI, not_true_eq_false, not_false_eq_true, iK0, iK1, iK2, iK3, iK4, iK5, iKm1, bK6, bK7, bK8, bK9, bK10, bK12, bK14, bK15, bK16, bK20, bK21, bK26, bK30, bK32, bK33, bK45, bK48, bK57, bK59, bK60, bK62, bK63, bK64, bK80, bK93, bK98, bK99, bK100, bK104, bK107, bK109, bK110, bK112, bK113, bK114, bK115, bK116, bK119, sK255, sK256, sK500, sK700, sK798, sK912, sK1400, sK2000])) ?_
    (rintro _ _ (⟨q, rfl, y, rfl⟩ | ⟨q, rfl, rfl⟩)) <;> (repeat' (first | refine And.intro ?_ ?_ | (with_reducible intro h9; exact absurd h9 (by simp only [cI, cN]; decide +kernel)) | with_reducible intro _ | exact (rfl : narrow _ _ = _) | decide | (unfold vp_in; decide)))
    · exact ⟨_, rfl⟩
    · exact ⟨_, Or.inl ⟨rfl, Or.inl ⟨q, rfl⟩⟩, rfl⟩
    · exact ⟨_, rfl⟩
    · exact ⟨_, Or.inl ⟨rfl, Or.inr ⟨q, rfl⟩⟩, rfl⟩
  · refine wp_spec (M := M_X9_carries) hg ok_X9_carries cut0 60 rfl rfl ?_
    repeat' (first | refine And.intro ?_ ?_ | (with_reducible intro h9; exact absurd h9 (by simp only [cI, cN]; decide +kernel)) | with_reducible intro _ | exact (rfl : narrow _ _ = _) | decide | (unfold vp_in; decide))
    · rw [vinI (by omega)]; omega
    rw [nI_clamp (by omega), h0]
    refine sw_at 109 0 (by decide) rfl ?_
    repeat' (first | refine And.intro ?_ ?_ | (with_reducible intro h9; exact absurd h9 (by simp only [cI, cN]; decide +kernel)) | with_reducible intro _ | exact (rfl : narrow _ _ = _) | decide | (unfold vp_in; decide))
    all_goals try (simp (discharger := omega) only [upd_ne, upd_eq, cI, cN, ← nI_0, nI_ltI, nI_leI, nI_eq, nI_add, pk_mul, pk_sub, nI_clamp, vinI, not_true_eq_false, not_false_eq_true, iK0, iK1, iK2, iK3, iK4, iK5, iKm1, bK6, bK7, bK8, bK9, bK10, bK12, bK14, bK15, bK16, bK20, bK21, bK26, bK30, bK32, bK33, bK45, bK48, bK57, bK59, bK60, bK62, bK63, bK64, bK80, bK93, bK98, bK99, bK100, bK104, bK107, bK109, bK110, bK112, bK113, bK114, bK115, bK116, bK119, sK255, sK256, sK500, sK700, sK798, sK912, sK1400, sK2000] <;> first | done | omega)
    refine cc0 [0, 1, 2, 3, 4, 5, 6, 7, 8] (mo_bronze hg N hc (nI v)) (by decide) (by decide) (by decide) rfl (by repeat' (first | exact trivial | refine And.intro ?_ ?_ | rfl)) (by first | rfl | (simp (discharger := omega) only [renVs, renV, rnI, h1, cI, cN, ← nI_0, nI_ltI, nI_leI, nI_eq, nI_add, pk_mul, pk_sub, nI_clamp, vinI, not_true_eq_false, not_false_eq_true, iK0, iK1, iK2, iK3, iK4, iK5, iKm1, bK6, bK7, bK8, bK9, bK10, bK12, bK14, bK15, bK16, bK20, bK21, bK26, bK30, bK32, bK33, bK45, bK48, bK57, bK59, bK60, bK62, bK63, bK64, bK80, bK93, bK98, bK99, bK100, bK104, bK107, bK109, bK110, bK112, bK113, bK114, bK115, bK116, bK119, sK255, sK256, sK500, sK700, sK798, sK912, sK1400, sK2000])) ?_
    (rintro _ _ (⟨q, rfl, y, rfl⟩ | ⟨q, q2, rfl, y, rfl⟩ | ⟨q, q2, rfl, rfl⟩)) <;> (repeat' (first | refine And.intro ?_ ?_ | (with_reducible intro h9; exact absurd h9 (by simp only [cI, cN]; decide +kernel)) | with_reducible intro _ | exact (rfl : narrow _ _ = _) | decide | (unfold vp_in; decide)))
    · exact ⟨_, rfl⟩
    · exact ⟨_, Or.inr (Or.inl ⟨rfl, Or.inl ⟨q, rfl⟩⟩), rfl⟩
    · exact ⟨_, rfl⟩
    · exact ⟨_, Or.inr (Or.inl ⟨rfl, Or.inr (Or.inl ⟨q, q2, rfl⟩)⟩), rfl⟩
    · exact ⟨_, rfl⟩
    · exact ⟨_, Or.inr (Or.inl ⟨rfl, Or.inr (Or.inr ⟨q, q2, rfl⟩)⟩), rfl⟩
  · refine wp_spec (M := M_X9_carries) hg ok_X9_carries cut0 60 rfl rfl ?_
    repeat' (first | refine And.intro ?_ ?_ | (with_reducible intro h9; exact absurd h9 (by simp only [cI, cN]; decide +kernel)) | with_reducible intro _ | exact (rfl : narrow _ _ = _) | decide | (unfold vp_in; decide))
    · rw [vinI (by omega)]; omega
    rw [nI_clamp (by omega), h0]
    refine sw_at 122 11 (by decide) rfl ?_
    repeat' (first | refine And.intro ?_ ?_ | (with_reducible intro h9; exact absurd h9 (by simp only [cI, cN]; decide +kernel)) | with_reducible intro _ | exact (rfl : narrow _ _ = _) | decide | (unfold vp_in; decide))
    all_goals try (simp (discharger := omega) only [upd_ne, upd_eq, cI, cN, ← nI_0, nI_ltI, nI_leI, nI_eq, nI_add, pk_mul, pk_sub, nI_clamp, vinI, not_true_eq_false, not_false_eq_true, iK0, iK1, iK2, iK3, iK4, iK5, iKm1, bK6, bK7, bK8, bK9, bK10, bK12, bK14, bK15, bK16, bK20, bK21, bK26, bK30, bK32, bK33, bK45, bK48, bK57, bK59, bK60, bK62, bK63, bK64, bK80, bK93, bK98, bK99, bK100, bK104, bK107, bK109, bK110, bK112, bK113, bK114, bK115, bK116, bK119, sK255, sK256, sK500, sK700, sK798, sK912, sK1400, sK2000] <;> first | done | omega)
    refine cc0 [0, 1, 2, 3, 4, 5, 6, 7, 8] (mo_mould hg N hc nm hm hm8 (nI v) (nI w)) (by decide) (by decide) (by decide) rfl (by repeat' (first | exact trivial | refine And.intro ?_ ?_ | rfl)) (by first | rfl | (simp (discharger := omega) only [renVs, renV, rnI, h1, h2 (Or.inl rfl), cI, cN, ← nI_0, nI_ltI, nI_leI, nI_eq, nI_add, pk_mul, pk_sub, nI_clamp, vinI, not_true_eq_false, not_false_eq_true, iK0, iK1, iK2, iK3, iK4, iK5, iKm1, bK6, bK7, bK8, bK9, bK10, bK12, bK14, bK15, bK16, bK20, bK21, bK26, bK30, bK32, bK33, bK45, bK48, bK57, bK59, bK60, bK62, bK63, bK64, bK80, bK93, bK98, bK99, bK100, bK104, bK107, bK109, bK110, bK112, bK113, bK114, bK115, bK116, bK119, sK255, sK256, sK500, sK700, sK798, sK912, sK1400, sK2000])) ?_
    (rintro _ _ (⟨q, rfl, y, rfl⟩ | ⟨q, q2, rfl, y, rfl⟩ | ⟨q, q2, rfl, rfl⟩)) <;> (repeat' (first | refine And.intro ?_ ?_ | (with_reducible intro h9; exact absurd h9 (by simp only [cI, cN]; decide +kernel)) | with_reducible intro _ | exact (rfl : narrow _ _ = _) | decide | (unfold vp_in; decide)))
    · exact ⟨_, rfl⟩
    · exact ⟨_, Or.inr (Or.inr (Or.inl ⟨rfl, Or.inl ⟨q, rfl⟩⟩)), rfl⟩
    · exact ⟨_, rfl⟩
    · exact ⟨_, Or.inr (Or.inr (Or.inl ⟨rfl, Or.inr (Or.inl ⟨q, q2, rfl⟩)⟩)), rfl⟩
    · exact ⟨_, rfl⟩
    · exact ⟨_, Or.inr (Or.inr (Or.inl ⟨rfl, Or.inr (Or.inr ⟨q, q2, rfl⟩)⟩)), rfl⟩
  · refine wp_spec (M := M_X9_carries) hg ok_X9_carries cut0 60 rfl rfl ?_
    repeat' (first | refine And.intro ?_ ?_ | (with_reducible intro h9; exact absurd h9 (by simp only [cI, cN]; decide +kernel)) | with_reducible intro _ | exact (rfl : narrow _ _ = _) | decide | (unfold vp_in; decide))
    · rw [vinI (by omega)]; omega
    rw [nI_clamp (by omega), h0]
    refine sw_at 143 16 (by decide) rfl ?_
    repeat' (first | refine And.intro ?_ ?_ | (with_reducible intro h9; exact absurd h9 (by simp only [cI, cN]; decide +kernel)) | with_reducible intro _ | exact (rfl : narrow _ _ = _) | decide | (unfold vp_in; decide))
    all_goals try (simp (discharger := omega) only [upd_ne, upd_eq, cI, cN, ← nI_0, nI_ltI, nI_leI, nI_eq, nI_add, pk_mul, pk_sub, nI_clamp, vinI, not_true_eq_false, not_false_eq_true, iK0, iK1, iK2, iK3, iK4, iK5, iKm1, bK6, bK7, bK8, bK9, bK10, bK12, bK14, bK15, bK16, bK20, bK21, bK26, bK30, bK32, bK33, bK45, bK48, bK57, bK59, bK60, bK62, bK63, bK64, bK80, bK93, bK98, bK99, bK100, bK104, bK107, bK109, bK110, bK112, bK113, bK114, bK115, bK116, bK119, sK255, sK256, sK500, sK700, sK798, sK912, sK1400, sK2000] <;> first | done | omega)
    refine cc0 [0, 1, 2, 3, 4, 5, 6, 7, 8] (mo_rack hg N hc nr hr hr4 (nI v)) (by decide) (by decide) (by decide) rfl (by repeat' (first | exact trivial | refine And.intro ?_ ?_ | rfl)) (by first | rfl | (simp (discharger := omega) only [renVs, renV, rnI, h1, cI, cN, ← nI_0, nI_ltI, nI_leI, nI_eq, nI_add, pk_mul, pk_sub, nI_clamp, vinI, not_true_eq_false, not_false_eq_true, iK0, iK1, iK2, iK3, iK4, iK5, iKm1, bK6, bK7, bK8, bK9, bK10, bK12, bK14, bK15, bK16, bK20, bK21, bK26, bK30, bK32, bK33, bK45, bK48, bK57, bK59, bK60, bK62, bK63, bK64, bK80, bK93, bK98, bK99, bK100, bK104, bK107, bK109, bK110, bK112, bK113, bK114, bK115, bK116, bK119, sK255, sK256, sK500, sK700, sK798, sK912, sK1400, sK2000])) ?_
    (rintro _ _ (⟨q, rfl, y, rfl⟩ | ⟨q, q2, rfl, y, rfl⟩ | ⟨q, q2, rfl, rfl⟩)) <;> (repeat' (first | refine And.intro ?_ ?_ | (with_reducible intro h9; exact absurd h9 (by simp only [cI, cN]; decide +kernel)) | with_reducible intro _ | exact (rfl : narrow _ _ = _) | decide | (unfold vp_in; decide)))
    · exact ⟨_, rfl⟩
    · exact ⟨_, Or.inr (Or.inr (Or.inr (Or.inl ⟨rfl, Or.inl ⟨q, rfl⟩⟩))), rfl⟩
    · exact ⟨_, rfl⟩
    · exact ⟨_, Or.inr (Or.inr (Or.inr (Or.inl ⟨rfl, Or.inr (Or.inl ⟨q, q2, rfl⟩)⟩))), rfl⟩
    · exact ⟨_, rfl⟩
    · exact ⟨_, Or.inr (Or.inr (Or.inr (Or.inl ⟨rfl, Or.inr (Or.inr ⟨q, q2, rfl⟩)⟩))), rfl⟩
  · refine wp_spec (M := M_X9_carries) hg ok_X9_carries cut0 60 rfl rfl ?_
    repeat' (first | refine And.intro ?_ ?_ | (with_reducible intro h9; exact absurd h9 (by simp only [cI, cN]; decide +kernel)) | with_reducible intro _ | exact (rfl : narrow _ _ = _) | decide | (unfold vp_in; decide))
    · rw [vinI (by omega)]; omega
    rw [nI_clamp (by omega), h0]
    refine sw_at 156 14 (by decide) rfl ?_
    repeat' (first | refine And.intro ?_ ?_ | (with_reducible intro h9; exact absurd h9 (by simp only [cI, cN]; decide +kernel)) | with_reducible intro _ | exact (rfl : narrow _ _ = _) | decide | (unfold vp_in; decide))
    all_goals try (simp (discharger := omega) only [upd_ne, upd_eq, cI, cN, ← nI_0, nI_ltI, nI_leI, nI_eq, nI_add, pk_mul, pk_sub, nI_clamp, vinI, not_true_eq_false, not_false_eq_true, iK0, iK1, iK2, iK3, iK4, iK5, iKm1, bK6, bK7, bK8, bK9, bK10, bK12, bK14, bK15, bK16, bK20, bK21, bK26, bK30, bK32, bK33, bK45, bK48, bK57, bK59, bK60, bK62, bK63, bK64, bK80, bK93, bK98, bK99, bK100, bK104, bK107, bK109, bK110, bK112, bK113, bK114, bK115, bK116, bK119, sK255, sK256, sK500, sK700, sK798, sK912, sK1400, sK2000] <;> first | done | omega)
    refine cc0 [0, 1, 2, 3, 4, 5, 6, 7, 8] (mo_pour hg N hc nm nr nb hm hm8 hr hr4 hb (nI v) (nI w)) (by decide) (by decide) (by decide) rfl (by repeat' (first | exact trivial | refine And.intro ?_ ?_ | rfl)) (by first | rfl | (simp (discharger := omega) only [renVs, renV, rnI, h1, h2 (Or.inr rfl), cI, cN, ← nI_0, nI_ltI, nI_leI, nI_eq, nI_add, pk_mul, pk_sub, nI_clamp, vinI, not_true_eq_false, not_false_eq_true, iK0, iK1, iK2, iK3, iK4, iK5, iKm1, bK6, bK7, bK8, bK9, bK10, bK12, bK14, bK15, bK16, bK20, bK21, bK26, bK30, bK32, bK33, bK45, bK48, bK57, bK59, bK60, bK62, bK63, bK64, bK80, bK93, bK98, bK99, bK100, bK104, bK107, bK109, bK110, bK112, bK113, bK114, bK115, bK116, bK119, sK255, sK256, sK500, sK700, sK798, sK912, sK1400, sK2000])) ?_
    (rintro _ _ (⟨q, rfl, y, rfl⟩ | ⟨i, hi, e, q0, ⟨q, rfl, y, rfl⟩ | ⟨q, q2, rfl, y, rfl⟩ | ⟨q, q2, q3, rfl, y, rfl⟩ | ⟨q, q2, q3, q4, rfl, y, rfl⟩ | ⟨q, q2, q3, q4, rfl, rfl⟩⟩)) <;> (repeat' (first | refine And.intro ?_ ?_ | (with_reducible intro h9; exact absurd h9 (by simp only [cI, cN]; decide +kernel)) | with_reducible intro _ | exact (rfl : narrow _ _ = _) | decide | (unfold vp_in; decide)))
    · exact ⟨_, rfl⟩
    · exact ⟨_, Or.inr (Or.inr (Or.inr (Or.inr (Or.inl ⟨rfl, Or.inl ⟨q, rfl⟩⟩)))), rfl⟩
    · exact ⟨_, rfl⟩
    · exact ⟨_, Or.inr (Or.inr (Or.inr (Or.inr (Or.inl ⟨rfl, Or.inr ⟨i, hi, e, q0, Or.inl ⟨q, rfl⟩⟩⟩)))), rfl⟩
    · exact ⟨_, rfl⟩
    · exact ⟨_, Or.inr (Or.inr (Or.inr (Or.inr (Or.inl ⟨rfl, Or.inr ⟨i, hi, e, q0, Or.inr (Or.inl ⟨q, q2, rfl⟩)⟩⟩)))), rfl⟩
    · exact ⟨_, rfl⟩
    · exact ⟨_, Or.inr (Or.inr (Or.inr (Or.inr (Or.inl ⟨rfl, Or.inr ⟨i, hi, e, q0, Or.inr (Or.inr (Or.inl ⟨q, q2, q3, rfl⟩))⟩⟩)))), rfl⟩
    · exact ⟨_, rfl⟩
    · exact ⟨_, Or.inr (Or.inr (Or.inr (Or.inr (Or.inl ⟨rfl, Or.inr ⟨i, hi, e, q0, Or.inr (Or.inr (Or.inr (Or.inl ⟨q, q2, q3, q4, rfl⟩)))⟩⟩)))), rfl⟩
    · exact ⟨_, rfl⟩
    · exact ⟨_, Or.inr (Or.inr (Or.inr (Or.inr (Or.inl ⟨rfl, Or.inr ⟨i, hi, e, q0, Or.inr (Or.inr (Or.inr (Or.inr ⟨q, q2, q3, q4, rfl⟩)))⟩⟩)))), rfl⟩
  · refine wp_spec (M := M_X9_carries) hg ok_X9_carries cut0 60 rfl rfl ?_
    repeat' (first | refine And.intro ?_ ?_ | (with_reducible intro h9; exact absurd h9 (by simp only [cI, cN]; decide +kernel)) | with_reducible intro _ | exact (rfl : narrow _ _ = _) | decide | (unfold vp_in; decide))
    · rw [vinI (by omega)]; omega
    rw [nI_clamp (by omega), h0]
    refine sw_at 177 6 (by decide) rfl ?_
    repeat' (first | refine And.intro ?_ ?_ | (with_reducible intro h9; exact absurd h9 (by simp only [cI, cN]; decide +kernel)) | with_reducible intro _ | exact (rfl : narrow _ _ = _) | decide | (unfold vp_in; decide))
    all_goals try (simp (discharger := omega) only [upd_ne, upd_eq, cI, cN, ← nI_0, nI_ltI, nI_leI, nI_eq, nI_add, pk_mul, pk_sub, nI_clamp, vinI, not_true_eq_false, not_false_eq_true, iK0, iK1, iK2, iK3, iK4, iK5, iKm1, bK6, bK7, bK8, bK9, bK10, bK12, bK14, bK15, bK16, bK20, bK21, bK26, bK30, bK32, bK33, bK45, bK48, bK57, bK59, bK60, bK62, bK63, bK64, bK80, bK93, bK98, bK99, bK100, bK104, bK107, bK109, bK110, bK112, bK113, bK114, bK115, bK116, bK119, sK255, sK256, sK500, sK700, sK798, sK912, sK1400, sK2000] <;> first | done | omega)
    refine cc0 [0, 1, 2, 3, 4, 5, 6, 7, 8] (md_pass hg N nb hb hc hK3 hC (nI v)) (by decide) (by decide) (by decide) rfl (by repeat' (first | exact trivial | refine And.intro ?_ ?_ | rfl)) (by first | rfl | (simp (discharger := omega) only [renVs, renV, rnI, h1, cI, cN, ← nI_0, nI_ltI, nI_leI, nI_eq, nI_add, pk_mul, pk_sub, nI_clamp, vinI, not_true_eq_false, not_false_eq_true, iK0, iK1, iK2, iK3, iK4, iK5, iKm1, bK6, bK7, bK8, bK9, bK10, bK12, bK14, bK15, bK16, bK20, bK21, bK26, bK30, bK32, bK33, bK45, bK48, bK57, bK59, bK60, bK62, bK63, bK64, bK80, bK93, bK98, bK99, bK100, bK104, bK107, bK109, bK110, bK112, bK113, bK114, bK115, bK116, bK119, sK255, sK256, sK500, sK700, sK798, sK912, sK1400, sK2000])) ?_
    (rintro _ _ (⟨q, rfl, y, rfl⟩ | ⟨t, q, q2, q3, rfl, rfl⟩)) <;> (repeat' (first | refine And.intro ?_ ?_ | (with_reducible intro h9; exact absurd h9 (by simp only [cI, cN]; decide +kernel)) | with_reducible intro _ | exact (rfl : narrow _ _ = _) | decide | (unfold vp_in; decide)))
    · exact ⟨_, rfl⟩
    · exact ⟨_, Or.inr (Or.inr (Or.inr (Or.inr (Or.inr (Or.inl ⟨rfl, Or.inl ⟨q, rfl⟩⟩))))), rfl⟩
    · exact ⟨_, rfl⟩
    · exact ⟨_, Or.inr (Or.inr (Or.inr (Or.inr (Or.inr (Or.inl ⟨rfl, Or.inr ⟨t, q, q2, q3, rfl⟩⟩))))), rfl⟩
  · refine wp_spec (M := M_X9_carries) hg ok_X9_carries cut0 60 rfl rfl ?_
    repeat' (first | refine And.intro ?_ ?_ | (with_reducible intro h9; exact absurd h9 (by simp only [cI, cN]; decide +kernel)) | with_reducible intro _ | exact (rfl : narrow _ _ = _) | decide | (unfold vp_in; decide))
    · rw [vinI (by omega)]; omega
    rw [nI_clamp (by omega), h0]
    refine sw_at 190 18 (by decide) rfl ?_
    repeat' (first | refine And.intro ?_ ?_ | (with_reducible intro h9; exact absurd h9 (by simp only [cI, cN]; decide +kernel)) | with_reducible intro _ | exact (rfl : narrow _ _ = _) | decide | (unfold vp_in; decide))
    all_goals try (simp (discharger := omega) only [upd_ne, upd_eq, cI, cN, ← nI_0, nI_ltI, nI_leI, nI_eq, nI_add, pk_mul, pk_sub, nI_clamp, vinI, not_true_eq_false, not_false_eq_true, iK0, iK1, iK2, iK3, iK4, iK5, iKm1, bK6, bK7, bK8, bK9, bK10, bK12, bK14, bK15, bK16, bK20, bK21, bK26, bK30, bK32, bK33, bK45, bK48, bK57, bK59, bK60, bK62, bK63, bK64, bK80, bK93, bK98, bK99, bK100, bK104, bK107, bK109, bK110, bK112, bK113, bK114, bK115, bK116, bK119, sK255, sK256, sK500, sK700, sK798, sK912, sK1400, sK2000] <;> first | done | omega)
    refine cc0 [0, 1, 2, 3, 4, 5, 6, 7, 8] (mo_take hg N hc nb hb (nI v)) (by decide) (by decide) (by decide) rfl (by repeat' (first | exact trivial | refine And.intro ?_ ?_ | rfl)) (by first | rfl | (simp (discharger := omega) only [renVs, renV, rnI, h1, cI, cN, ← nI_0, nI_ltI, nI_leI, nI_eq, nI_add, pk_mul, pk_sub, nI_clamp, vinI, not_true_eq_false, not_false_eq_true, iK0, iK1, iK2, iK3, iK4, iK5, iKm1, bK6, bK7, bK8, bK9, bK10, bK12, bK14, bK15, bK16, bK20, bK21, bK26, bK30, bK32, bK33, bK45, bK48, bK57, bK59, bK60, bK62, bK63, bK64, bK80, bK93, bK98, bK99, bK100, bK104, bK107, bK109, bK110, bK112, bK113, bK114, bK115, bK116, bK119, sK255, sK256, sK500, sK700, sK798, sK912, sK1400, sK2000])) ?_
    (rintro _ _ (⟨q, rfl, y, rfl⟩ | ⟨i, hi, e, q, rfl, y, rfl⟩ | ⟨i, hi, e, q, q2, rfl, y, rfl⟩ | ⟨i, hi, e, q, q2, rfl, rfl⟩)) <;> (repeat' (first | refine And.intro ?_ ?_ | (with_reducible intro h9; exact absurd h9 (by simp only [cI, cN]; decide +kernel)) | with_reducible intro _ | exact (rfl : narrow _ _ = _) | decide | (unfold vp_in; decide)))
    · exact ⟨_, rfl⟩
    · exact ⟨_, Or.inr (Or.inr (Or.inr (Or.inr (Or.inr (Or.inr (Or.inl ⟨rfl, Or.inl ⟨q, rfl⟩⟩)))))), rfl⟩
    · exact ⟨_, rfl⟩
    · exact ⟨_, Or.inr (Or.inr (Or.inr (Or.inr (Or.inr (Or.inr (Or.inl ⟨rfl, Or.inr (Or.inl ⟨i, hi, e, q, rfl⟩)⟩)))))), rfl⟩
    · exact ⟨_, rfl⟩
    · exact ⟨_, Or.inr (Or.inr (Or.inr (Or.inr (Or.inr (Or.inr (Or.inl ⟨rfl, Or.inr (Or.inr (Or.inl ⟨i, hi, e, q, q2, rfl⟩))⟩)))))), rfl⟩
    · exact ⟨_, rfl⟩
    · exact ⟨_, Or.inr (Or.inr (Or.inr (Or.inr (Or.inr (Or.inr (Or.inl ⟨rfl, Or.inr (Or.inr (Or.inr ⟨i, hi, e, q, q2, rfl⟩))⟩)))))), rfl⟩
  · refine wp_spec (M := M_X9_carries) hg ok_X9_carries cut0 60 rfl rfl ?_
    repeat' (first | refine And.intro ?_ ?_ | (with_reducible intro h9; exact absurd h9 (by simp only [cI, cN]; decide +kernel)) | with_reducible intro _ | exact (rfl : narrow _ _ = _) | decide | (unfold vp_in; decide))
    · rw [vinI (by omega)]; omega
    rw [nI_clamp (by omega), h0]
    refine sw_at 203 9 (by decide) rfl ?_
    repeat' (first | refine And.intro ?_ ?_ | (with_reducible intro h9; exact absurd h9 (by simp only [cI, cN]; decide +kernel)) | with_reducible intro _ | exact (rfl : narrow _ _ = _) | decide | (unfold vp_in; decide))
    all_goals try (simp (discharger := omega) only [upd_ne, upd_eq, cI, cN, ← nI_0, nI_ltI, nI_leI, nI_eq, nI_add, pk_mul, pk_sub, nI_clamp, vinI, not_true_eq_false, not_false_eq_true, iK0, iK1, iK2, iK3, iK4, iK5, iKm1, bK6, bK7, bK8, bK9, bK10, bK12, bK14, bK15, bK16, bK20, bK21, bK26, bK30, bK32, bK33, bK45, bK48, bK57, bK59, bK60, bK62, bK63, bK64, bK80, bK93, bK98, bK99, bK100, bK104, bK107, bK109, bK110, bK112, bK113, bK114, bK115, bK116, bK119, sK255, sK256, sK500, sK700, sK798, sK912, sK1400, sK2000] <;> first | done | omega)
    refine cc0 [0, 1, 2, 3, 4, 5, 6, 7, 8] (mo_recast hg N hc nb hb (nI v)) (by decide) (by decide) (by decide) rfl (by repeat' (first | exact trivial | refine And.intro ?_ ?_ | rfl)) (by first | rfl | (simp (discharger := omega) only [renVs, renV, rnI, h1, cI, cN, ← nI_0, nI_ltI, nI_leI, nI_eq, nI_add, pk_mul, pk_sub, nI_clamp, vinI, not_true_eq_false, not_false_eq_true, iK0, iK1, iK2, iK3, iK4, iK5, iKm1, bK6, bK7, bK8, bK9, bK10, bK12, bK14, bK15, bK16, bK20, bK21, bK26, bK30, bK32, bK33, bK45, bK48, bK57, bK59, bK60, bK62, bK63, bK64, bK80, bK93, bK98, bK99, bK100, bK104, bK107, bK109, bK110, bK112, bK113, bK114, bK115, bK116, bK119, sK255, sK256, sK500, sK700, sK798, sK912, sK1400, sK2000])) ?_
    (rintro _ _ (⟨q, rfl, y, rfl⟩ | ⟨i, hi, e, q, rfl, y, rfl⟩ | ⟨i, hi, e, q, q2, rfl, y, rfl⟩ | ⟨i, hi, e, q, q2, rfl, rfl⟩)) <;> (repeat' (first | refine And.intro ?_ ?_ | (with_reducible intro h9; exact absurd h9 (by simp only [cI, cN]; decide +kernel)) | with_reducible intro _ | exact (rfl : narrow _ _ = _) | decide | (unfold vp_in; decide)))
    · exact ⟨_, rfl⟩
    · exact ⟨_, Or.inr (Or.inr (Or.inr (Or.inr (Or.inr (Or.inr (Or.inr (⟨rfl, Or.inl ⟨q, rfl⟩⟩))))))), rfl⟩
    · exact ⟨_, rfl⟩
    · exact ⟨_, Or.inr (Or.inr (Or.inr (Or.inr (Or.inr (Or.inr (Or.inr (⟨rfl, Or.inr (Or.inl ⟨i, hi, e, q, rfl⟩)⟩))))))), rfl⟩
    · exact ⟨_, rfl⟩
    · exact ⟨_, Or.inr (Or.inr (Or.inr (Or.inr (Or.inr (Or.inr (Or.inr (⟨rfl, Or.inr (Or.inr (Or.inl ⟨i, hi, e, q, q2, rfl⟩))⟩))))))), rfl⟩
    · exact ⟨_, rfl⟩
    · exact ⟨_, Or.inr (Or.inr (Or.inr (Or.inr (Or.inr (Or.inr (Or.inr (⟨rfl, Or.inr (Or.inr (Or.inr ⟨i, hi, e, q, q2, rfl⟩))⟩))))))), rfl⟩
end NN
