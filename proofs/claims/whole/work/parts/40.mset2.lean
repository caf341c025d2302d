/-! ===== the reference: by the hottest; ways ===== -/
theorem or_0 : ∀ q : Fin 256, nI q.1 ||| Int32.ofInt 0 = nI q.1 := by decide +kernel
theorem or_b : ∀ a b : Fin 2, vp_nar .boolean (nI a.1 ||| nI b.1) = nI (max a.1 b.1) := by decide +kernel
def fv : Option Nat → Int32
  | none => -1
  | some f => nI f
def fiok (fi : Option Nat) (j : Nat) : Prop := fi = none ∨ fi = some j
/-- a set that a way reaches, its first mould as told -/
def rch (D : pT) (fi : Option Nat) (s : Nat) : Prop := ∃ l, l ≠ [] ∧ chn D 0 l ∧ setL 0 l = s ∧ (fi = none ∨ ∃ f, fi = some f ∧ l.head? = some f)
def stp (D : pT) (fi : Option Nat) (s j : Nat) : Prop := s.testBit j = true ∧ okS D (s - 2 ^ j) j ∧ ((s - 2 ^ j = 0 ∧ fiok fi j) ∨ (¬ s - 2 ^ j = 0 ∧ rch D fi (s - 2 ^ j)))
theorem chn_snoc {D : pT} {k : Nat} : ∀ {l : List Nat} {s : Nat}, chn D s (l ++ [k]) ↔ chn D s l ∧ avl D (setL s l) k
  | [], s => ⟨fun h => ⟨trivial, h.1⟩, fun h => ⟨h.2, trivial⟩⟩
  | j :: l, s => by
    show (avl D s j ∧ chn D (sb s j) (l ++ [k])) ↔ ((avl D s j ∧ chn D (sb s j) l) ∧ avl D (setL (sb s j) l) k)
    rw [chn_snoc (l := l)]
    exact and_assoc.symm
theorem setL_snoc {k : Nat} : ∀ {l : List Nat} {s : Nat}, setL s (l ++ [k]) = sb (setL s l) k
  | [], s => rfl
  | j :: l, s => setL_snoc (l := l) (s := sb s j)
theorem setL_lt {D : pT} (hn : D.2.1 ≤ 8) : ∀ {l : List Nat} {s : Nat}, s < 2 ^ D.2.1 → chn D s l → setL s l < 2 ^ D.2.1
  | [], s, hs, _ => hs
  | j :: l, s, hs, h => setL_lt hn (l := l) (sb_n hn hs h.1.1) h.2
theorem setL_pc {D : pT} (hn : D.2.1 ≤ 8) : ∀ {l : List Nat} {s : Nat}, s < 256 → chn D s l → pc (setL s l) = pc s + l.length
  | [], s, hs, _ => rfl
  | j :: l, s, hs, h => by
    have hk : j < 8 := Nat.lt_of_lt_of_le h.1.1 hn
    have e := pc_sb ⟨s, hs⟩ ⟨j, hk⟩ h.1.2.1
    simp only at e
    show pc (setL (sb s j) l) = _
    rw [setL_pc hn (sb_256 hs hk) h.2, e]
    simp only [List.length_cons]
    omega
theorem rch_iff {D : pT} (hn : D.2.1 ≤ 8) {fi : Option Nat} {s : Nat} (hs : s < 2 ^ D.2.1) : rch D fi s ↔ ∃ j, j < D.2.1 ∧ stp D fi s j := by
  have h256 : s < 256 := Nat.lt_of_lt_of_le hs (p2_le hn)
  constructor
  · rintro ⟨l, hl, hc, he, hf⟩
    have hd := List.dropLast_concat_getLast hl
    generalize l.dropLast = l0 at hd
    generalize l.getLast hl = j at hd
    subst hd
    rw [chn_snoc] at hc
    rw [setL_snoc] at he
    have hr := setL_lt hn (Nat.two_pow_pos _) hc.1
    have hr256 : setL 0 l0 < 256 := Nat.lt_of_lt_of_le hr (p2_le hn)
    have hj8 : j < 8 := Nat.lt_of_lt_of_le hc.2.1 hn
    have hsb := sb_ok ⟨setL 0 l0, hr256⟩ ⟨j, hj8⟩ hc.2.2.1
    simp only [he] at hsb
    have e : s - 2 ^ j = setL 0 l0 := by omega
    refine ⟨j, hc.2.1, hsb.2.2, by rw [e]; exact hc.2.2.2, ?_⟩
    rw [e]
    cases l0 with
    | nil =>
      refine Or.inl ⟨rfl, ?_⟩
      rcases hf with q | ⟨f, q, q2⟩
      · exact Or.inl q
      · simp at q2
        subst q2
        exact Or.inr q
    | cons a l1 =>
      refine Or.inr ⟨fun z => ?_, a :: l1, by simp, hc.1, rfl, ?_⟩
      · have := setL_pc hn (show 0 < 256 by omega) hc.1
        rw [z, pc_0] at this
        simp at this
      · rcases hf with q | ⟨f, q, q2⟩
        · exact Or.inl q
        · exact Or.inr ⟨f, q, by simpa using q2⟩
  · rintro ⟨j, hj, h1, h2, h3⟩
    have hj8 : j < 8 := by omega
    obtain ⟨c1, c2, c3⟩ := cb_ok ⟨s, h256⟩ ⟨j, hj8⟩ h1
    simp only at c1 c2 c3
    rcases h3 with ⟨e, hf⟩ | ⟨e, l, hl, hc, he, hf⟩
    · rw [e] at c2 c3 h2
      refine ⟨[j], by simp, ⟨⟨hj, c2, h2⟩, trivial⟩, c3, ?_⟩
      rcases hf with q | q
      · exact Or.inl q
      · exact Or.inr ⟨j, q, rfl⟩
    · refine ⟨l ++ [j], by simp, chn_snoc.mpr ⟨hc, hj, by rw [he]; exact c2, by rw [he]; exact h2⟩, by rw [setL_snoc, he]; exact c3, ?_⟩
      rcases hf with q | ⟨f, q, q2⟩
      · exact Or.inl q
      · refine Or.inr ⟨f, q, ?_⟩
        cases l with
        | nil => exact absurd rfl hl
        | cons a l1 => simpa using q2
section NN
variable {G : gT}
/-- what hottest answers -/
def htA (D : pT) (s : Nat) (y : Int32) : Prop := (∃ b, y = nI b ∧ isHt D s b) ∨ (y = -1 ∧ ∀ k, k < D.2.1 → s.testBit k = true)
set_option maxRecDepth 20000 in
theorem md_hot_l (hg : gOK G) (N : nT) (D : pT) (hd : gD D N.g) (s : Nat) (hs : s < 256) {K : Option Value → xW → Prop} {KX : Nat → xW → Prop} (hK : ∀ y, htA D s y → K (some (.int y)) (mw N)) : ∀ (c k : Nat) (hk : k ≤ D.2.1) (y : Int32) (hy : (∃ b, y = nI b ∧ phT D s k b) ∨ (y = -1 ∧ ∀ j, j < k → s.testBit j = true)) (hc9 : D.2.1 - k = c),
    AW G M_X9_hottest 3 0 0 4 [some (.ref 0), some (.int (nI s)), some (.int y), some (.int (nI k))] [] (mw N) K KX := by
  intro c
  induction c using Nat.strongRecOn with | ind c ih => ?_
  intro k hk y hy hc9
  obtain ⟨hn, h14, h20, hP20, hcb, hck, hg0, hg1, hg2⟩ := id hd
  have e2 : N.g (Int32.ofInt 2).toNatClampNeg = nI D.2.1 := hg2
  have hsk : s.testBit k = true → ((∃ b, y = nI b ∧ phT D s (k + 1) b) ∨ (y = -1 ∧ ∀ j, j < k + 1 → s.testBit j = true)) := fun hb => by
    rcases hy with ⟨b, e, h⟩ | ⟨e, h⟩
    · exact Or.inl ⟨b, e, phT_n h (Or.inl hb)⟩
    · exact Or.inr ⟨e, fun j hj => by
        rcases Nat.lt_or_ge j k with z | z
        · exact h j z
        · have : j = k := by omega
          rw [this]; exact hb⟩
  refine wp_ok (M := M_X9_hottest) hg ok_X9_hottest (lkp [(4, [true, true, true, true])]) 60 _ _ _ _ _ _ ?_
  repeat' (first | refine And.intro ?_ ?_ | (with_reducible intro h9; exact absurd h9 (by simp only [cI, cN]; decide +kernel)) | with_reducible intro _ | exact (rfl : narrow _ _ = _) | decide | (unfold vp_in; decide))
  · rename_i g
    simp (discharger := omega) only [cI, e2, nI_leI] at g
    have : k = D.2.1 := by omega
    subst this
    refine hK y ?_
    rcases hy with ⟨b, e, h⟩ | ⟨e, h⟩
    · exact Or.inl ⟨b, e, h⟩
    · exact Or.inr ⟨e, h⟩
  · rename_i g g2
    simp (discharger := omega) only [cN, e2, nI_leI] at g
    have hb := b_shr8 hs (show k < 8 by omega)
    simp only [cI, hb] at g2
    have hbit : s.testBit k = true := by
      cases hz : s.testBit k with
      | true => rfl
      | false => rw [hz] at g2; exact absurd (show nI (if false = true then 1 else 0) = 0 by decide) g2
    exact AW.cg (ih _ (by omega) (k + 1) (by omega) y (hsk hbit) rfl) rfl rfl rfl (by first | rfl | (simp (discharger := omega) only [msk, clr_i, clr_r, cI, cN, ← nI_0, nI_ltI, nI_leI, nI_eq, nI_add, pk_mul, pk_sub, nI_clamp, vinI, not_true_eq_false, not_false_eq_true, iK0, iK1, iK2, iK3, iK4, iK5, iKm1, bK6, bK7, bK8, bK9, bK10, bK12, bK14, bK15, bK16, bK20, bK21, bK26, bK30, bK32, bK33, bK45, bK48, bK57, bK59, bK60, bK62, bK63, bK64, bK80, bK93, bK98, bK99, bK100, bK104, bK107, bK109, bK110, bK112, bK113, bK114, bK115, bK116, bK119, sK255, sK256, sK500, sK700, sK798, sK912, sK1400, sK2000]; done) | (simp (discharger := omega) only [msk, clr_i, clr_r, cI, cN, ← nI_0, nI_ltI, nI_leI, nI_eq, nI_add, pk_mul, pk_sub, nI_clamp, vinI, not_true_eq_false, not_false_eq_true, iK0, iK1, iK2, iK3, iK4, iK5, iKm1, bK6, bK7, bK8, bK9, bK10, bK12, bK14, bK15, bK16, bK20, bK21, bK26, bK30, bK32, bK33, bK45, bK48, bK57, bK59, bK60, bK62, bK63, bK64, bK80, bK93, bK98, bK99, bK100, bK104, bK107, bK109, bK110, bK112, bK113, bK114, bK115, bK116, bK119, sK255, sK256, sK500, sK700, sK798, sK912, sK1400, sK2000]; rfl)) rfl rfl
  · rename_i g g2 g3
    simp (discharger := omega) only [cN, e2, nI_leI] at g
    have hb := b_shr8 hs (show k < 8 by omega)
    simp only [cN, hb] at g2
    have hbit : s.testBit k = false := by
      cases hz : s.testBit k with
      | false => rfl
      | true => rw [hz] at g2; exact absurd g2 (by decide)
    rcases hy with ⟨b, e, h⟩ | ⟨e, h⟩
    · subst e
      have := h.1
      exact absurd g3 (nI_pos (by omega))
    · exact AW.cg (ih _ (by omega) (k + 1) (by omega) (nI k) (Or.inl ⟨k, rfl, phT_0 h hbit⟩) rfl) rfl rfl rfl (by first | rfl | (simp (discharger := omega) only [msk, clr_i, clr_r, cI, cN, ← nI_0, nI_ltI, nI_leI, nI_eq, nI_add, pk_mul, pk_sub, nI_clamp, vinI, not_true_eq_false, not_false_eq_true, iK0, iK1, iK2, iK3, iK4, iK5, iKm1, bK6, bK7, bK8, bK9, bK10, bK12, bK14, bK15, bK16, bK20, bK21, bK26, bK30, bK32, bK33, bK45, bK48, bK57, bK59, bK60, bK62, bK63, bK64, bK80, bK93, bK98, bK99, bK100, bK104, bK107, bK109, bK110, bK112, bK113, bK114, bK115, bK116, bK119, sK255, sK256, sK500, sK700, sK798, sK912, sK1400, sK2000]; done) | (simp (discharger := omega) only [msk, clr_i, clr_r, cI, cN, ← nI_0, nI_ltI, nI_leI, nI_eq, nI_add, pk_mul, pk_sub, nI_clamp, vinI, not_true_eq_false, not_false_eq_true, iK0, iK1, iK2, iK3, iK4, iK5, iKm1, bK6, bK7, bK8, bK9, bK10, bK12, bK14, bK15, bK16, bK20, bK21, bK26, bK30, bK32, bK33, bK45, bK48, bK57, bK59, bK60, bK62, bK63, bK64, bK80, bK93, bK98, bK99, bK100, bK104, bK107, bK109, bK110, bK112, bK113, bK114, bK115, bK116, bK119, sK255, sK256, sK500, sK700, sK798, sK912, sK1400, sK2000]; rfl)) rfl rfl
  · rename_i g g2 g3
    simp (discharger := omega) only [cN, e2, nI_leI] at g
    have hb := b_shr8 hs (show k < 8 by omega)
    simp only [cN, hb] at g2
    have hbit : s.testBit k = false := by
      cases hz : s.testBit k with
      | false => rfl
      | true => rw [hz] at g2; exact absurd g2 (by decide)
    rcases hy with ⟨b, e, h⟩ | ⟨e, h⟩
    · subst e
      have hb1 := h.1
      have sp1 := md_core hg N k (by omega)
      rw [hck k (by omega)] at sp1
      have sp2 := md_core hg N b (by omega)
      rw [hck b (by omega)] at sp2
      have c1 := hcb k
      have c2 := hcb b
      refine cc0 [0, 1, 2, 3, 4, 5, 6, 7, 8] (sp1) (by decide) (by decide) (by decide) rfl (by repeat' (first | exact trivial | refine And.intro ?_ ?_ | rfl)) (by first | rfl | (simp (discharger := omega) only [renVs, renV, rnI, cI, cN, ← nI_0, nI_ltI, nI_leI, nI_eq, nI_add, pk_mul, pk_sub, nI_clamp, vinI, not_true_eq_false, not_false_eq_true, iK0, iK1, iK2, iK3, iK4, iK5, iKm1, bK6, bK7, bK8, bK9, bK10, bK12, bK14, bK15, bK16, bK20, bK21, bK26, bK30, bK32, bK33, bK45, bK48, bK57, bK59, bK60, bK62, bK63, bK64, bK80, bK93, bK98, bK99, bK100, bK104, bK107, bK109, bK110, bK112, bK113, bK114, bK115, bK116, bK119, sK255, sK256, sK500, sK700, sK798, sK912, sK1400, sK2000])) ?_
      (rintro _ _ ⟨rfl, rfl⟩) <;> (repeat' (first | refine And.intro ?_ ?_ | (with_reducible intro h9; exact absurd h9 (by simp only [cI, cN]; decide +kernel)) | with_reducible intro _ | exact (rfl : narrow _ _ = _) | decide | (unfold vp_in; decide)))
      refine cc0 [0, 1, 2, 3, 4, 5, 6, 7, 8] (sp2) (by decide) (by decide) (by decide) rfl (by repeat' (first | exact trivial | refine And.intro ?_ ?_ | rfl)) (by first | rfl | (simp (discharger := omega) only [renVs, renV, rnI, cI, cN, ← nI_0, nI_ltI, nI_leI, nI_eq, nI_add, pk_mul, pk_sub, nI_clamp, vinI, not_true_eq_false, not_false_eq_true, iK0, iK1, iK2, iK3, iK4, iK5, iKm1, bK6, bK7, bK8, bK9, bK10, bK12, bK14, bK15, bK16, bK20, bK21, bK26, bK30, bK32, bK33, bK45, bK48, bK57, bK59, bK60, bK62, bK63, bK64, bK80, bK93, bK98, bK99, bK100, bK104, bK107, bK109, bK110, bK112, bK113, bK114, bK115, bK116, bK119, sK255, sK256, sK500, sK700, sK798, sK912, sK1400, sK2000])) ?_
      (rintro _ _ ⟨rfl, rfl⟩) <;> (repeat' (first | refine And.intro ?_ ?_ | (with_reducible intro h9; exact absurd h9 (by simp only [cI, cN]; decide +kernel)) | with_reducible intro _ | exact (rfl : narrow _ _ = _) | decide | (unfold vp_in; decide)))
      · rename_i g4
        simp (discharger := omega) only [cI, nI_leI] at g4
        exact AW.cg (ih _ (by omega) (k + 1) (by omega) (nI b) (Or.inl ⟨b, rfl, phT_n h (Or.inr g4)⟩) rfl) rfl rfl rfl (by first | rfl | (simp (discharger := omega) only [msk, clr_i, clr_r, cI, cN, ← nI_0, nI_ltI, nI_leI, nI_eq, nI_add, pk_mul, pk_sub, nI_clamp, vinI, not_true_eq_false, not_false_eq_true, iK0, iK1, iK2, iK3, iK4, iK5, iKm1, bK6, bK7, bK8, bK9, bK10, bK12, bK14, bK15, bK16, bK20, bK21, bK26, bK30, bK32, bK33, bK45, bK48, bK57, bK59, bK60, bK62, bK63, bK64, bK80, bK93, bK98, bK99, bK100, bK104, bK107, bK109, bK110, bK112, bK113, bK114, bK115, bK116, bK119, sK255, sK256, sK500, sK700, sK798, sK912, sK1400, sK2000]; done) | (simp (discharger := omega) only [msk, clr_i, clr_r, cI, cN, ← nI_0, nI_ltI, nI_leI, nI_eq, nI_add, pk_mul, pk_sub, nI_clamp, vinI, not_true_eq_false, not_false_eq_true, iK0, iK1, iK2, iK3, iK4, iK5, iKm1, bK6, bK7, bK8, bK9, bK10, bK12, bK14, bK15, bK16, bK20, bK21, bK26, bK30, bK32, bK33, bK45, bK48, bK57, bK59, bK60, bK62, bK63, bK64, bK80, bK93, bK98, bK99, bK100, bK104, bK107, bK109, bK110, bK112, bK113, bK114, bK115, bK116, bK119, sK255, sK256, sK500, sK700, sK798, sK912, sK1400, sK2000]; rfl)) rfl rfl
      · rename_i g4
        simp (discharger := omega) only [cN, nI_leI] at g4
        exact AW.cg (ih _ (by omega) (k + 1) (by omega) (nI k) (Or.inl ⟨k, rfl, phT_y h hbit (by omega)⟩) rfl) rfl rfl rfl (by first | rfl | (simp (discharger := omega) only [msk, clr_i, clr_r, cI, cN, ← nI_0, nI_ltI, nI_leI, nI_eq, nI_add, pk_mul, pk_sub, nI_clamp, vinI, not_true_eq_false, not_false_eq_true, iK0, iK1, iK2, iK3, iK4, iK5, iKm1, bK6, bK7, bK8, bK9, bK10, bK12, bK14, bK15, bK16, bK20, bK21, bK26, bK30, bK32, bK33, bK45, bK48, bK57, bK59, bK60, bK62, bK63, bK64, bK80, bK93, bK98, bK99, bK100, bK104, bK107, bK109, bK110, bK112, bK113, bK114, bK115, bK116, bK119, sK255, sK256, sK500, sK700, sK798, sK912, sK1400, sK2000]; done) | (simp (discharger := omega) only [msk, clr_i, clr_r, cI, cN, ← nI_0, nI_ltI, nI_leI, nI_eq, nI_add, pk_mul, pk_sub, nI_clamp, vinI, not_true_eq_false, not_false_eq_true, iK0, iK1, iK2, iK3, iK4, iK5, iKm1, bK6, bK7, bK8, bK9, bK10, bK12, bK14, bK15, bK16, bK20, bK21, bK26, bK30, bK32, bK33, bK45, bK48, bK57, bK59, bK60, bK62, bK63, bK64, bK80, bK93, bK98, bK99, bK100, bK104, bK107, bK109, bK110, bK112, bK113, bK114, bK115, bK116, bK119, sK255, sK256, sK500, sK700, sK798, sK912, sK1400, sK2000]; rfl)) rfl rfl
    · subst e
      exact absurd (show (-1 : Int32) < 0 by decide) g3
set_option maxRecDepth 20000 in
theorem md_hot (hg : gOK G) (N : nT) (D : pT) (hd : gD D N.g) (s : Nat) (hs : s < 256) : Spec G 3 0 0 m_X9_hottest [.ref 0, .int (nI s)] (mw N) (fun v w' => (∃ y, htA D s y ∧ v = some (.int y)) ∧ w' = mw N) NX := by
  refine wp_spec (M := M_X9_hottest) hg ok_X9_hottest (lkp [(4, [true, true, true, true])]) 60 rfl rfl ?_
  repeat' (first | refine And.intro ?_ ?_ | (with_reducible intro h9; exact absurd h9 (by simp only [cI, cN]; decide +kernel)) | with_reducible intro _ | exact (rfl : narrow _ _ = _) | decide | (unfold vp_in; decide))
  exact AW.cg (md_hot_l hg N D hd s hs (fun y q => ⟨⟨y, q, rfl⟩, rfl⟩) _ 0 (by omega) (-1) (Or.inr ⟨rfl, fun j hj => by omega⟩) rfl) rfl rfl rfl (by first | rfl | (simp (discharger := omega) only [msk, clr_i, clr_r, cI, cN, ← nI_0, nI_ltI, nI_leI, nI_eq, nI_add, pk_mul, pk_sub, nI_clamp, vinI, not_true_eq_false, not_false_eq_true, iK0, iK1, iK2, iK3, iK4, iK5, iKm1, bK6, bK7, bK8, bK9, bK10, bK12, bK14, bK15, bK16, bK20, bK21, bK26, bK30, bK32, bK33, bK45, bK48, bK57, bK59, bK60, bK62, bK63, bK64, bK80, bK93, bK98, bK99, bK100, bK104, bK107, bK109, bK110, bK112, bK113, bK114, bK115, bK116, bK119, sK255, sK256, sK500, sK700, sK798, sK912, sK1400, sK2000]; done) | (simp (discharger := omega) only [msk, clr_i, clr_r, cI, cN, ← nI_0, nI_ltI, nI_leI, nI_eq, nI_add, pk_mul, pk_sub, nI_clamp, vinI, not_true_eq_false, not_false_eq_true, iK0, iK1, iK2, iK3, iK4, iK5, iKm1, bK6, bK7, bK8, bK9, bK10, bK12, bK14, bK15, bK16, bK20, bK21, bK26, bK30, bK32, bK33, bK45, bK48, bK57, bK59, bK60, bK62, bK63, bK64, bK80, bK93, bK98, bK99, bK100, bK104, bK107, bK109, bK110, bK112, bK113, bK114, bK115, bK116, bK119, sK255, sK256, sK500, sK700, sK798, sK912, sK1400, sK2000]; rfl)) rfl rfl
set_option maxRecDepth 20000 in
theorem md_by_l (hg : gOK G) (N : nT) (D : pT) (hd : gD D N.g) {K : Option Value → xW → Prop} {KX : Nat → xW → Prop} (hK : ∀ s q, sim D D.2.1 s q → K (some (.int (nI (pc q)))) (mw N)) : ∀ (c t : Nat) (ht : t ≤ D.2.1) (s q : Nat) (hs : sim D t s q) (y : Int32) (hy : htA D s y) (hc9 : D.2.1 - t = c),
    AW G M_X9_byHottest 4 0 0 10 [some (.ref 0), some (.int (nI s)), some (.int (nI q)), some (.int y)] [] (mw N) K KX := by
  intro c
  induction c using Nat.strongRecOn with | ind c ih => ?_
  intro t ht s q hs y hy hc9
  obtain ⟨hn, h14, h20, hP20, hcb, hck, hg0, hg1, hg2⟩ := id hd
  obtain ⟨a1, a2, a3, a4⟩ := sim_ok hn hs
  have s256 := Nat.lt_of_lt_of_le a1 (p2_le hn)
  have q256 := Nat.lt_of_lt_of_le a2 (p2_le hn)
  refine wp_ok (M := M_X9_byHottest) hg ok_X9_byHottest (lkp [(10, [true, true, true, true])]) 60 _ _ _ _ _ _ ?_
  repeat' (first | refine And.intro ?_ ?_ | (with_reducible intro h9; exact absurd h9 (by simp only [cI, cN]; decide +kernel)) | with_reducible intro _ | exact (rfl : narrow _ _ = _) | decide | (unfold vp_in; decide))
  · rename_i g
    simp only [cI] at g
    rcases hy with ⟨b, e, h⟩ | ⟨e, h⟩
    · subst e
      have := h.1
      exact absurd g (nI_pos (by omega))
    · have ht2 : t = D.2.1 := by
        rcases Nat.lt_or_ge (pc s) D.2.1 with z | z
        · obtain ⟨k, h1, h2⟩ := pc_lt ⟨s, s256⟩ ⟨D.2.1, by omega⟩ a1 z
          rw [h k.1 h1] at h2
          cases h2
        · omega
      subst ht2
      refine cc0 [] (md_many hg q q256) (by decide) (by decide) (by decide) rfl (by repeat' (first | exact trivial | refine And.intro ?_ ?_ | rfl)) (by first | rfl | (simp (discharger := omega) only [renVs, renV, rnI, cI, cN, ← nI_0, nI_ltI, nI_leI, nI_eq, nI_add, pk_mul, pk_sub, nI_clamp, vinI, not_true_eq_false, not_false_eq_true, iK0, iK1, iK2, iK3, iK4, iK5, iKm1, bK6, bK7, bK8, bK9, bK10, bK12, bK14, bK15, bK16, bK20, bK21, bK26, bK30, bK32, bK33, bK45, bK48, bK57, bK59, bK60, bK62, bK63, bK64, bK80, bK93, bK98, bK99, bK100, bK104, bK107, bK109, bK110, bK112, bK113, bK114, bK115, bK116, bK119, sK255, sK256, sK500, sK700, sK798, sK912, sK1400, sK2000])) ?_
      (rintro _ _ ⟨rfl, rfl⟩) <;> (repeat' (first | refine And.intro ?_ ?_ | (with_reducible intro h9; exact absurd h9 (by simp only [cI, cN]; decide +kernel)) | with_reducible intro _ | exact (rfl : narrow _ _ = _) | decide | (unfold vp_in; decide)))
      exact hK s q hs
  · rename_i g
    simp only [cN] at g
    rcases hy with ⟨b, e, h⟩ | ⟨e, h⟩
    · subst e
      have hb1 := h.1
      have hb8 : b < 8 := by omega
      have htn : t < D.2.1 := by
        rcases Nat.lt_or_ge t D.2.1 with z | z
        · exact z
        · have hp2 := pc_full ⟨sb s b, sb_256 s256 hb8⟩ ⟨D.2.1, by omega⟩ (sb_n hn a1 hb1)
          have hp3 := pc_sb ⟨s, s256⟩ ⟨b, hb8⟩ h.2.1
          simp only at hp2 hp3
          omega
      have es : nI s ||| nI 1 <<< (nI b &&& 31) = nI (sb s b) := by rw [← iK1]; exact b_or8 s256 hb8
      have eq : nI q ||| nI 1 <<< (nI b &&& 31) = nI (sb q b) := by rw [← iK1]; exact b_or8 q256 hb8
      have e0 : nI q ||| nI 0 = nI q := by rw [← iK0]; exact or_0 ⟨q, q256⟩
      refine cc0 [0, 1, 2, 3, 4, 5, 6, 7, 8] (md_pours hg N D hd q b q256 hb1) (by decide) (by decide) (by decide) rfl (by repeat' (first | exact trivial | refine And.intro ?_ ?_ | rfl)) (by first | rfl | (simp (discharger := omega) only [renVs, renV, rnI, cI, cN, ← nI_0, nI_ltI, nI_leI, nI_eq, nI_add, pk_mul, pk_sub, nI_clamp, vinI, not_true_eq_false, not_false_eq_true, iK0, iK1, iK2, iK3, iK4, iK5, iKm1, bK6, bK7, bK8, bK9, bK10, bK12, bK14, bK15, bK16, bK20, bK21, bK26, bK30, bK32, bK33, bK45, bK48, bK57, bK59, bK60, bK62, bK63, bK64, bK80, bK93, bK98, bK99, bK100, bK104, bK107, bK109, bK110, bK112, bK113, bK114, bK115, bK116, bK119, sK255, sK256, sK500, sK700, sK798, sK912, sK1400, sK2000])) ?_
      (rintro _ _ ⟨⟨rfl, z⟩ | ⟨rfl, z⟩, rfl⟩) <;> (repeat' (first | refine And.intro ?_ ?_ | (with_reducible intro h9; exact absurd h9 (by simp only [cI, cN]; decide +kernel)) | with_reducible intro _ | exact (rfl : narrow _ _ = _) | decide | (unfold vp_in; decide)))
      · refine cc0 [0, 1, 2, 3, 4, 5, 6, 7, 8] (md_hot hg N D hd (sb s b) (sb_256 s256 hb8)) (by decide) (by decide) (by decide) rfl (by repeat' (first | exact trivial | refine And.intro ?_ ?_ | rfl)) (by first | rfl | (simp (discharger := omega) only [renVs, renV, rnI, es, cI, cN, ← nI_0, nI_ltI, nI_leI, nI_eq, nI_add, pk_mul, pk_sub, nI_clamp, vinI, not_true_eq_false, not_false_eq_true, iK0, iK1, iK2, iK3, iK4, iK5, iKm1, bK6, bK7, bK8, bK9, bK10, bK12, bK14, bK15, bK16, bK20, bK21, bK26, bK30, bK32, bK33, bK45, bK48, bK57, bK59, bK60, bK62, bK63, bK64, bK80, bK93, bK98, bK99, bK100, bK104, bK107, bK109, bK110, bK112, bK113, bK114, bK115, bK116, bK119, sK255, sK256, sK500, sK700, sK798, sK912, sK1400, sK2000])) ?_
        (rintro _ _ ⟨⟨y2, hy2, rfl⟩, rfl⟩) <;> (repeat' (first | refine And.intro ?_ ?_ | (with_reducible intro h9; exact absurd h9 (by simp only [cI, cN]; decide +kernel)) | with_reducible intro _ | exact (rfl : narrow _ _ = _) | decide | (unfold vp_in; decide)))
        exact AW.cg (ih _ (by omega) (t + 1) (by omega) (sb s b) (sb q b) ⟨s, q, b, hs, h, rfl, Or.inl ⟨z, rfl⟩⟩ y2 hy2 rfl) rfl rfl rfl (by first | rfl | (simp (discharger := omega) only [msk, clr_i, clr_r, es, eq, cI, cN, ← nI_0, nI_ltI, nI_leI, nI_eq, nI_add, pk_mul, pk_sub, nI_clamp, vinI, not_true_eq_false, not_false_eq_true, iK0, iK1, iK2, iK3, iK4, iK5, iKm1, bK6, bK7, bK8, bK9, bK10, bK12, bK14, bK15, bK16, bK20, bK21, bK26, bK30, bK32, bK33, bK45, bK48, bK57, bK59, bK60, bK62, bK63, bK64, bK80, bK93, bK98, bK99, bK100, bK104, bK107, bK109, bK110, bK112, bK113, bK114, bK115, bK116, bK119, sK255, sK256, sK500, sK700, sK798, sK912, sK1400, sK2000]; done) | (simp (discharger := omega) only [msk, clr_i, clr_r, es, eq, cI, cN, ← nI_0, nI_ltI, nI_leI, nI_eq, nI_add, pk_mul, pk_sub, nI_clamp, vinI, not_true_eq_false, not_false_eq_true, iK0, iK1, iK2, iK3, iK4, iK5, iKm1, bK6, bK7, bK8, bK9, bK10, bK12, bK14, bK15, bK16, bK20, bK21, bK26, bK30, bK32, bK33, bK45, bK48, bK57, bK59, bK60, bK62, bK63, bK64, bK80, bK93, bK98, bK99, bK100, bK104, bK107, bK109, bK110, bK112, bK113, bK114, bK115, bK116, bK119, sK255, sK256, sK500, sK700, sK798, sK912, sK1400, sK2000]; rfl)) rfl rfl
      · refine cc0 [0, 1, 2, 3, 4, 5, 6, 7, 8] (md_hot hg N D hd (sb s b) (sb_256 s256 hb8)) (by decide) (by decide) (by decide) rfl (by repeat' (first | exact trivial | refine And.intro ?_ ?_ | rfl)) (by first | rfl | (simp (discharger := omega) only [renVs, renV, rnI, es, cI, cN, ← nI_0, nI_ltI, nI_leI, nI_eq, nI_add, pk_mul, pk_sub, nI_clamp, vinI, not_true_eq_false, not_false_eq_true, iK0, iK1, iK2, iK3, iK4, iK5, iKm1, bK6, bK7, bK8, bK9, bK10, bK12, bK14, bK15, bK16, bK20, bK21, bK26, bK30, bK32, bK33, bK45, bK48, bK57, bK59, bK60, bK62, bK63, bK64, bK80, bK93, bK98, bK99, bK100, bK104, bK107, bK109, bK110, bK112, bK113, bK114, bK115, bK116, bK119, sK255, sK256, sK500, sK700, sK798, sK912, sK1400, sK2000])) ?_
        (rintro _ _ ⟨⟨y2, hy2, rfl⟩, rfl⟩) <;> (repeat' (first | refine And.intro ?_ ?_ | (with_reducible intro h9; exact absurd h9 (by simp only [cI, cN]; decide +kernel)) | with_reducible intro _ | exact (rfl : narrow _ _ = _) | decide | (unfold vp_in; decide)))
        exact AW.cg (ih _ (by omega) (t + 1) (by omega) (sb s b) q ⟨s, q, b, hs, h, rfl, Or.inr ⟨z, rfl⟩⟩ y2 hy2 rfl) rfl rfl rfl (by first | rfl | (simp (discharger := omega) only [msk, clr_i, clr_r, es, e0, cI, cN, ← nI_0, nI_ltI, nI_leI, nI_eq, nI_add, pk_mul, pk_sub, nI_clamp, vinI, not_true_eq_false, not_false_eq_true, iK0, iK1, iK2, iK3, iK4, iK5, iKm1, bK6, bK7, bK8, bK9, bK10, bK12, bK14, bK15, bK16, bK20, bK21, bK26, bK30, bK32, bK33, bK45, bK48, bK57, bK59, bK60, bK62, bK63, bK64, bK80, bK93, bK98, bK99, bK100, bK104, bK107, bK109, bK110, bK112, bK113, bK114, bK115, bK116, bK119, sK255, sK256, sK500, sK700, sK798, sK912, sK1400, sK2000]; done) | (simp (discharger := omega) only [msk, clr_i, clr_r, es, e0, cI, cN, ← nI_0, nI_ltI, nI_leI, nI_eq, nI_add, pk_mul, pk_sub, nI_clamp, vinI, not_true_eq_false, not_false_eq_true, iK0, iK1, iK2, iK3, iK4, iK5, iKm1, bK6, bK7, bK8, bK9, bK10, bK12, bK14, bK15, bK16, bK20, bK21, bK26, bK30, bK32, bK33, bK45, bK48, bK57, bK59, bK60, bK62, bK63, bK64, bK80, bK93, bK98, bK99, bK100, bK104, bK107, bK109, bK110, bK112, bK113, bK114, bK115, bK116, bK119, sK255, sK256, sK500, sK700, sK798, sK912, sK1400, sK2000]; rfl)) rfl rfl
    · subst e
      exact absurd (show (-1 : Int32) < 0 by decide) g
set_option maxRecDepth 20000 in
theorem md_by (hg : gOK G) (N : nT) (D : pT) (hd : gD D N.g) : Spec G 4 0 0 m_X9_byHottest [.ref 0] (mw N) (fun v w' => (∃ s q, sim D D.2.1 s q ∧ v = some (.int (nI (pc q)))) ∧ w' = mw N) NX := by
  refine wp_spec (M := M_X9_byHottest) hg ok_X9_byHottest (lkp [(10, [true, true, true, true])]) 60 rfl rfl ?_
  repeat' (first | refine And.intro ?_ ?_ | (with_reducible intro h9; exact absurd h9 (by simp only [cI, cN]; decide +kernel)) | with_reducible intro _ | exact (rfl : narrow _ _ = _) | decide | (unfold vp_in; decide))
  refine cc0 [0, 1, 2, 3, 4, 5, 6, 7, 8] (md_hot hg N D hd 0 (by omega)) (by decide) (by decide) (by decide) rfl (by repeat' (first | exact trivial | refine And.intro ?_ ?_ | rfl)) (by first | rfl | (simp (discharger := omega) only [renVs, renV, rnI, cI, cN, ← nI_0, nI_ltI, nI_leI, nI_eq, nI_add, pk_mul, pk_sub, nI_clamp, vinI, not_true_eq_false, not_false_eq_true, iK0, iK1, iK2, iK3, iK4, iK5, iKm1, bK6, bK7, bK8, bK9, bK10, bK12, bK14, bK15, bK16, bK20, bK21, bK26, bK30, bK32, bK33, bK45, bK48, bK57, bK59, bK60, bK62, bK63, bK64, bK80, bK93, bK98, bK99, bK100, bK104, bK107, bK109, bK110, bK112, bK113, bK114, bK115, bK116, bK119, sK255, sK256, sK500, sK700, sK798, sK912, sK1400, sK2000])) ?_
  (rintro _ _ ⟨⟨y, hy, rfl⟩, rfl⟩) <;> (repeat' (first | refine And.intro ?_ ?_ | (with_reducible intro h9; exact absurd h9 (by simp only [cI, cN]; decide +kernel)) | with_reducible intro _ | exact (rfl : narrow _ _ = _) | decide | (unfold vp_in; decide)))
  exact AW.cg (md_by_l hg N D hd (fun s q h => ⟨⟨s, q, h, rfl⟩, rfl⟩) _ 0 (by omega) 0 0 ⟨rfl, rfl⟩ y hy rfl) rfl rfl rfl (by first | rfl | (simp (discharger := omega) only [msk, clr_i, clr_r, cI, cN, ← nI_0, nI_ltI, nI_leI, nI_eq, nI_add, pk_mul, pk_sub, nI_clamp, vinI, not_true_eq_false, not_false_eq_true, iK0, iK1, iK2, iK3, iK4, iK5, iKm1, bK6, bK7, bK8, bK9, bK10, bK12, bK14, bK15, bK16, bK20, bK21, bK26, bK30, bK32, bK33, bK45, bK48, bK57, bK59, bK60, bK62, bK63, bK64, bK80, bK93, bK98, bK99, bK100, bK104, bK107, bK109, bK110, bK112, bK113, bK114, bK115, bK116, bK119, sK255, sK256, sK500, sK700, sK798, sK912, sK1400, sK2000]; done) | (simp (discharger := omega) only [msk, clr_i, clr_r, cI, cN, ← nI_0, nI_ltI, nI_leI, nI_eq, nI_add, pk_mul, pk_sub, nI_clamp, vinI, not_true_eq_false, not_false_eq_true, iK0, iK1, iK2, iK3, iK4, iK5, iKm1, bK6, bK7, bK8, bK9, bK10, bK12, bK14, bK15, bK16, bK20, bK21, bK26, bK30, bK32, bK33, bK45, bK48, bK57, bK59, bK60, bK62, bK63, bK64, bK80, bK93, bK98, bK99, bK100, bK104, bK107, bK109, bK110, bK112, bK113, bK114, bK115, bK116, bK119, sK255, sK256, sK500, sK700, sK798, sK912, sK1400, sK2000]; rfl)) rfl rfl
end NN
