/-! ===== orders as texts: what a text says; the reference's reading ===== -/
/-- the sign at a place, -1 behind the end -/
def hre (t : Nat → Int32) (n a : Nat) : Int32 := if a < n then t a else -1
def isD (x : Int32) : Prop := nI 48 ≤ x ∧ x ≤ nI 57
def dgv (x : Int32) : Nat := x.toNatClampNeg - 48
theorem isD_nI {x : Int32} (h : isD x) : x = nI (48 + dgv x) ∧ dgv x < 10 := by
  obtain ⟨h1, h2⟩ := h
  obtain ⟨j, hj, rfl⟩ := nI_of (x := x) (by rw [← nI_0]; exact Int32.not_lt.mpr (Int32.le_trans (by decide) h1))
  rw [nI_leI (by omega) (by omega)] at h1 h2
  unfold dgv
  rw [nI_clamp hj]
  exact ⟨by congr 1; omega, by omega⟩
/-- figures from a on, m at most: how many, and the number behind acc -/
def fgc (t : Nat → Int32) (n : Nat) : Nat → Nat → Nat
  | 0, _ => 0
  | m + 1, a => if nI 48 ≤ hre t n a ∧ hre t n a ≤ nI 57 then fgc t n m (a + 1) + 1 else 0
def fgv (t : Nat → Int32) (n : Nat) : Nat → Nat → Nat → Nat
  | 0, _, acc => acc
  | m + 1, a, acc => if nI 48 ≤ hre t n a ∧ hre t n a ≤ nI 57 then fgv t n m (a + 1) (acc * 10 + dgv (hre t n a)) else acc
theorem fgc_le {t : Nat → Int32} {n : Nat} : ∀ {m a : Nat}, fgc t n m a ≤ m
  | 0, _ => Nat.le_refl _
  | m + 1, a => by
    unfold fgc
    split
    · have := fgc_le (t := t) (n := n) (m := m) (a := a + 1)
      omega
    · omega
theorem fgc_n {t : Nat → Int32} {n : Nat} : ∀ {m a : Nat}, a ≤ n → a + fgc t n m a ≤ n
  | 0, _, h => h
  | m + 1, a, h => by
    unfold fgc
    split
    · rename_i q
      have : a < n := by
        rcases Nat.lt_or_ge a n with z | z
        · exact z
        · have e : hre t n a = -1 := if_neg (by omega)
          rw [e] at q
          exact absurd q.1 (by decide)
      have := fgc_n (t := t) (n := n) (m := m) (a := a + 1) (by omega)
      omega
    · omega
theorem upd_upd {f : Nat → Int32} {i : Nat} {x y : Int32} : upd (upd f i x) i y = upd f i y := funext fun q => by
  unfold upd
  by_cases h : q = i
  · rw [if_pos h, if_pos h]
  · rw [if_neg h, if_neg h, if_neg h]
section NN
variable {G : gT}
/-- the reference's reading stands at a, of n signs -/
def nT.rd (N : nT) (n a : Nat) : Prop := N.ln = nI n ∧ n ≤ 60 ∧ N.ap = nI a ∧ a ≤ n
set_option maxRecDepth 20000 in
theorem md_here (hg : gOK G) (N : nT) (n a : Nat) (h : N.rd n a) : Spec G 1 0 0 m_X9_here [.ref 0] (mw N) (fun v w' => v = some (.int (hre N.ip n a)) ∧ w' = mw N) NX := by
  obtain ⟨h1, h2, h3, h4⟩ := h
  refine wp_spec (M := M_X9_here) hg ok_X9_here cut0 60 rfl rfl ?_
  repeat' (first | refine And.intro ?_ ?_ | (with_reducible intro h9; exact absurd h9 (by simp only [cI, cN]; decide +kernel)) | with_reducible intro _ | exact (rfl : narrow _ _ = _) | decide | (unfold vp_in; decide))
  · rename_i g
    simp (discharger := omega) only [cI, h1, h3, nI_leI] at g
    show _ = some (Value.int (if _ then _ else _))
    rw [if_neg (by omega)]
    rfl
  · rfl
  · rename_i g
    simp (discharger := omega) only [cN, h1, h3, nI_leI] at g
    rw [h3, vinI (by omega)]; omega
  · rename_i g
    simp (discharger := omega) only [cN, h1, h3, nI_leI] at g
    show _ = some (Value.int (if _ then _ else _))
    rw [if_pos (by omega), h3, nI_clamp (by omega)]
  · rfl
set_option maxRecDepth 20000 in
theorem md_skips (hg : gOK G) (N : nT) (n a : Nat) (h : N.rd n a) (x : Int32) (hx : ¬ x = -1) : Spec G 2 0 0 m_X9_skips [.ref 0, .int x] (mw N) (fun v w' =>
    (hre N.ip n a = x ∧ a < n ∧ v = some (.int (nI 1)) ∧ w' = mw (N.s_ap (nI (a + 1)))) ∨
    (¬ hre N.ip n a = x ∧ v = some (.int (nI 0)) ∧ w' = mw N)) NX := by
  have h' := h
  obtain ⟨h1, h2, h3, h4⟩ := h
  refine wp_spec (M := M_X9_skips) hg ok_X9_skips cut0 60 rfl rfl ?_
  repeat' (first | refine And.intro ?_ ?_ | (with_reducible intro h9; exact absurd h9 (by simp only [cI, cN]; decide +kernel)) | with_reducible intro _ | exact (rfl : narrow _ _ = _) | decide | (unfold vp_in; decide))
  refine cc0 [0, 1, 2, 3, 4, 5, 6, 7, 8] (md_here hg N n a h') (by decide) (by decide) (by decide) rfl (by repeat' (first | exact trivial | refine And.intro ?_ ?_ | rfl)) (by first | rfl | (simp (discharger := omega) only [renVs, renV, rnI, cI, cN, ← nI_0, nI_ltI, nI_leI, nI_eq, nI_add, pk_mul, pk_sub, nI_clamp, vinI, not_true_eq_false, not_false_eq_true, iK0, iK1, iK2, iK3, iK4, iK5, iKm1, bK6, bK7, bK8, bK9, bK10, bK12, bK14, bK15, bK16, bK20, bK21, bK26, bK30, bK32, bK33, bK45, bK48, bK57, bK59, bK60, bK62, bK63, bK64, bK80, bK93, bK98, bK99, bK100, bK104, bK107, bK109, bK110, bK112, bK113, bK114, bK115, bK116, bK119, sK255, sK256, sK500, sK700, sK798, sK912, sK1400, sK2000])) ?_
  (rintro _ _ ⟨rfl, rfl⟩) <;> (repeat' (first | refine And.intro ?_ ?_ | (with_reducible intro h9; exact absurd h9 (by simp only [cI, cN]; decide +kernel)) | with_reducible intro _ | exact (rfl : narrow _ _ = _) | decide | (unfold vp_in; decide)))
  · rename_i g
    simp only [cI] at g
    refine Or.inl ⟨g, ?_, rfl, ?_⟩
    · rcases Nat.lt_or_ge a n with z | z
      · exact z
      · exact absurd (g.symm.trans (if_neg (by omega))) hx
    · rw [h3, iK1, nI_add]
      rfl
  · rename_i g
    simp only [cN] at g
    exact Or.inr ⟨g, rfl, rfl⟩
set_option maxRecDepth 20000 in
theorem md_fig_l (hg : gOK G) (N : nT) (n a pl m : Nat) (hn : N.ln = nI n) (hn6 : n ≤ 60) (hpl : pl < 93) (hm : m ≤ 3) (td0 : Nat → Int32) {K : Option Value → xW → Prop} {KX : Nat → xW → Prop} (V : Nat) (B : Nat) (hK : K (some (.int (nI 1))) (mw ((N.s_td (upd td0 pl (nI V))).s_ap (nI B)))) : ∀ (c k : Nat) (hk : k ≤ m) (b acc : Nat) (hb : b ≤ n) (hacc : acc < 10 ^ k) (e1 : fgv N.ip n (m - k) b acc = V) (e2 : b + fgc N.ip n (m - k) b = B) (hc9 : m - k = c),
    AW G M_X9_figures 2 0 0 25 [some (.ref 0), some (.int (nI pl)), some (.int (nI m)), some (.int (nI k))] [] (mw ((N.s_td (upd td0 pl (nI acc))).s_ap (nI b))) K KX := by
  intro c
  induction c using Nat.strongRecOn with | ind c ih => ?_
  intro k hk b acc hb hacc e1 e2 hc9
  have hrd : ((N.s_td (upd td0 pl (nI acc))).s_ap (nI b)).rd n b := ⟨hn, hn6, rfl, hb⟩
  have h10 : 10 ^ k ≤ 1000 := Nat.le_trans (Nat.pow_le_pow_right (by omega) (show k ≤ 3 by omega)) (by decide)
  refine wp_ok (M := M_X9_figures) hg ok_X9_figures (lkp [(25, [true, true, true, true])]) 60 _ _ _ _ _ _ ?_
  repeat' (first | refine And.intro ?_ ?_ | (with_reducible intro h9; exact absurd h9 (by simp only [cI, cN]; decide +kernel)) | with_reducible intro _ | exact (rfl : narrow _ _ = _) | decide | (unfold vp_in; decide))
  · rename_i g
    simp (discharger := omega) only [cI, nI_leI] at g
    have : k = m := by omega
    subst this
    rw [Nat.sub_self] at e1 e2
    have e1' : acc = V := e1
    have e2' : b + 0 = B := e2
    subst e1' e2'
    exact hK
  · rename_i g
    simp (discharger := omega) only [cN, nI_leI] at g
    obtain ⟨j, hj⟩ : ∃ j, m - k = j + 1 := ⟨m - k - 1, by omega⟩
    refine cc0 [0, 1, 2, 3, 4, 5, 6, 7, 8] (md_here hg _ n b hrd) (by decide) (by decide) (by decide) rfl (by repeat' (first | exact trivial | refine And.intro ?_ ?_ | rfl)) (by first | rfl | (simp (discharger := omega) only [renVs, renV, rnI, cI, cN, ← nI_0, nI_ltI, nI_leI, nI_eq, nI_add, pk_mul, pk_sub, nI_clamp, vinI, not_true_eq_false, not_false_eq_true, iK0, iK1, iK2, iK3, iK4, iK5, iKm1, bK6, bK7, bK8, bK9, bK10, bK12, bK14, bK15, bK16, bK20, bK21, bK26, bK30, bK32, bK33, bK45, bK48, bK57, bK59, bK60, bK62, bK63, bK64, bK80, bK93, bK98, bK99, bK100, bK104, bK107, bK109, bK110, bK112, bK113, bK114, bK115, bK116, bK119, sK255, sK256, sK500, sK700, sK798, sK912, sK1400, sK2000])) ?_
    (rintro _ _ ⟨rfl, rfl⟩) <;> (repeat' (first | refine And.intro ?_ ?_ | (with_reducible intro h9; exact absurd h9 (by simp only [cI, cN]; decide +kernel)) | with_reducible intro _ | exact (rfl : narrow _ _ = _) | decide | (unfold vp_in; decide)))
    refine cc0 [] (md_in hg _ (nI 48) (nI 57)) (by decide) (by decide) (by decide) rfl (by repeat' (first | exact trivial | refine And.intro ?_ ?_ | rfl)) (by first | rfl | (simp (discharger := omega) only [renVs, renV, rnI, cI, cN, ← nI_0, nI_ltI, nI_leI, nI_eq, nI_add, pk_mul, pk_sub, nI_clamp, vinI, not_true_eq_false, not_false_eq_true, iK0, iK1, iK2, iK3, iK4, iK5, iKm1, bK6, bK7, bK8, bK9, bK10, bK12, bK14, bK15, bK16, bK20, bK21, bK26, bK30, bK32, bK33, bK45, bK48, bK57, bK59, bK60, bK62, bK63, bK64, bK80, bK93, bK98, bK99, bK100, bK104, bK107, bK109, bK110, bK112, bK113, bK114, bK115, bK116, bK119, sK255, sK256, sK500, sK700, sK798, sK912, sK1400, sK2000])) ?_
    (rintro _ _ ⟨⟨rfl, q⟩ | ⟨rfl, q⟩, rfl⟩) <;> (repeat' (first | refine And.intro ?_ ?_ | (with_reducible intro h9; exact absurd h9 (by simp only [cI, cN]; decide +kernel)) | with_reducible intro _ | exact (rfl : narrow _ _ = _) | decide | (unfold vp_in; decide)))
    · rw [vinI (by omega)]; omega
    · obtain ⟨d1, d2⟩ := isD_nI q
      have q1 : nI 48 ≤ hre N.ip n b := q.1
      have d1' : hre N.ip n b = nI (48 + dgv (hre N.ip n b)) := d1
      have d2' : dgv (hre N.ip n b) < 10 := d2
      have hbn : b < n := by
        rcases Nat.lt_or_ge b n with z | z
        · exact z
        · have e : hre N.ip n b = -1 := if_neg (by omega)
          rw [e] at q1
          exact absurd q1 (by decide)
      have f1 : fgv N.ip n (m - k) b acc = fgv N.ip n j (b + 1) (acc * 10 + dgv (hre N.ip n b)) := by
        rw [hj]
        exact if_pos q
      have f2 : fgc N.ip n (m - k) b = fgc N.ip n j (b + 1) + 1 := by
        rw [hj]
        exact if_pos q
      have hj2 : m - (k + 1) = j := by omega
      have h10k : 10 ^ (k + 1) = 10 ^ k * 10 := Nat.pow_succ 10 k
      refine cc0 [0, 1, 2, 3, 4, 5, 6, 7, 8] (md_here hg _ n b hrd) (by decide) (by decide) (by decide) rfl (by repeat' (first | exact trivial | refine And.intro ?_ ?_ | rfl)) (by first | rfl | (simp (discharger := omega) only [renVs, renV, rnI, cI, cN, ← nI_0, nI_ltI, nI_leI, nI_eq, nI_add, pk_mul, pk_sub, nI_clamp, vinI, not_true_eq_false, not_false_eq_true, iK0, iK1, iK2, iK3, iK4, iK5, iKm1, bK6, bK7, bK8, bK9, bK10, bK12, bK14, bK15, bK16, bK20, bK21, bK26, bK30, bK32, bK33, bK45, bK48, bK57, bK59, bK60, bK62, bK63, bK64, bK80, bK93, bK98, bK99, bK100, bK104, bK107, bK109, bK110, bK112, bK113, bK114, bK115, bK116, bK119, sK255, sK256, sK500, sK700, sK798, sK912, sK1400, sK2000])) ?_
      (rintro _ _ ⟨rfl, rfl⟩) <;> (repeat' (first | refine And.intro ?_ ?_ | (with_reducible intro h9; exact absurd h9 (by simp only [cI, cN]; decide +kernel)) | with_reducible intro _ | exact (rfl : narrow _ _ = _) | decide | (unfold vp_in; decide)))
      · rw [vinI (by omega)]; omega
      · refine AW.cg (ih _ (by omega) (k + 1) (by omega) (b + 1) (acc * 10 + dgv (hre N.ip n b)) (by omega) (by omega) (by rw [hj2, ← f1]; exact e1) (by rw [hj2]; rw [f2] at e2; omega) rfl) rfl rfl rfl (by first | rfl | (simp (discharger := omega) only [msk, clr_i, clr_r, cI, cN, ← nI_0, nI_ltI, nI_leI, nI_eq, nI_add, pk_mul, pk_sub, nI_clamp, vinI, not_true_eq_false, not_false_eq_true, iK0, iK1, iK2, iK3, iK4, iK5, iKm1, bK6, bK7, bK8, bK9, bK10, bK12, bK14, bK15, bK16, bK20, bK21, bK26, bK30, bK32, bK33, bK45, bK48, bK57, bK59, bK60, bK62, bK63, bK64, bK80, bK93, bK98, bK99, bK100, bK104, bK107, bK109, bK110, bK112, bK113, bK114, bK115, bK116, bK119, sK255, sK256, sK500, sK700, sK798, sK912, sK1400, sK2000]; done) | (simp (discharger := omega) only [msk, clr_i, clr_r, cI, cN, ← nI_0, nI_ltI, nI_leI, nI_eq, nI_add, pk_mul, pk_sub, nI_clamp, vinI, not_true_eq_false, not_false_eq_true, iK0, iK1, iK2, iK3, iK4, iK5, iKm1, bK6, bK7, bK8, bK9, bK10, bK12, bK14, bK15, bK16, bK20, bK21, bK26, bK30, bK32, bK33, bK45, bK48, bK57, bK59, bK60, bK62, bK63, bK64, bK80, bK93, bK98, bK99, bK100, bK104, bK107, bK109, bK110, bK112, bK113, bK114, bK115, bK116, bK119, sK255, sK256, sK500, sK700, sK798, sK912, sK1400, sK2000]; rfl)) rfl ?_
        have ev : (Int8.ofInt 10).toInt32 * (upd td0 pl (nI acc)) (nI pl).toNatClampNeg + hre N.ip n b - (Int8.ofInt 48).toInt32 = nI (acc * 10 + dgv (hre N.ip n b)) := by
          generalize dgv (hre N.ip n b) = d at *
          rw [nI_clamp (by omega), upd_eq, d1', bK10, bK48, pk_mul, nI_add, pk_sub (by omega)]
          congr 1
          omega
        show mw _ = mw ((N.s_td (upd (upd td0 pl (nI acc)) (nI pl).toNatClampNeg ((Int8.ofInt 10).toInt32 * (upd td0 pl (nI acc)) (nI pl).toNatClampNeg + hre N.ip n b - (Int8.ofInt 48).toInt32))).s_ap (nI b + Int32.ofInt 1))
        rw [ev, nI_clamp (by omega), upd_upd, iK1, nI_add]
    · have q' : ¬ (nI 48 ≤ hre N.ip n b ∧ hre N.ip n b ≤ nI 57) := q
      have f1 : fgv N.ip n (m - k) b acc = acc := by
        rw [hj]
        exact if_neg q'
      have f2 : fgc N.ip n (m - k) b = 0 := by
        rw [hj]
        exact if_neg q'
      rw [f1] at e1
      rw [f2] at e2
      have e2' : b = B := e2
      subst e1 e2'
      exact hK
set_option maxRecDepth 20000 in
theorem md_fig (hg : gOK G) (N : nT) (n a pl m : Nat) (h : N.rd n a) (hpl : pl < 93) (hm : m ≤ 3) : Spec G 2 0 0 m_X9_figures [.ref 0, .int (nI pl), .int (nI m)] (mw N) (fun v w' =>
    (¬ isD (hre N.ip n a) ∧ v = some (.int (nI 0)) ∧ w' = mw N) ∨
    (isD (hre N.ip n a) ∧ v = some (.int (nI 1)) ∧ w' = mw ((N.s_td (upd N.td pl (nI (fgv N.ip n m a 0)))).s_ap (nI (a + fgc N.ip n m a))))) NX := by
  have h' := h
  obtain ⟨h1, h2, h3, h4⟩ := h
  refine wp_spec (M := M_X9_figures) hg ok_X9_figures (lkp [(25, [true, true, true, true])]) 60 rfl rfl ?_
  repeat' (first | refine And.intro ?_ ?_ | (with_reducible intro h9; exact absurd h9 (by simp only [cI, cN]; decide +kernel)) | with_reducible intro _ | exact (rfl : narrow _ _ = _) | decide | (unfold vp_in; decide))
  refine cc0 [0, 1, 2, 3, 4, 5, 6, 7, 8] (md_here hg N n a h') (by decide) (by decide) (by decide) rfl (by repeat' (first | exact trivial | refine And.intro ?_ ?_ | rfl)) (by first | rfl | (simp (discharger := omega) only [renVs, renV, rnI, cI, cN, ← nI_0, nI_ltI, nI_leI, nI_eq, nI_add, pk_mul, pk_sub, nI_clamp, vinI, not_true_eq_false, not_false_eq_true, iK0, iK1, iK2, iK3, iK4, iK5, iKm1, bK6, bK7, bK8, bK9, bK10, bK12, bK14, bK15, bK16, bK20, bK21, bK26, bK30, bK32, bK33, bK45, bK48, bK57, bK59, bK60, bK62, bK63, bK64, bK80, bK93, bK98, bK99, bK100, bK104, bK107, bK109, bK110, bK112, bK113, bK114, bK115, bK116, bK119, sK255, sK256, sK500, sK700, sK798, sK912, sK1400, sK2000])) ?_
  (rintro _ _ ⟨rfl, rfl⟩) <;> (repeat' (first | refine And.intro ?_ ?_ | (with_reducible intro h9; exact absurd h9 (by simp only [cI, cN]; decide +kernel)) | with_reducible intro _ | exact (rfl : narrow _ _ = _) | decide | (unfold vp_in; decide)))
  refine cc0 [] (md_in hg _ (nI 48) (nI 57)) (by decide) (by decide) (by decide) rfl (by repeat' (first | exact trivial | refine And.intro ?_ ?_ | rfl)) (by first | rfl | (simp (discharger := omega) only [renVs, renV, rnI, cI, cN, ← nI_0, nI_ltI, nI_leI, nI_eq, nI_add, pk_mul, pk_sub, nI_clamp, vinI, not_true_eq_false, not_false_eq_true, iK0, iK1, iK2, iK3, iK4, iK5, iKm1, bK6, bK7, bK8, bK9, bK10, bK12, bK14, bK15, bK16, bK20, bK21, bK26, bK30, bK32, bK33, bK45, bK48, bK57, bK59, bK60, bK62, bK63, bK64, bK80, bK93, bK98, bK99, bK100, bK104, bK107, bK109, bK110, bK112, bK113, bK114, bK115, bK116, bK119, sK255, sK256, sK500, sK700, sK798, sK912, sK1400, sK2000])) ?_
  (rintro _ _ ⟨⟨rfl, q⟩ | ⟨rfl, q⟩, rfl⟩) <;> (repeat' (first | refine And.intro ?_ ?_ | (with_reducible intro h9; exact absurd h9 (by simp only [cI, cN]; decide +kernel)) | with_reducible intro _ | exact (rfl : narrow _ _ = _) | decide | (unfold vp_in; decide)))
  · rw [vinI (by omega)]; omega
  · exact AW.cg (md_fig_l hg N n a pl m h1 h2 hpl hm N.td (fgv N.ip n m a 0) (a + fgc N.ip n m a) (Or.inr ⟨q, rfl, rfl⟩) _ 0 (by omega) a 0 h4 (by omega) rfl rfl rfl) rfl rfl rfl (by first | rfl | (simp (discharger := omega) only [msk, clr_i, clr_r, cI, cN, ← nI_0, nI_ltI, nI_leI, nI_eq, nI_add, pk_mul, pk_sub, nI_clamp, vinI, not_true_eq_false, not_false_eq_true, iK0, iK1, iK2, iK3, iK4, iK5, iKm1, bK6, bK7, bK8, bK9, bK10, bK12, bK14, bK15, bK16, bK20, bK21, bK26, bK30, bK32, bK33, bK45, bK48, bK57, bK59, bK60, bK62, bK63, bK64, bK80, bK93, bK98, bK99, bK100, bK104, bK107, bK109, bK110, bK112, bK113, bK114, bK115, bK116, bK119, sK255, sK256, sK500, sK700, sK798, sK912, sK1400, sK2000]; done) | (simp (discharger := omega) only [msk, clr_i, clr_r, cI, cN, ← nI_0, nI_ltI, nI_leI, nI_eq, nI_add, pk_mul, pk_sub, nI_clamp, vinI, not_true_eq_false, not_false_eq_true, iK0, iK1, iK2, iK3, iK4, iK5, iKm1, bK6, bK7, bK8, bK9, bK10, bK12, bK14, bK15, bK16, bK20, bK21, bK26, bK30, bK32, bK33, bK45, bK48, bK57, bK59, bK60, bK62, bK63, bK64, bK80, bK93, bK98, bK99, bK100, bK104, bK107, bK109, bK110, bK112, bK113, bK114, bK115, bK116, bK119, sK255, sK256, sK500, sK700, sK798, sK912, sK1400, sK2000]; rfl)) rfl (by
      rw [← h3, nI_clamp (by omega)]
      rfl)
  · exact Or.inl ⟨q, rfl, rfl⟩
end NN
