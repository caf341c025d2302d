/-! ===== Text ===== -/
theorem fgv_lt {t : Nat → Int32} {n : Nat} : ∀ {m a acc : Nat}, fgv t n m a acc < (acc + 1) * 10 ^ m
  | 0, a, acc => by
    show acc < _
    rw [Nat.pow_zero]
    omega
  | m + 1, a, acc => by
    have hp : 10 ^ (m + 1) = 10 * 10 ^ m := by rw [Nat.pow_succ, Nat.mul_comm]
    unfold fgv
    split
    · rename_i q
      have hd := (isD_nI q).2
      have ih := fgv_lt (t := t) (n := n) (m := m) (a := a + 1) (acc := acc * 10 + dgv (hre t n a))
      refine Nat.lt_of_lt_of_le ih ?_
      rw [hp, ← Nat.mul_assoc]
      exact Nat.mul_le_mul_right _ (by omega)
    · have h1 : 0 < 10 ^ (m + 1) := Nat.pow_pos (by omega)
      have h2 : (acc + 1) * 1 ≤ (acc + 1) * 10 ^ (m + 1) := Nat.mul_le_mul_left _ h1
      omega
def xt (q : Nat) (f t : Nat → Int32) (n a : Nat) : xW := [.inr (10, [.ref 1, .ref 3, .int (nI n), .int (nI a)]), .inr (9, [.int (nI 21), .int (nI 3), .ref 2, .int (nI q)]), .inl (0, 21 * 3, .inl f), .inl (2, 60, .inl t)]
section XX
variable {G : gT}
set_option maxRecDepth 20000 in
theorem tx_size (hg : gOK G) (q : Nat) (f t : Nat → Int32) (n a : Nat) : Spec G 1 0 0 m_X7_size [.ref 0] (xt q f t n a) (fun v w' => v = some (.int (nI n)) ∧ w' = xt q f t n a) NX := by
  refine wp_spec (M := M_X7_size) hg ok_X7_size cut0 60 rfl rfl ?_
  repeat' (first | refine And.intro ?_ ?_ | (with_reducible intro h9; exact absurd h9 (by simp only [cI, cN]; decide +kernel)) | with_reducible intro _ | exact (rfl : narrow _ _ = _) | decide | (unfold vp_in; decide))
  all_goals rfl
set_option maxRecDepth 20000 in
theorem tx_full (hg : gOK G) (q : Nat) (f t : Nat → Int32) (n a : Nat) (hn : n ≤ 60) : Spec G 1 0 0 m_X7_isFull [.ref 0] (xt q f t n a) (fun v w' => ((v = some (.int (nI 1)) ∧ n = 60) ∨ (v = some (.int (nI 0)) ∧ n < 60)) ∧ w' = xt q f t n a) NX := by
  refine wp_spec (M := M_X7_isFull) hg ok_X7_isFull cut0 60 rfl rfl ?_
  repeat' (first | refine And.intro ?_ ?_ | (with_reducible intro h9; exact absurd h9 (by simp only [cI, cN]; decide +kernel)) | with_reducible intro _ | exact (rfl : narrow _ _ = _) | decide | (unfold vp_in; decide))
  · rename_i g
    simp (discharger := omega) only [upd_ne, upd_eq, Classical.not_not, cI, cN, ← nI_0, nI_ltI, nI_leI, nI_eq, nI_add, pk_mul, pk_sub, nI_clamp, vinI, not_true_eq_false, not_false_eq_true, iK0, iK1, iK2, iK3, iK4, iK5, iKm1, bK6, bK7, bK8, bK9, bK10, bK12, bK14, bK15, bK16, bK20, bK21, bK26, bK30, bK32, bK33, bK45, bK48, bK57, bK59, bK60, bK62, bK63, bK64, bK80, bK93, bK98, bK99, bK100, bK104, bK107, bK109, bK110, bK112, bK113, bK114, bK115, bK116, bK119, sK255, sK256, sK500, sK700, sK798, sK912, sK1400, sK2000] at g
    exact Or.inr ⟨rfl, g⟩
  · rfl
  · rename_i g
    simp (discharger := omega) only [upd_ne, upd_eq, Classical.not_not, cI, cN, ← nI_0, nI_ltI, nI_leI, nI_eq, nI_add, pk_mul, pk_sub, nI_clamp, vinI, not_true_eq_false, not_false_eq_true, iK0, iK1, iK2, iK3, iK4, iK5, iKm1, bK6, bK7, bK8, bK9, bK10, bK12, bK14, bK15, bK16, bK20, bK21, bK26, bK30, bK32, bK33, bK45, bK48, bK57, bK59, bK60, bK62, bK63, bK64, bK80, bK93, bK98, bK99, bK100, bK104, bK107, bK109, bK110, bK112, bK113, bK114, bK115, bK116, bK119, sK255, sK256, sK500, sK700, sK798, sK912, sK1400, sK2000] at g
    exact Or.inl ⟨rfl, by omega⟩
  · rfl
set_option maxRecDepth 20000 in
theorem tx_add (hg : gOK G) (q : Nat) (f t : Nat → Int32) (n a : Nat) (hn : n < 60) (x : Int32) (hx : vp_nar .char x = x) : Spec G 2 0 0 m_X7_add [.ref 0, .int x] (xt q f t n a) (fun v w' => v = none ∧ w' = xt q f (upd t n x) (n + 1) a) NX := by
  refine wp_spec (M := M_X7_add) hg ok_X7_add cut0 60 rfl rfl ?_
  repeat' (first | refine And.intro ?_ ?_ | (with_reducible intro h9; exact absurd h9 (by simp only [cI, cN]; decide +kernel)) | with_reducible intro _ | exact (rfl : narrow _ _ = _) | decide | (unfold vp_in; decide))
  refine cc0 [0, 1, 2, 3] (tx_full hg q f t n a (by omega)) (by decide) (by decide) (by decide) rfl (by repeat' (first | exact trivial | refine And.intro ?_ ?_ | rfl)) (by first | rfl | (simp (discharger := omega) only [renVs, renV, rnI, cI, cN, ← nI_0, nI_ltI, nI_leI, nI_eq, nI_add, pk_mul, pk_sub, nI_clamp, vinI, not_true_eq_false, not_false_eq_true, iK0, iK1, iK2, iK3, iK4, iK5, iKm1, bK6, bK7, bK8, bK9, bK10, bK12, bK14, bK15, bK16, bK20, bK21, bK26, bK30, bK32, bK33, bK45, bK48, bK57, bK59, bK60, bK62, bK63, bK64, bK80, bK93, bK98, bK99, bK100, bK104, bK107, bK109, bK110, bK112, bK113, bK114, bK115, bK116, bK119, sK255, sK256, sK500, sK700, sK798, sK912, sK1400, sK2000])) ?_
  (rintro _ _ ⟨⟨rfl, z⟩ | ⟨rfl, z⟩, rfl⟩) <;> (repeat' (first | refine And.intro ?_ ?_ | (with_reducible intro h9; exact absurd h9 (by simp only [cI, cN]; decide +kernel)) | with_reducible intro _ | exact (rfl : narrow _ _ = _) | decide | (unfold vp_in; decide)))
  · omega
  · rw [vinI (by omega)]; omega
  · rw [nI_clamp (by omega), hx, iK1, nI_add]
    rfl
set_option maxRecDepth 20000 in
theorem tx_empty (hg : gOK G) (q : Nat) (f t : Nat → Int32) (n a : Nat) : Spec G 1 0 0 m_X7_empty [.ref 0] (xt q f t n a) (fun v w' => v = none ∧ w' = xt q f t 0 a) NX := by
  refine wp_spec (M := M_X7_empty) hg ok_X7_empty cut0 60 rfl rfl ?_
  repeat' (first | refine And.intro ?_ ?_ | (with_reducible intro h9; exact absurd h9 (by simp only [cI, cN]; decide +kernel)) | with_reducible intro _ | exact (rfl : narrow _ _ = _) | decide | (unfold vp_in; decide))
  all_goals rfl
set_option maxRecDepth 20000 in
theorem tx_next (hg : gOK G) (q : Nat) (f t : Nat → Int32) (n a : Nat) (hn : n ≤ 60) (ha : a ≤ n) : Spec G 1 0 0 m_X7_next [.ref 0] (xt q f t n a) (fun v w' => v = some (.int (hre t n a)) ∧ w' = xt q f t n a) NX := by
  have ht : a < n → hre t n a = t a := fun h => if_pos h
  have hf : ¬ a < n → hre t n a = -1 := fun h => if_neg h
  refine wp_spec (M := M_X7_next) hg ok_X7_next cut0 60 rfl rfl ?_
  repeat' (first | refine And.intro ?_ ?_ | (with_reducible intro h9; exact absurd h9 (by simp only [cI, cN]; decide +kernel)) | with_reducible intro _ | exact (rfl : narrow _ _ = _) | decide | (unfold vp_in; decide))
  · rename_i g
    exact absurd g (nI_pos (by omega))
  · rfl
  · rename_i g
    simp (discharger := omega) only [upd_ne, upd_eq, Classical.not_not, cI, cN, ← nI_0, nI_ltI, nI_leI, nI_eq, nI_add, pk_mul, pk_sub, nI_clamp, vinI, not_true_eq_false, not_false_eq_true, iK0, iK1, iK2, iK3, iK4, iK5, iKm1, bK6, bK7, bK8, bK9, bK10, bK12, bK14, bK15, bK16, bK20, bK21, bK26, bK30, bK32, bK33, bK45, bK48, bK57, bK59, bK60, bK62, bK63, bK64, bK80, bK93, bK98, bK99, bK100, bK104, bK107, bK109, bK110, bK112, bK113, bK114, bK115, bK116, bK119, sK255, sK256, sK500, sK700, sK798, sK912, sK1400, sK2000] at g
    rw [hf (by omega)]
    rfl
  · rfl
  · rename_i g g2
    simp (discharger := omega) only [upd_ne, upd_eq, Classical.not_not, cI, cN, ← nI_0, nI_ltI, nI_leI, nI_eq, nI_add, pk_mul, pk_sub, nI_clamp, vinI, not_true_eq_false, not_false_eq_true, iK0, iK1, iK2, iK3, iK4, iK5, iKm1, bK6, bK7, bK8, bK9, bK10, bK12, bK14, bK15, bK16, bK20, bK21, bK26, bK30, bK32, bK33, bK45, bK48, bK57, bK59, bK60, bK62, bK63, bK64, bK80, bK93, bK98, bK99, bK100, bK104, bK107, bK109, bK110, bK112, bK113, bK114, bK115, bK116, bK119, sK255, sK256, sK500, sK700, sK798, sK912, sK1400, sK2000] at g
    simp (discharger := omega) only [upd_ne, upd_eq, Classical.not_not, cI, cN, ← nI_0, nI_ltI, nI_leI, nI_eq, nI_add, pk_mul, pk_sub, nI_clamp, vinI, not_true_eq_false, not_false_eq_true, iK0, iK1, iK2, iK3, iK4, iK5, iKm1, bK6, bK7, bK8, bK9, bK10, bK12, bK14, bK15, bK16, bK20, bK21, bK26, bK30, bK32, bK33, bK45, bK48, bK57, bK59, bK60, bK62, bK63, bK64, bK80, bK93, bK98, bK99, bK100, bK104, bK107, bK109, bK110, bK112, bK113, bK114, bK115, bK116, bK119, sK255, sK256, sK500, sK700, sK798, sK912, sK1400, sK2000] at g2
    omega
  · rfl
  · rename_i g g2
    simp (discharger := omega) only [upd_ne, upd_eq, Classical.not_not, cI, cN, ← nI_0, nI_ltI, nI_leI, nI_eq, nI_add, pk_mul, pk_sub, nI_clamp, vinI, not_true_eq_false, not_false_eq_true, iK0, iK1, iK2, iK3, iK4, iK5, iKm1, bK6, bK7, bK8, bK9, bK10, bK12, bK14, bK15, bK16, bK20, bK21, bK26, bK30, bK32, bK33, bK45, bK48, bK57, bK59, bK60, bK62, bK63, bK64, bK80, bK93, bK98, bK99, bK100, bK104, bK107, bK109, bK110, bK112, bK113, bK114, bK115, bK116, bK119, sK255, sK256, sK500, sK700, sK798, sK912, sK1400, sK2000] at g
    rw [vinI (by omega)]; omega
  · rename_i g g2
    simp (discharger := omega) only [upd_ne, upd_eq, Classical.not_not, cI, cN, ← nI_0, nI_ltI, nI_leI, nI_eq, nI_add, pk_mul, pk_sub, nI_clamp, vinI, not_true_eq_false, not_false_eq_true, iK0, iK1, iK2, iK3, iK4, iK5, iKm1, bK6, bK7, bK8, bK9, bK10, bK12, bK14, bK15, bK16, bK20, bK21, bK26, bK30, bK32, bK33, bK45, bK48, bK57, bK59, bK60, bK62, bK63, bK64, bK80, bK93, bK98, bK99, bK100, bK104, bK107, bK109, bK110, bK112, bK113, bK114, bK115, bK116, bK119, sK255, sK256, sK500, sK700, sK798, sK912, sK1400, sK2000] at g
    rw [ht (by omega), nI_clamp (by omega)]
  · rfl
set_option maxRecDepth 20000 in
theorem tx_skip (hg : gOK G) (q : Nat) (f t : Nat → Int32) (n a : Nat) (hn : n ≤ 60) (ha : a ≤ n) (x : Int32) (hx : ¬ x = -1) : Spec G 2 0 0 m_X7_skip [.ref 0, .int x] (xt q f t n a) (fun v w' =>
    (hre t n a = x ∧ a < n ∧ v = some (.int (nI 1)) ∧ w' = xt q f t n (a + 1)) ∨ (¬ hre t n a = x ∧ v = some (.int (nI 0)) ∧ w' = xt q f t n a)) NX := by
  refine wp_spec (M := M_X7_skip) hg ok_X7_skip cut0 60 rfl rfl ?_
  repeat' (first | refine And.intro ?_ ?_ | (with_reducible intro h9; exact absurd h9 (by simp only [cI, cN]; decide +kernel)) | with_reducible intro _ | exact (rfl : narrow _ _ = _) | decide | (unfold vp_in; decide))
  refine cc0 [0, 1, 2, 3] (tx_next hg q f t n a hn ha) (by decide) (by decide) (by decide) rfl (by repeat' (first | exact trivial | refine And.intro ?_ ?_ | rfl)) (by first | rfl | (simp (discharger := omega) only [renVs, renV, rnI, cI, cN, ← nI_0, nI_ltI, nI_leI, nI_eq, nI_add, pk_mul, pk_sub, nI_clamp, vinI, not_true_eq_false, not_false_eq_true, iK0, iK1, iK2, iK3, iK4, iK5, iKm1, bK6, bK7, bK8, bK9, bK10, bK12, bK14, bK15, bK16, bK20, bK21, bK26, bK30, bK32, bK33, bK45, bK48, bK57, bK59, bK60, bK62, bK63, bK64, bK80, bK93, bK98, bK99, bK100, bK104, bK107, bK109, bK110, bK112, bK113, bK114, bK115, bK116, bK119, sK255, sK256, sK500, sK700, sK798, sK912, sK1400, sK2000])) ?_
  (rintro _ _ ⟨rfl, rfl⟩) <;> (repeat' (first | refine And.intro ?_ ?_ | (with_reducible intro h9; exact absurd h9 (by simp only [cI, cN]; decide +kernel)) | with_reducible intro _ | exact (rfl : narrow _ _ = _) | decide | (unfold vp_in; decide)))
  · rename_i g
    simp only [cI] at g
    refine Or.inl ⟨g, ?_, rfl, ?_⟩
    · rcases Nat.lt_or_ge a n with z | z
      · exact z
      · exact absurd (g.symm.trans (if_neg (by omega))) hx
    · rw [iK1, nI_add]
      rfl
  · rename_i g
    simp only [cN] at g
    exact Or.inr ⟨g, rfl, rfl⟩
set_option maxRecDepth 20000 in
theorem tx_num_l (hg : gOK G) (q : Nat) (f t : Nat → Int32) (n m : Nat) (hn : n ≤ 60) (hm : m ≤ 3) {K : Option Value → xW → Prop} {KX : Nat → xW → Prop} (V B : Nat) (hK : K (some (.int (nI V))) (xt q f t n B)) : ∀ (c k : Nat) (hk : k ≤ m) (hk0 : 0 < k) (b acc : Nat) (hb : b ≤ n) (hacc : acc < 10 ^ k) (e1 : fgv t n (m - k) b acc = V) (e2 : b + fgc t n (m - k) b = B) (hc9 : m - k = c),
    AW G M_X7_readNumber 2 0 0 4 [some (.ref 0), some (.int (nI m)), some (.int (nI acc)), some (.int (nI k)), none] [] (xt q f t n b) K KX := by
  intro c
  induction c using Nat.strongRecOn with | ind c ih => ?_
  intro k hk hk0 b acc hb hacc e1 e2 hc9
  have h10 : 10 ^ k ≤ 1000 := Nat.le_trans (Nat.pow_le_pow_right (by omega) (show k ≤ 3 by omega)) (by decide)
  refine wp_ok (M := M_X7_readNumber) hg ok_X7_readNumber (lkp [(4, [true, true, true, true, false])]) 60 _ _ _ _ _ _ ?_
  repeat' (first | refine And.intro ?_ ?_ | (with_reducible intro h9; exact absurd h9 (by simp only [cI, cN]; decide +kernel)) | with_reducible intro _ | exact (rfl : narrow _ _ = _) | decide | (unfold vp_in; decide))
  · rename_i g
    simp (discharger := omega) only [upd_ne, upd_eq, Classical.not_not, cI, cN, ← nI_0, nI_ltI, nI_leI, nI_eq, nI_add, pk_mul, pk_sub, nI_clamp, vinI, not_true_eq_false, not_false_eq_true, iK0, iK1, iK2, iK3, iK4, iK5, iKm1, bK6, bK7, bK8, bK9, bK10, bK12, bK14, bK15, bK16, bK20, bK21, bK26, bK30, bK32, bK33, bK45, bK48, bK57, bK59, bK60, bK62, bK63, bK64, bK80, bK93, bK98, bK99, bK100, bK104, bK107, bK109, bK110, bK112, bK113, bK114, bK115, bK116, bK119, sK255, sK256, sK500, sK700, sK798, sK912, sK1400, sK2000] at g
    have : k = m := by omega
    subst this
    rw [Nat.sub_self] at e1 e2
    have e1' : acc = V := e1
    have e2' : b + 0 = B := e2
    subst e1' e2'
    exact hK
  · rename_i g
    simp (discharger := omega) only [upd_ne, upd_eq, Classical.not_not, cI, cN, ← nI_0, nI_ltI, nI_leI, nI_eq, nI_add, pk_mul, pk_sub, nI_clamp, vinI, not_true_eq_false, not_false_eq_true, iK0, iK1, iK2, iK3, iK4, iK5, iKm1, bK6, bK7, bK8, bK9, bK10, bK12, bK14, bK15, bK16, bK20, bK21, bK26, bK30, bK32, bK33, bK45, bK48, bK57, bK59, bK60, bK62, bK63, bK64, bK80, bK93, bK98, bK99, bK100, bK104, bK107, bK109, bK110, bK112, bK113, bK114, bK115, bK116, bK119, sK255, sK256, sK500, sK700, sK798, sK912, sK1400, sK2000] at g
    obtain ⟨j, hj⟩ : ∃ j, m - k = j + 1 := ⟨m - k - 1, by omega⟩
    have out : ¬ (nI 48 ≤ hre t n b ∧ hre t n b ≤ nI 57) → K (some (.int (nI acc))) (xt q f t n b) := fun q' => by
      have f1 : fgv t n (m - k) b acc = acc := by
        rw [hj]
        exact if_neg q'
      have f2 : fgc t n (m - k) b = 0 := by
        rw [hj]
        exact if_neg q'
      rw [f1] at e1
      rw [f2] at e2
      have e2' : b = B := e2
      subst e1 e2'
      exact hK
    refine cc0 [0, 1, 2, 3] (tx_next hg q f t n b hn hb) (by decide) (by decide) (by decide) rfl (by repeat' (first | exact trivial | refine And.intro ?_ ?_ | rfl)) (by first | rfl | (simp (discharger := omega) only [renVs, renV, rnI, cI, cN, ← nI_0, nI_ltI, nI_leI, nI_eq, nI_add, pk_mul, pk_sub, nI_clamp, vinI, not_true_eq_false, not_false_eq_true, iK0, iK1, iK2, iK3, iK4, iK5, iKm1, bK6, bK7, bK8, bK9, bK10, bK12, bK14, bK15, bK16, bK20, bK21, bK26, bK30, bK32, bK33, bK45, bK48, bK57, bK59, bK60, bK62, bK63, bK64, bK80, bK93, bK98, bK99, bK100, bK104, bK107, bK109, bK110, bK112, bK113, bK114, bK115, bK116, bK119, sK255, sK256, sK500, sK700, sK798, sK912, sK1400, sK2000])) ?_
    (rintro _ _ ⟨rfl, rfl⟩) <;> (repeat' (first | refine And.intro ?_ ?_ | (with_reducible intro h9; exact absurd h9 (by simp only [cI, cN]; decide +kernel)) | with_reducible intro _ | exact (rfl : narrow _ _ = _) | decide | (unfold vp_in; decide)))
    · rename_i g2
      replace g2 : hre t n b < nI 48 := g2
      exact out (fun z => absurd z.1 (Int32.not_le.mpr g2))
    · rename_i g2 g3 g4
      replace g2 : ¬ hre t n b < nI 48 := g2
      replace g3 : hre t n b ≤ nI 57 := g3
      have hd : isD (hre t n b) := ⟨Int32.not_lt.mp g2, g3⟩
      obtain ⟨d1, d2⟩ := isD_nI hd
      have hbn : b < n := by
        rcases Nat.lt_or_ge b n with z | z
        · exact z
        · have e : hre t n b = -1 := if_neg (by omega)
          have := hd.1
          rw [e] at this
          exact absurd this (by decide)
      have f1 : fgv t n (m - k) b acc = fgv t n j (b + 1) (acc * 10 + dgv (hre t n b)) := by
        rw [hj]
        exact if_pos hd
      have f2 : fgc t n (m - k) b = fgc t n j (b + 1) + 1 := by
        rw [hj]
        exact if_pos hd
      have hj2 : m - (k + 1) = j := by omega
      have h10k : 10 ^ (k + 1) = 10 ^ k * 10 := Nat.pow_succ 10 k
      refine AW.cg (ih _ (by omega) (k + 1) (by omega) (by omega) (b + 1) (acc * 10 + dgv (hre t n b)) (by omega) (by omega) (by rw [hj2, ← f1]; exact e1) (by rw [hj2]; rw [f2] at e2; omega) rfl) rfl rfl rfl ?_ rfl (by unfold xt; rw [← nI_add b 1]; rfl)
      have ev : nI acc * (Int8.ofInt 10).toInt32 + hre t n b - (Int8.ofInt 48).toInt32 = nI (acc * 10 + dgv (hre t n b)) := by
        generalize dgv (hre t n b) = d at *
        rw [d1, bK10, bK48, pk_mul, nI_add, pk_sub (by omega)]
        congr 1
        omega
      rw [← ev, ← nI_add k 1]
      rfl
    · rename_i g2 g3 g4
      replace g4 : nI acc = -1 := g4
      exact absurd (show nI acc < 0 by rw [g4]; decide) (nI_pos (by omega))
    · rename_i g2 g3
      replace g3 : ¬ hre t n b ≤ nI 57 := g3
      exact out (fun z => g3 z.2)
set_option maxRecDepth 20000 in
theorem tx_num (hg : gOK G) (q : Nat) (f t : Nat → Int32) (n a m : Nat) (hn : n ≤ 60) (ha : a ≤ n) (hm : m ≤ 3) (hm0 : 0 < m) : Spec G 2 0 0 m_X7_readNumber [.ref 0, .int (nI m)] (xt q f t n a) (fun v w' =>
    (numR t n a m = none ∧ v = some (.int (-1)) ∧ w' = xt q f t n a) ∨
    (∃ V b, numR t n a m = some (V, b) ∧ b ≤ n ∧ V < 1000 ∧ v = some (.int (nI V)) ∧ w' = xt q f t n b)) NX := by
  have no : ¬ (nI 48 ≤ hre t n a ∧ hre t n a ≤ nI 57) → numR t n a m = none := fun h => if_neg h
  obtain ⟨j, rfl⟩ : ∃ j, m = j + 1 := ⟨m - 1, by omega⟩
  refine wp_spec (M := M_X7_readNumber) hg ok_X7_readNumber (lkp [(4, [true, true, true, true, false])]) 60 rfl rfl ?_
  repeat' (first | refine And.intro ?_ ?_ | (with_reducible intro h9; exact absurd h9 (by simp only [cI, cN]; decide +kernel)) | with_reducible intro _ | exact (rfl : narrow _ _ = _) | decide | (unfold vp_in; decide))
  refine AW.cg (bc := 0) (bs := 0) (pc := 4) (ls := [some (.ref 0), some (.int (nI (j + 1))), some (.int (-1)), some (.int (nI 0)), none]) (st := []) (w := xt q f t n a) ?_ rfl rfl rfl (by first | rfl | (simp (discharger := omega) only [msk, clr_i, clr_r, cI, cN, ← nI_0, nI_ltI, nI_leI, nI_eq, nI_add, pk_mul, pk_sub, nI_clamp, vinI, not_true_eq_false, not_false_eq_true, iK0, iK1, iK2, iK3, iK4, iK5, iKm1, bK6, bK7, bK8, bK9, bK10, bK12, bK14, bK15, bK16, bK20, bK21, bK26, bK30, bK32, bK33, bK45, bK48, bK57, bK59, bK60, bK62, bK63, bK64, bK80, bK93, bK98, bK99, bK100, bK104, bK107, bK109, bK110, bK112, bK113, bK114, bK115, bK116, bK119, sK255, sK256, sK500, sK700, sK798, sK912, sK1400, sK2000]; done) | (simp (discharger := omega) only [msk, clr_i, clr_r, cI, cN, ← nI_0, nI_ltI, nI_leI, nI_eq, nI_add, pk_mul, pk_sub, nI_clamp, vinI, not_true_eq_false, not_false_eq_true, iK0, iK1, iK2, iK3, iK4, iK5, iKm1, bK6, bK7, bK8, bK9, bK10, bK12, bK14, bK15, bK16, bK20, bK21, bK26, bK30, bK32, bK33, bK45, bK48, bK57, bK59, bK60, bK62, bK63, bK64, bK80, bK93, bK98, bK99, bK100, bK104, bK107, bK109, bK110, bK112, bK113, bK114, bK115, bK116, bK119, sK255, sK256, sK500, sK700, sK798, sK912, sK1400, sK2000]; rfl)) rfl rfl
  refine wp_ok (M := M_X7_readNumber) hg ok_X7_readNumber (lkp [(4, [true, true, true, true, false])]) 60 _ _ _ _ _ _ ?_
  repeat' (first | refine And.intro ?_ ?_ | (with_reducible intro h9; exact absurd h9 (by simp only [cI, cN]; decide +kernel)) | with_reducible intro _ | exact (rfl : narrow _ _ = _) | decide | (unfold vp_in; decide))
  · rename_i g
    simp (discharger := omega) only [upd_ne, upd_eq, Classical.not_not, cI, cN, ← nI_0, nI_ltI, nI_leI, nI_eq, nI_add, pk_mul, pk_sub, nI_clamp, vinI, not_true_eq_false, not_false_eq_true, iK0, iK1, iK2, iK3, iK4, iK5, iKm1, bK6, bK7, bK8, bK9, bK10, bK12, bK14, bK15, bK16, bK20, bK21, bK26, bK30, bK32, bK33, bK45, bK48, bK57, bK59, bK60, bK62, bK63, bK64, bK80, bK93, bK98, bK99, bK100, bK104, bK107, bK109, bK110, bK112, bK113, bK114, bK115, bK116, bK119, sK255, sK256, sK500, sK700, sK798, sK912, sK1400, sK2000] at g
    omega
  · refine cc0 [0, 1, 2, 3] (tx_next hg q f t n a hn ha) (by decide) (by decide) (by decide) rfl (by repeat' (first | exact trivial | refine And.intro ?_ ?_ | rfl)) (by first | rfl | (simp (discharger := omega) only [renVs, renV, rnI, cI, cN, ← nI_0, nI_ltI, nI_leI, nI_eq, nI_add, pk_mul, pk_sub, nI_clamp, vinI, not_true_eq_false, not_false_eq_true, iK0, iK1, iK2, iK3, iK4, iK5, iKm1, bK6, bK7, bK8, bK9, bK10, bK12, bK14, bK15, bK16, bK20, bK21, bK26, bK30, bK32, bK33, bK45, bK48, bK57, bK59, bK60, bK62, bK63, bK64, bK80, bK93, bK98, bK99, bK100, bK104, bK107, bK109, bK110, bK112, bK113, bK114, bK115, bK116, bK119, sK255, sK256, sK500, sK700, sK798, sK912, sK1400, sK2000])) ?_
    (rintro _ _ ⟨rfl, rfl⟩) <;> (repeat' (first | refine And.intro ?_ ?_ | (with_reducible intro h9; exact absurd h9 (by simp only [cI, cN]; decide +kernel)) | with_reducible intro _ | exact (rfl : narrow _ _ = _) | decide | (unfold vp_in; decide)))
    · rename_i g2
      replace g2 : hre t n a < nI 48 := g2
      exact Or.inl ⟨no (fun z => absurd z.1 (Int32.not_le.mpr g2)), rfl, rfl⟩
    · rename_i g2 g3 g4
      replace g2 : ¬ hre t n a < nI 48 := g2
      replace g3 : hre t n a ≤ nI 57 := g3
      have hd : isD (hre t n a) := ⟨Int32.not_lt.mp g2, g3⟩
      obtain ⟨d1, d2⟩ := isD_nI hd
      have han : a < n := by
        rcases Nat.lt_or_ge a n with z | z
        · exact z
        · have e : hre t n a = -1 := if_neg (by omega)
          have := hd.1
          rw [e] at this
          exact absurd this (by decide)
      have hV := fgv_lt (t := t) (n := n) (m := j + 1) (a := a) (acc := 0)
      have hp : 10 ^ (j + 1) ≤ 1000 := Nat.le_trans (Nat.pow_le_pow_right (by omega) (show j + 1 ≤ 3 by omega)) (by decide)
      have hB := fgc_n (t := t) (n := n) (m := j + 1) (a := a) ha
      have yes : numR t n a (j + 1) = some (fgv t n (j + 1) a 0, a + fgc t n (j + 1) a) := if_pos hd
      have f1 : fgv t n (j + 1) a 0 = fgv t n j (a + 1) (0 * 10 + dgv (hre t n a)) := if_pos hd
      have f2 : fgc t n (j + 1) a = fgc t n j (a + 1) + 1 := if_pos hd
      refine AW.cg (tx_num_l hg q f t n (j + 1) hn hm (fgv t n (j + 1) a 0) (a + fgc t n (j + 1) a) (Or.inr ⟨_, _, yes, hB, by omega, rfl, rfl⟩) _ 1 (by omega) (by omega) (a + 1) (dgv (hre t n a)) han (by omega) (by rw [f1, Nat.zero_mul, Nat.zero_add]; rfl) (by rw [f2, show j + 1 - 1 = j by omega]; omega) rfl) rfl rfl rfl ?_ rfl (by unfold xt; rw [← nI_add a 1]; rfl)
      have ev : Int32.ofInt 0 + hre t n a - (Int8.ofInt 48).toInt32 = nI (dgv (hre t n a)) := by
        generalize dgv (hre t n a) = d at *
        rw [d1, bK48, iK0, nI_add, pk_sub (by omega)]
        congr 1
        omega
      rw [← ev]
      rfl
    · rename_i g2 g3
      replace g3 : ¬ hre t n a ≤ nI 57 := g3
      exact Or.inl ⟨no (fun z => g3 z.2), rfl, rfl⟩
end XX
