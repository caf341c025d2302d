/-! ===== Text: orders ===== -/
def kps3 (f : Nat → Int32) (q : Nat) (x : Int32) (v w : Nat) : Nat → Int32 := upd (upd (upd (zer f (q * 3) ((q + 1) * 3)) (q * 3 + 0) x) (q * 3 + 1) (nI v)) (q * 3 + 2) (nI w)
section XX
variable {G : gT}
set_option maxRecDepth 20000 in
theorem tx_keep (hg : gOK G) (q : Nat) (f t : Nat → Int32) (n a : Nat) (hq : q < 21) (x : Int32) (v w : Nat) (hv : v < 1000) (hw : w < 1000) : Spec G 2 0 0 m_X7_keep [.ref 0, .int x, .int (nI v), .int (nI w)] (xt q f t n a) (fun vv w' => vv = some (.int (nI 1)) ∧ w' = xt (q + 1) (kps3 f q x v w) t n a) NX := by
  have z1 : ∀ k, k < 1000 → ¬ nI k = -1 := fun k hk e => nI_pos (show k < 2 ^ 31 by omega) (by rw [e]; decide)
  refine wp_spec (M := M_X7_keep) hg ok_X7_keep cut0 60 rfl rfl ?_
  repeat' (first | refine And.intro ?_ ?_ | (with_reducible intro h9; exact absurd h9 (by simp only [cI, cN]; decide +kernel)) | with_reducible intro _ | exact (rfl : narrow _ _ = _) | decide | (unfold vp_in; decide))
  · rename_i g
    exact absurd g (z1 v hv)
  · rename_i g
    exact absurd g (z1 v hv)
  · refine cc0 [1, 2] (tb_add hg 21 3 q f hq (by omega) (by omega) (by omega)) (by decide) (by decide) (by decide) rfl (by repeat' (first | exact trivial | refine And.intro ?_ ?_ | rfl)) (by first | rfl | (simp (discharger := omega) only [renVs, renV, rnI, cI, cN, ← nI_0, nI_ltI, nI_leI, nI_eq, nI_add, pk_mul, pk_sub, nI_clamp, vinI, not_true_eq_false, not_false_eq_true, iK0, iK1, iK2, iK3, iK4, iK5, iKm1, bK6, bK7, bK8, bK9, bK10, bK12, bK14, bK15, bK16, bK20, bK21, bK26, bK30, bK32, bK33, bK45, bK48, bK57, bK59, bK60, bK62, bK63, bK64, bK80, bK93, bK98, bK99, bK100, bK104, bK107, bK109, bK110, bK112, bK113, bK114, bK115, bK116, bK119, sK255, sK256, sK500, sK700, sK798, sK912, sK1400, sK2000])) ?_
    (rintro _ _ ⟨rfl, rfl⟩) <;> (repeat' (first | refine And.intro ?_ ?_ | (with_reducible intro h9; exact absurd h9 (by simp only [cI, cN]; decide +kernel)) | with_reducible intro _ | exact (rfl : narrow _ _ = _) | decide | (unfold vp_in; decide)))
    refine cc0 [1, 2] (tb_put hg 21 3 (q + 1) q 0 _ x (by omega) (by omega) (by omega) (by omega) (by omega) (by omega)) (by decide) (by decide) (by decide) rfl (by repeat' (first | exact trivial | refine And.intro ?_ ?_ | rfl)) (by first | rfl | (simp (discharger := omega) only [renVs, renV, rnI, cI, cN, ← nI_0, nI_ltI, nI_leI, nI_eq, nI_add, pk_mul, pk_sub, nI_clamp, vinI, not_true_eq_false, not_false_eq_true, iK0, iK1, iK2, iK3, iK4, iK5, iKm1, bK6, bK7, bK8, bK9, bK10, bK12, bK14, bK15, bK16, bK20, bK21, bK26, bK30, bK32, bK33, bK45, bK48, bK57, bK59, bK60, bK62, bK63, bK64, bK80, bK93, bK98, bK99, bK100, bK104, bK107, bK109, bK110, bK112, bK113, bK114, bK115, bK116, bK119, sK255, sK256, sK500, sK700, sK798, sK912, sK1400, sK2000])) ?_
    (rintro _ _ ⟨rfl, rfl⟩) <;> (repeat' (first | refine And.intro ?_ ?_ | (with_reducible intro h9; exact absurd h9 (by simp only [cI, cN]; decide +kernel)) | with_reducible intro _ | exact (rfl : narrow _ _ = _) | decide | (unfold vp_in; decide)))
    refine cc0 [1, 2] (tb_put hg 21 3 (q + 1) q 1 _ (nI v) (by omega) (by omega) (by omega) (by omega) (by omega) (by omega)) (by decide) (by decide) (by decide) rfl (by repeat' (first | exact trivial | refine And.intro ?_ ?_ | rfl)) (by first | rfl | (simp (discharger := omega) only [renVs, renV, rnI, cI, cN, ← nI_0, nI_ltI, nI_leI, nI_eq, nI_add, pk_mul, pk_sub, nI_clamp, vinI, not_true_eq_false, not_false_eq_true, iK0, iK1, iK2, iK3, iK4, iK5, iKm1, bK6, bK7, bK8, bK9, bK10, bK12, bK14, bK15, bK16, bK20, bK21, bK26, bK30, bK32, bK33, bK45, bK48, bK57, bK59, bK60, bK62, bK63, bK64, bK80, bK93, bK98, bK99, bK100, bK104, bK107, bK109, bK110, bK112, bK113, bK114, bK115, bK116, bK119, sK255, sK256, sK500, sK700, sK798, sK912, sK1400, sK2000])) ?_
    (rintro _ _ ⟨rfl, rfl⟩) <;> (repeat' (first | refine And.intro ?_ ?_ | (with_reducible intro h9; exact absurd h9 (by simp only [cI, cN]; decide +kernel)) | with_reducible intro _ | exact (rfl : narrow _ _ = _) | decide | (unfold vp_in; decide)))
    refine cc0 [1, 2] (tb_put hg 21 3 (q + 1) q 2 _ (nI w) (by omega) (by omega) (by omega) (by omega) (by omega) (by omega)) (by decide) (by decide) (by decide) rfl (by repeat' (first | exact trivial | refine And.intro ?_ ?_ | rfl)) (by first | rfl | (simp (discharger := omega) only [renVs, renV, rnI, cI, cN, ← nI_0, nI_ltI, nI_leI, nI_eq, nI_add, pk_mul, pk_sub, nI_clamp, vinI, not_true_eq_false, not_false_eq_true, iK0, iK1, iK2, iK3, iK4, iK5, iKm1, bK6, bK7, bK8, bK9, bK10, bK12, bK14, bK15, bK16, bK20, bK21, bK26, bK30, bK32, bK33, bK45, bK48, bK57, bK59, bK60, bK62, bK63, bK64, bK80, bK93, bK98, bK99, bK100, bK104, bK107, bK109, bK110, bK112, bK113, bK114, bK115, bK116, bK119, sK255, sK256, sK500, sK700, sK798, sK912, sK1400, sK2000])) ?_
    (rintro _ _ ⟨rfl, rfl⟩) <;> (repeat' (first | refine And.intro ?_ ?_ | (with_reducible intro h9; exact absurd h9 (by simp only [cI, cN]; decide +kernel)) | with_reducible intro _ | exact (rfl : narrow _ _ = _) | decide | (unfold vp_in; decide)))
    all_goals rfl
  · rename_i g g2
    exact absurd g2 (z1 w hw)
  · rename_i g g2
    exact absurd g2 (z1 w hw)
set_option maxRecDepth 20000 in
theorem tx_keepN (hg : gOK G) (q : Nat) (f t : Nat → Int32) (n a : Nat) (x y z : Int32) (h : y = -1 ∨ z = -1) : Spec G 2 0 0 m_X7_keep [.ref 0, .int x, .int y, .int z] (xt q f t n a) (fun vv w' => vv = some (.int (nI 0)) ∧ w' = xt q f t n a) NX := by
  refine wp_spec (M := M_X7_keep) hg ok_X7_keep cut0 60 rfl rfl ?_
  repeat' (first | refine And.intro ?_ ?_ | (with_reducible intro h9; exact absurd h9 (by simp only [cI, cN]; decide +kernel)) | with_reducible intro _ | exact (rfl : narrow _ _ = _) | decide | (unfold vp_in; decide))
  · rfl
  · rename_i g g2
    rcases h with h | h
    · exact absurd h g
    · exact absurd h g2
  · rfl
/-- what an order leaves -/
def xoA (q : Nat) (f t : Nat → Int32) (n : Nat) (R : oT) (vv : Option Value) (w' : xW) : Prop :=
  (∃ x v w e, R = (some (x, v, w), e) ∧ e ≤ n ∧ vv = some (.int (nI 1)) ∧ w' = xt (q + 1) (kps3 f q x v w) t n e) ∨
  (∃ e, R = (none, e) ∧ vv = some (.int (nI 0)) ∧ w' = xt q f t n e)
set_option maxRecDepth 20000 in
theorem tx_pair (hg : gOK G) (q : Nat) (f t : Nat → Int32) (n a m s : Nat) (hn : n ≤ 60) (ha : a + 1 ≤ n) (hq : q < 21) (hm : m ≤ 3) (hm0 : 0 < m) (hs : s < 128) (x : Int32) : Spec G 3 0 0 m_X7_readPair [.ref 0, .int x, .int (nI m), .int (nI s)] (xt q f t n (a + 1)) (fun vv w' => xoA q f t n (ord2 t n a m x (nI s)) vv w') NX := by
  have z1 : ∀ k, k < 1000 → ¬ nI k = -1 := fun k hk e => nI_pos (show k < 2 ^ 31 by omega) (by rw [e]; decide)
  refine wp_spec (M := M_X7_readPair) hg ok_X7_readPair cut0 60 rfl rfl ?_
  repeat' (first | refine And.intro ?_ ?_ | (with_reducible intro h9; exact absurd h9 (by simp only [cI, cN]; decide +kernel)) | with_reducible intro _ | exact (rfl : narrow _ _ = _) | decide | (unfold vp_in; decide))
  refine cc0 [0, 1, 2, 3] (tx_num hg q f t n (a + 1) m hn ha hm hm0) (by decide) (by decide) (by decide) rfl (by repeat' (first | exact trivial | refine And.intro ?_ ?_ | rfl)) (by first | rfl | (simp (discharger := omega) only [renVs, renV, rnI, cI, cN, ← nI_0, nI_ltI, nI_leI, nI_eq, nI_add, pk_mul, pk_sub, nI_clamp, vinI, not_true_eq_false, not_false_eq_true, iK0, iK1, iK2, iK3, iK4, iK5, iKm1, bK6, bK7, bK8, bK9, bK10, bK12, bK14, bK15, bK16, bK20, bK21, bK26, bK30, bK32, bK33, bK45, bK48, bK57, bK59, bK60, bK62, bK63, bK64, bK80, bK93, bK98, bK99, bK100, bK104, bK107, bK109, bK110, bK112, bK113, bK114, bK115, bK116, bK119, sK255, sK256, sK500, sK700, sK798, sK912, sK1400, sK2000])) ?_
  (rintro _ _ (⟨h1, rfl, rfl⟩ | ⟨V, b, h1, hb, hV, rfl, rfl⟩)) <;> (repeat' (first | refine And.intro ?_ ?_ | (with_reducible intro h9; exact absurd h9 (by simp only [cI, cN]; decide +kernel)) | with_reducible intro _ | exact (rfl : narrow _ _ = _) | decide | (unfold vp_in; decide)))
  · refine Or.inr ⟨a + 1, ?_, rfl, rfl⟩
    unfold ord2
    rw [h1]
  · rename_i g
    exact absurd g (z1 V hV)
  · refine cc0 [0, 1, 2, 3] (tx_skip hg q f t n b hn hb (nI s) (z1 s (by omega))) (by decide) (by decide) (by decide) rfl (by repeat' (first | exact trivial | refine And.intro ?_ ?_ | rfl)) (by first | rfl | (simp (discharger := omega) only [renVs, renV, rnI, cI, cN, ← nI_0, nI_ltI, nI_leI, nI_eq, nI_add, pk_mul, pk_sub, nI_clamp, vinI, not_true_eq_false, not_false_eq_true, iK0, iK1, iK2, iK3, iK4, iK5, iKm1, bK6, bK7, bK8, bK9, bK10, bK12, bK14, bK15, bK16, bK20, bK21, bK26, bK30, bK32, bK33, bK45, bK48, bK57, bK59, bK60, bK62, bK63, bK64, bK80, bK93, bK98, bK99, bK100, bK104, bK107, bK109, bK110, bK112, bK113, bK114, bK115, bK116, bK119, sK255, sK256, sK500, sK700, sK798, sK912, sK1400, sK2000])) ?_
    (rintro _ _ (⟨gs, hlt, rfl, rfl⟩ | ⟨gs, rfl, rfl⟩)) <;> (repeat' (first | refine And.intro ?_ ?_ | (with_reducible intro h9; exact absurd h9 (by simp only [cI, cN]; decide +kernel)) | with_reducible intro _ | exact (rfl : narrow _ _ = _) | decide | (unfold vp_in; decide)))
    · refine cc0 [0, 1, 2, 3] (tx_num hg q f t n (b + 1) 1 hn hlt (by omega) (by omega)) (by decide) (by decide) (by decide) rfl (by repeat' (first | exact trivial | refine And.intro ?_ ?_ | rfl)) (by first | rfl | (simp (discharger := omega) only [renVs, renV, rnI, cI, cN, ← nI_0, nI_ltI, nI_leI, nI_eq, nI_add, pk_mul, pk_sub, nI_clamp, vinI, not_true_eq_false, not_false_eq_true, iK0, iK1, iK2, iK3, iK4, iK5, iKm1, bK6, bK7, bK8, bK9, bK10, bK12, bK14, bK15, bK16, bK20, bK21, bK26, bK30, bK32, bK33, bK45, bK48, bK57, bK59, bK60, bK62, bK63, bK64, bK80, bK93, bK98, bK99, bK100, bK104, bK107, bK109, bK110, bK112, bK113, bK114, bK115, bK116, bK119, sK255, sK256, sK500, sK700, sK798, sK912, sK1400, sK2000])) ?_
      (rintro _ _ (⟨h2, rfl, rfl⟩ | ⟨W, c, h2, hc, hW, rfl, rfl⟩)) <;> (repeat' (first | refine And.intro ?_ ?_ | (with_reducible intro h9; exact absurd h9 (by simp only [cI, cN]; decide +kernel)) | with_reducible intro _ | exact (rfl : narrow _ _ = _) | decide | (unfold vp_in; decide)))
      · refine cc0 [0, 1, 2, 3] (tx_keepN hg q f t n (b + 1) x (nI V) (-1) (Or.inr rfl)) (by decide) (by decide) (by decide) rfl (by repeat' (first | exact trivial | refine And.intro ?_ ?_ | rfl)) (by first | rfl | (simp (discharger := omega) only [renVs, renV, rnI, cI, cN, ← nI_0, nI_ltI, nI_leI, nI_eq, nI_add, pk_mul, pk_sub, nI_clamp, vinI, not_true_eq_false, not_false_eq_true, iK0, iK1, iK2, iK3, iK4, iK5, iKm1, bK6, bK7, bK8, bK9, bK10, bK12, bK14, bK15, bK16, bK20, bK21, bK26, bK30, bK32, bK33, bK45, bK48, bK57, bK59, bK60, bK62, bK63, bK64, bK80, bK93, bK98, bK99, bK100, bK104, bK107, bK109, bK110, bK112, bK113, bK114, bK115, bK116, bK119, sK255, sK256, sK500, sK700, sK798, sK912, sK1400, sK2000])) ?_
        (rintro _ _ ⟨rfl, rfl⟩) <;> (repeat' (first | refine And.intro ?_ ?_ | (with_reducible intro h9; exact absurd h9 (by simp only [cI, cN]; decide +kernel)) | with_reducible intro _ | exact (rfl : narrow _ _ = _) | decide | (unfold vp_in; decide)))
        refine Or.inr ⟨b + 1, ?_, rfl, rfl⟩
        unfold ord2
        rw [h1]
        simp only [if_pos gs]
        rw [h2]
      · refine cc0 [0, 1, 2, 3] (tx_keep hg q f t n c hq x V W hV hW) (by decide) (by decide) (by decide) rfl (by repeat' (first | exact trivial | refine And.intro ?_ ?_ | rfl)) (by first | rfl | (simp (discharger := omega) only [renVs, renV, rnI, cI, cN, ← nI_0, nI_ltI, nI_leI, nI_eq, nI_add, pk_mul, pk_sub, nI_clamp, vinI, not_true_eq_false, not_false_eq_true, iK0, iK1, iK2, iK3, iK4, iK5, iKm1, bK6, bK7, bK8, bK9, bK10, bK12, bK14, bK15, bK16, bK20, bK21, bK26, bK30, bK32, bK33, bK45, bK48, bK57, bK59, bK60, bK62, bK63, bK64, bK80, bK93, bK98, bK99, bK100, bK104, bK107, bK109, bK110, bK112, bK113, bK114, bK115, bK116, bK119, sK255, sK256, sK500, sK700, sK798, sK912, sK1400, sK2000])) ?_
        (rintro _ _ ⟨rfl, rfl⟩) <;> (repeat' (first | refine And.intro ?_ ?_ | (with_reducible intro h9; exact absurd h9 (by simp only [cI, cN]; decide +kernel)) | with_reducible intro _ | exact (rfl : narrow _ _ = _) | decide | (unfold vp_in; decide)))
        refine Or.inl ⟨x, V, W, c, ?_, hc, rfl, rfl⟩
        unfold ord2
        rw [h1]
        simp only [if_pos gs]
        rw [h2]
    · refine Or.inr ⟨b, ?_, rfl, rfl⟩
      unfold ord2
      rw [h1]
      simp only [if_neg gs]
theorem swK {x : Int32} (h1 : ¬ x = nI 99) (h2 : ¬ x = nI 104) (h3 : ¬ x = nI 116) (h4 : ¬ x = nI 107) (h5 : ¬ x = nI 98) (h6 : ¬ x = nI 114) (h7 : ¬ x = nI 109) (h8 : ¬ x = nI 112) : swTo x 98 [118, 96, 200, 200, 200, 200, 96, 200, 200, 96, 200, 162, 200, 200, 181, 200, 140, 200, 96] 200 200 := by
  have hx : ∀ k : Nat, k < 200 → (x.toInt = k ↔ x = nI k) := fun k hk => by
    rw [← Int32.toInt_inj, nI_toInt (by omega)]
  rcases Int.lt_or_le x.toInt 98 with z | z
  · exact Or.inr ⟨Or.inl z, rfl⟩
  · rcases Int.lt_or_le 116 x.toInt with y | y
    · refine Or.inr ⟨Or.inr ?_, rfl⟩
      show (98 : Int) + 19 ≤ x.toInt
      omega
    · refine Or.inl ⟨(x.toInt - 98).toNat, by omega, ?_⟩
      have n1 : ¬ x.toInt = 99 := fun e => h1 ((hx 99 (by omega)).mp e)
      have n2 : ¬ x.toInt = 104 := fun e => h2 ((hx 104 (by omega)).mp e)
      have n3 : ¬ x.toInt = 116 := fun e => h3 ((hx 116 (by omega)).mp e)
      have n4 : ¬ x.toInt = 107 := fun e => h4 ((hx 107 (by omega)).mp e)
      have n5 : ¬ x.toInt = 98 := fun e => h5 ((hx 98 (by omega)).mp e)
      have n6 : ¬ x.toInt = 114 := fun e => h6 ((hx 114 (by omega)).mp e)
      have n7 : ¬ x.toInt = 109 := fun e => h7 ((hx 109 (by omega)).mp e)
      have n8 : ¬ x.toInt = 112 := fun e => h8 ((hx 112 (by omega)).mp e)
      have hk : (x.toInt - 98).toNat < 19 := by omega
      have hc : (x.toInt - 98).toNat = 2 ∨ (x.toInt - 98).toNat = 3 ∨ (x.toInt - 98).toNat = 4 ∨ (x.toInt - 98).toNat = 5 ∨ (x.toInt - 98).toNat = 7 ∨ (x.toInt - 98).toNat = 8 ∨ (x.toInt - 98).toNat = 10 ∨ (x.toInt - 98).toNat = 12 ∨ (x.toInt - 98).toNat = 13 ∨ (x.toInt - 98).toNat = 15 ∨ (x.toInt - 98).toNat = 17 := by omega
      rcases hc with e | e | e | e | e | e | e | e | e | e | e <;> rw [e] <;> rfl
end XX
