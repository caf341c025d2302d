/-! ===== Foundry.accountOf; Hall ===== -/
theorem sw_at {P : Nat → Prop} {x : Int32} {lo : Int} {ts : List Nat} {df : Nat} (t j : Nat) (h1 : x.toInt = lo + j) (h2 : ts[j]? = some t) (h : P t) : ∃ t, swTo x lo ts df t ∧ P t := ⟨t, Or.inl ⟨j, h1, h2⟩, h⟩
theorem sw_df {P : Nat → Prop} {x : Int32} {lo : Int} {ts : List Nat} {df : Nat} (h1 : x.toInt < lo ∨ lo + ts.length ≤ x.toInt) (h : P df) : ∃ t, swTo x lo ts df t ∧ P t := ⟨df, Or.inr ⟨h1, rfl⟩, h⟩
def facc (F : fT) (j : Nat) : Int32 := match j with
  | 0 => F.h
  | 1 => F.p
  | 2 => nI F.M.1
  | 3 => nI F.R.1
  | 4 => nI F.B.1
  | 5 => nI (F.on (-1))
  | 6 => isum (fun i => F.b i 2) F.B.1
  | 7 => F.br
  | 8 => F.lo
  | 9 => F.ld
  | 10 => F.hr
  | 11 => isum (fun i => F.b i 5) F.B.1
  | 12 => F.po
  | _ => nI (cnt (sndP F) F.B.1)
section FF
variable {G : gT}
set_option maxRecDepth 20000 in
theorem fd_acc (hg : gOK G) (F : fT) (hF : fB F) (j : Nat) (hj : j < 14) : Spec G 3 0 0 m_X0_accountOf [.ref 0, .int (nI j)] (fw F) (fun v w' => v = some (.int (facc F j)) ∧ w' = fw F) NX := by
  obtain ⟨h1, h2, h3⟩ := id hF
  have hc : j = 0 ∨ j = 1 ∨ j = 2 ∨ j = 3 ∨ j = 4 ∨ j = 5 ∨ j = 6 ∨ j = 7 ∨ j = 8 ∨ j = 9 ∨ j = 10 ∨ j = 11 ∨ j = 12 ∨ j = 13 := by omega
  rcases hc with rfl | rfl | rfl | rfl | rfl | rfl | rfl | rfl | rfl | rfl | rfl | rfl | rfl | rfl
  · refine wp_spec (M := M_X0_accountOf) hg ok_X0_accountOf cut0 60 rfl rfl ?_
    repeat' (first | refine And.intro ?_ ?_ | (with_reducible intro h9; exact absurd h9 (by simp only [cI, cN]; decide +kernel)) | with_reducible intro _ | exact (rfl : narrow _ _ = _) | decide)
    refine sw_at 68 0 (by decide) rfl ?_
    repeat' (first | refine And.intro ?_ ?_ | (with_reducible intro h9; exact absurd h9 (by simp only [cI, cN]; decide +kernel)) | with_reducible intro _ | exact (rfl : narrow _ _ = _) | decide)
    all_goals rfl
  · refine wp_spec (M := M_X0_accountOf) hg ok_X0_accountOf cut0 60 rfl rfl ?_
    repeat' (first | refine And.intro ?_ ?_ | (with_reducible intro h9; exact absurd h9 (by simp only [cI, cN]; decide +kernel)) | with_reducible intro _ | exact (rfl : narrow _ _ = _) | decide)
    refine sw_at 73 1 (by decide) rfl ?_
    repeat' (first | refine And.intro ?_ ?_ | (with_reducible intro h9; exact absurd h9 (by simp only [cI, cN]; decide +kernel)) | with_reducible intro _ | exact (rfl : narrow _ _ = _) | decide)
    all_goals rfl
  · refine wp_spec (M := M_X0_accountOf) hg ok_X0_accountOf cut0 60 rfl rfl ?_
    repeat' (first | refine And.intro ?_ ?_ | (with_reducible intro h9; exact absurd h9 (by simp only [cI, cN]; decide +kernel)) | with_reducible intro _ | exact (rfl : narrow _ _ = _) | decide)
    refine sw_at 78 2 (by decide) rfl ?_
    repeat' (first | refine And.intro ?_ ?_ | (with_reducible intro h9; exact absurd h9 (by simp only [cI, cN]; decide +kernel)) | with_reducible intro _ | exact (rfl : narrow _ _ = _) | decide)
    refine cc0 [1, 2] (tb_size hg 8 2 F.M.1 F.M.2) (by decide) (by decide) (by decide) rfl (by repeat' (first | exact trivial | refine And.intro ?_ ?_ | rfl)) (by first | rfl | (simp (discharger := omega) only [renVs, renV, rnI, cI, cN, ← nI_0, nI_ltI, nI_leI, nI_eq, nI_add, pk_mul, pk_sub, nI_clamp, vinI, not_true_eq_false, not_false_eq_true, iK0, iK1, iK2, iK3, iK4, iK5, iKm1, bK6, bK7, bK8, bK9, bK10, bK12, bK14, bK15, bK16, bK20, bK21, bK26, bK30, bK32, bK33, bK45, bK48, bK57, bK59, bK60, bK62, bK63, bK64, bK80, bK93, bK98, bK99, bK100, bK104, bK107, bK109, bK110, bK112, bK113, bK114, bK115, bK116, bK119, sK255, sK256, sK500, sK700, sK798, sK912, sK1400, sK2000])) ?_
    (rintro _ _ ⟨rfl, rfl⟩) <;> (repeat' (first | refine And.intro ?_ ?_ | (with_reducible intro h9; exact absurd h9 (by simp only [cI, cN]; decide +kernel)) | with_reducible intro _ | exact (rfl : narrow _ _ = _) | decide))
    all_goals rfl
  · refine wp_spec (M := M_X0_accountOf) hg ok_X0_accountOf cut0 60 rfl rfl ?_
    repeat' (first | refine And.intro ?_ ?_ | (with_reducible intro h9; exact absurd h9 (by simp only [cI, cN]; decide +kernel)) | with_reducible intro _ | exact (rfl : narrow _ _ = _) | decide)
    refine sw_at 86 3 (by decide) rfl ?_
    repeat' (first | refine And.intro ?_ ?_ | (with_reducible intro h9; exact absurd h9 (by simp only [cI, cN]; decide +kernel)) | with_reducible intro _ | exact (rfl : narrow _ _ = _) | decide)
    refine cc0 [3, 4] (tb_size hg 4 1 F.R.1 F.R.2) (by decide) (by decide) (by decide) rfl (by repeat' (first | exact trivial | refine And.intro ?_ ?_ | rfl)) (by first | rfl | (simp (discharger := omega) only [renVs, renV, rnI, cI, cN, ← nI_0, nI_ltI, nI_leI, nI_eq, nI_add, pk_mul, pk_sub, nI_clamp, vinI, not_true_eq_false, not_false_eq_true, iK0, iK1, iK2, iK3, iK4, iK5, iKm1, bK6, bK7, bK8, bK9, bK10, bK12, bK14, bK15, bK16, bK20, bK21, bK26, bK30, bK32, bK33, bK45, bK48, bK57, bK59, bK60, bK62, bK63, bK64, bK80, bK93, bK98, bK99, bK100, bK104, bK107, bK109, bK110, bK112, bK113, bK114, bK115, bK116, bK119, sK255, sK256, sK500, sK700, sK798, sK912, sK1400, sK2000])) ?_
    (rintro _ _ ⟨rfl, rfl⟩) <;> (repeat' (first | refine And.intro ?_ ?_ | (with_reducible intro h9; exact absurd h9 (by simp only [cI, cN]; decide +kernel)) | with_reducible intro _ | exact (rfl : narrow _ _ = _) | decide))
    all_goals rfl
  · refine wp_spec (M := M_X0_accountOf) hg ok_X0_accountOf cut0 60 rfl rfl ?_
    repeat' (first | refine And.intro ?_ ?_ | (with_reducible intro h9; exact absurd h9 (by simp only [cI, cN]; decide +kernel)) | with_reducible intro _ | exact (rfl : narrow _ _ = _) | decide)
    refine sw_at 94 4 (by decide) rfl ?_
    repeat' (first | refine And.intro ?_ ?_ | (with_reducible intro h9; exact absurd h9 (by simp only [cI, cN]; decide +kernel)) | with_reducible intro _ | exact (rfl : narrow _ _ = _) | decide)
    refine cc0 [5, 6] (tb_size hg 12 8 F.B.1 F.B.2) (by decide) (by decide) (by decide) rfl (by repeat' (first | exact trivial | refine And.intro ?_ ?_ | rfl)) (by first | rfl | (simp (discharger := omega) only [renVs, renV, rnI, cI, cN, ← nI_0, nI_ltI, nI_leI, nI_eq, nI_add, pk_mul, pk_sub, nI_clamp, vinI, not_true_eq_false, not_false_eq_true, iK0, iK1, iK2, iK3, iK4, iK5, iKm1, bK6, bK7, bK8, bK9, bK10, bK12, bK14, bK15, bK16, bK20, bK21, bK26, bK30, bK32, bK33, bK45, bK48, bK57, bK59, bK60, bK62, bK63, bK64, bK80, bK93, bK98, bK99, bK100, bK104, bK107, bK109, bK110, bK112, bK113, bK114, bK115, bK116, bK119, sK255, sK256, sK500, sK700, sK798, sK912, sK1400, sK2000])) ?_
    (rintro _ _ ⟨rfl, rfl⟩) <;> (repeat' (first | refine And.intro ?_ ?_ | (with_reducible intro h9; exact absurd h9 (by simp only [cI, cN]; decide +kernel)) | with_reducible intro _ | exact (rfl : narrow _ _ = _) | decide))
    all_goals rfl
  · refine wp_spec (M := M_X0_accountOf) hg ok_X0_accountOf cut0 60 rfl rfl ?_
    repeat' (first | refine And.intro ?_ ?_ | (with_reducible intro h9; exact absurd h9 (by simp only [cI, cN]; decide +kernel)) | with_reducible intro _ | exact (rfl : narrow _ _ = _) | decide)
    refine sw_at 102 5 (by decide) rfl ?_
    repeat' (first | refine And.intro ?_ ?_ | (with_reducible intro h9; exact absurd h9 (by simp only [cI, cN]; decide +kernel)) | with_reducible intro _ | exact (rfl : narrow _ _ = _) | decide)
    refine cc0 [0, 1, 2, 3, 4, 5, 6] (fd_on hg F hF (-1)) (by decide) (by decide) (by decide) rfl (by repeat' (first | exact trivial | refine And.intro ?_ ?_ | rfl)) (by first | rfl | (simp (discharger := omega) only [renVs, renV, rnI, cI, cN, ← nI_0, nI_ltI, nI_leI, nI_eq, nI_add, pk_mul, pk_sub, nI_clamp, vinI, not_true_eq_false, not_false_eq_true, iK0, iK1, iK2, iK3, iK4, iK5, iKm1, bK6, bK7, bK8, bK9, bK10, bK12, bK14, bK15, bK16, bK20, bK21, bK26, bK30, bK32, bK33, bK45, bK48, bK57, bK59, bK60, bK62, bK63, bK64, bK80, bK93, bK98, bK99, bK100, bK104, bK107, bK109, bK110, bK112, bK113, bK114, bK115, bK116, bK119, sK255, sK256, sK500, sK700, sK798, sK912, sK1400, sK2000])) ?_
    (rintro _ _ ⟨rfl, rfl⟩) <;> (repeat' (first | refine And.intro ?_ ?_ | (with_reducible intro h9; exact absurd h9 (by simp only [cI, cN]; decide +kernel)) | with_reducible intro _ | exact (rfl : narrow _ _ = _) | decide))
    all_goals rfl
  · refine wp_spec (M := M_X0_accountOf) hg ok_X0_accountOf cut0 60 rfl rfl ?_
    repeat' (first | refine And.intro ?_ ?_ | (with_reducible intro h9; exact absurd h9 (by simp only [cI, cN]; decide +kernel)) | with_reducible intro _ | exact (rfl : narrow _ _ = _) | decide)
    refine sw_at 108 6 (by decide) rfl ?_
    repeat' (first | refine And.intro ?_ ?_ | (with_reducible intro h9; exact absurd h9 (by simp only [cI, cN]; decide +kernel)) | with_reducible intro _ | exact (rfl : narrow _ _ = _) | decide)
    refine cc0 [5, 6] (tb_sum hg 12 8 F.B.1 2 F.B.2 h3 (by omega) (by omega) (by omega) (by omega)) (by decide) (by decide) (by decide) rfl (by repeat' (first | exact trivial | refine And.intro ?_ ?_ | rfl)) (by first | rfl | (simp (discharger := omega) only [renVs, renV, rnI, cI, cN, ← nI_0, nI_ltI, nI_leI, nI_eq, nI_add, pk_mul, pk_sub, nI_clamp, vinI, not_true_eq_false, not_false_eq_true, iK0, iK1, iK2, iK3, iK4, iK5, iKm1, bK6, bK7, bK8, bK9, bK10, bK12, bK14, bK15, bK16, bK20, bK21, bK26, bK30, bK32, bK33, bK45, bK48, bK57, bK59, bK60, bK62, bK63, bK64, bK80, bK93, bK98, bK99, bK100, bK104, bK107, bK109, bK110, bK112, bK113, bK114, bK115, bK116, bK119, sK255, sK256, sK500, sK700, sK798, sK912, sK1400, sK2000])) ?_
    (rintro _ _ ⟨rfl, rfl⟩) <;> (repeat' (first | refine And.intro ?_ ?_ | (with_reducible intro h9; exact absurd h9 (by simp only [cI, cN]; decide +kernel)) | with_reducible intro _ | exact (rfl : narrow _ _ = _) | decide))
    all_goals rfl
  · refine wp_spec (M := M_X0_accountOf) hg ok_X0_accountOf cut0 60 rfl rfl ?_
    repeat' (first | refine And.intro ?_ ?_ | (with_reducible intro h9; exact absurd h9 (by simp only [cI, cN]; decide +kernel)) | with_reducible intro _ | exact (rfl : narrow _ _ = _) | decide)
    refine sw_at 117 7 (by decide) rfl ?_
    repeat' (first | refine And.intro ?_ ?_ | (with_reducible intro h9; exact absurd h9 (by simp only [cI, cN]; decide +kernel)) | with_reducible intro _ | exact (rfl : narrow _ _ = _) | decide)
    all_goals rfl
  · refine wp_spec (M := M_X0_accountOf) hg ok_X0_accountOf cut0 60 rfl rfl ?_
    repeat' (first | refine And.intro ?_ ?_ | (with_reducible intro h9; exact absurd h9 (by simp only [cI, cN]; decide +kernel)) | with_reducible intro _ | exact (rfl : narrow _ _ = _) | decide)
    refine sw_at 122 8 (by decide) rfl ?_
    repeat' (first | refine And.intro ?_ ?_ | (with_reducible intro h9; exact absurd h9 (by simp only [cI, cN]; decide +kernel)) | with_reducible intro _ | exact (rfl : narrow _ _ = _) | decide)
    all_goals rfl
  · refine wp_spec (M := M_X0_accountOf) hg ok_X0_accountOf cut0 60 rfl rfl ?_
    repeat' (first | refine And.intro ?_ ?_ | (with_reducible intro h9; exact absurd h9 (by simp only [cI, cN]; decide +kernel)) | with_reducible intro _ | exact (rfl : narrow _ _ = _) | decide)
    refine sw_at 127 9 (by decide) rfl ?_
    repeat' (first | refine And.intro ?_ ?_ | (with_reducible intro h9; exact absurd h9 (by simp only [cI, cN]; decide +kernel)) | with_reducible intro _ | exact (rfl : narrow _ _ = _) | decide)
    all_goals rfl
  · refine wp_spec (M := M_X0_accountOf) hg ok_X0_accountOf cut0 60 rfl rfl ?_
    repeat' (first | refine And.intro ?_ ?_ | (with_reducible intro h9; exact absurd h9 (by simp only [cI, cN]; decide +kernel)) | with_reducible intro _ | exact (rfl : narrow _ _ = _) | decide)
    refine sw_at 132 10 (by decide) rfl ?_
    repeat' (first | refine And.intro ?_ ?_ | (with_reducible intro h9; exact absurd h9 (by simp only [cI, cN]; decide +kernel)) | with_reducible intro _ | exact (rfl : narrow _ _ = _) | decide)
    all_goals rfl
  · refine wp_spec (M := M_X0_accountOf) hg ok_X0_accountOf cut0 60 rfl rfl ?_
    repeat' (first | refine And.intro ?_ ?_ | (with_reducible intro h9; exact absurd h9 (by simp only [cI, cN]; decide +kernel)) | with_reducible intro _ | exact (rfl : narrow _ _ = _) | decide)
    refine sw_at 137 11 (by decide) rfl ?_
    repeat' (first | refine And.intro ?_ ?_ | (with_reducible intro h9; exact absurd h9 (by simp only [cI, cN]; decide +kernel)) | with_reducible intro _ | exact (rfl : narrow _ _ = _) | decide)
    refine cc0 [5, 6] (tb_sum hg 12 8 F.B.1 5 F.B.2 h3 (by omega) (by omega) (by omega) (by omega)) (by decide) (by decide) (by decide) rfl (by repeat' (first | exact trivial | refine And.intro ?_ ?_ | rfl)) (by first | rfl | (simp (discharger := omega) only [renVs, renV, rnI, cI, cN, ← nI_0, nI_ltI, nI_leI, nI_eq, nI_add, pk_mul, pk_sub, nI_clamp, vinI, not_true_eq_false, not_false_eq_true, iK0, iK1, iK2, iK3, iK4, iK5, iKm1, bK6, bK7, bK8, bK9, bK10, bK12, bK14, bK15, bK16, bK20, bK21, bK26, bK30, bK32, bK33, bK45, bK48, bK57, bK59, bK60, bK62, bK63, bK64, bK80, bK93, bK98, bK99, bK100, bK104, bK107, bK109, bK110, bK112, bK113, bK114, bK115, bK116, bK119, sK255, sK256, sK500, sK700, sK798, sK912, sK1400, sK2000])) ?_
    (rintro _ _ ⟨rfl, rfl⟩) <;> (repeat' (first | refine And.intro ?_ ?_ | (with_reducible intro h9; exact absurd h9 (by simp only [cI, cN]; decide +kernel)) | with_reducible intro _ | exact (rfl : narrow _ _ = _) | decide))
    all_goals rfl
  · refine wp_spec (M := M_X0_accountOf) hg ok_X0_accountOf cut0 60 rfl rfl ?_
    repeat' (first | refine And.intro ?_ ?_ | (with_reducible intro h9; exact absurd h9 (by simp only [cI, cN]; decide +kernel)) | with_reducible intro _ | exact (rfl : narrow _ _ = _) | decide)
    refine sw_at 146 12 (by decide) rfl ?_
    repeat' (first | refine And.intro ?_ ?_ | (with_reducible intro h9; exact absurd h9 (by simp only [cI, cN]; decide +kernel)) | with_reducible intro _ | exact (rfl : narrow _ _ = _) | decide)
    all_goals rfl
  · refine wp_spec (M := M_X0_accountOf) hg ok_X0_accountOf cut0 60 rfl rfl ?_
    repeat' (first | refine And.intro ?_ ?_ | (with_reducible intro h9; exact absurd h9 (by simp only [cI, cN]; decide +kernel)) | with_reducible intro _ | exact (rfl : narrow _ _ = _) | decide)
    refine sw_df (by decide) ?_
    repeat' (first | refine And.intro ?_ ?_ | (with_reducible intro h9; exact absurd h9 (by simp only [cI, cN]; decide +kernel)) | with_reducible intro _ | exact (rfl : narrow _ _ = _) | decide)
    refine cc0 [0, 1, 2, 3, 4, 5, 6] (fd_sound hg F hF) (by decide) (by decide) (by decide) rfl (by repeat' (first | exact trivial | refine And.intro ?_ ?_ | rfl)) (by first | rfl | (simp (discharger := omega) only [renVs, renV, rnI, cI, cN, ← nI_0, nI_ltI, nI_leI, nI_eq, nI_add, pk_mul, pk_sub, nI_clamp, vinI, not_true_eq_false, not_false_eq_true, iK0, iK1, iK2, iK3, iK4, iK5, iKm1, bK6, bK7, bK8, bK9, bK10, bK12, bK14, bK15, bK16, bK20, bK21, bK26, bK30, bK32, bK33, bK45, bK48, bK57, bK59, bK60, bK62, bK63, bK64, bK80, bK93, bK98, bK99, bK100, bK104, bK107, bK109, bK110, bK112, bK113, bK114, bK115, bK116, bK119, sK255, sK256, sK500, sK700, sK798, sK912, sK1400, sK2000])) ?_
    (rintro _ _ ⟨rfl, rfl⟩) <;> (repeat' (first | refine And.intro ?_ ?_ | (with_reducible intro h9; exact absurd h9 (by simp only [cI, cN]; decide +kernel)) | with_reducible intro _ | exact (rfl : narrow _ _ = _) | decide))
    all_goals rfl
end FF
/-! the hall: notes that are told -/
/-- Foundry, then the hall and its row -/
def hw (F : fT) (t : Nat → Int32) : xW := [.inr (4, [.ref 1, .ref 3, .ref 5, .int F.h, .int F.p, .int F.br, .int F.lo, .int F.ld, .int F.hr, .int F.po]), .inr (9, [.int (nI 8), .int (nI 2), .ref 2, .int (nI F.M.1)]), .inl (0, 8 * 2, .inl F.M.2), .inr (9, [.int (nI 4), .int (nI 1), .ref 4, .int (nI F.R.1)]), .inl (0, 4 * 1, .inl F.R.2), .inr (9, [.int (nI 12), .int (nI 8), .ref 6, .int (nI F.B.1)]), .inl (0, 12 * 8, .inl F.B.2), .inr (5, [.ref 8]), .inl (1, 113, .inl t)]
def hl (t : Nat → Int32) : xW := [.inr (5, [.ref 1]), .inl (1, 113, .inl t)]
/-- the row tells the notes in the hall of the bells ahead of k -/
def tld (F : fT) (t : Nat → Int32) (k : Nat) : Prop := ∀ q, q < 113 → (t q = nI 1 ∧ ∃ i, i < k ∧ F.b i 3 = -1 ∧ F.note i = nI q) ∨ (t q = nI 0 ∧ ¬ ∃ i, i < k ∧ F.b i 3 = -1 ∧ F.note i = nI q)
theorem tld_0 {F : fT} {t : Nat → Int32} (h : ∀ q, q < 113 → t q = nI 0) : tld F t 0 := fun q hq => Or.inr ⟨h q hq, fun ⟨i, hi, _⟩ => by omega⟩
theorem tld_n {F : fT} {t : Nat → Int32} {k : Nat} (h : tld F t k) (hn : ∀ q, q < 113 → ¬ (F.b k 3 = -1 ∧ F.note k = nI q)) : tld F t (k + 1) := fun q hq => by
  rcases h q hq with ⟨a, i, b, c⟩ | ⟨a, b⟩
  · exact Or.inl ⟨a, i, by omega, c⟩
  · refine Or.inr ⟨a, fun ⟨i, hi, c⟩ => ?_⟩
    rcases Nat.lt_or_ge i k with z | z
    · exact b ⟨i, z, c⟩
    · have : i = k := by omega
      subst this
      exact hn q hq c
theorem tld_y {F : fT} {t : Nat → Int32} {k x : Nat} (h : tld F t k) (hx : x < 113) (h1 : F.b k 3 = -1) (h2 : F.note k = nI x) : tld F (upd t x (nI 1)) (k + 1) := fun q hq => by
  unfold upd
  by_cases e : q = x
  · subst e
    rw [if_pos rfl]
    exact Or.inl ⟨rfl, k, by omega, h1, h2⟩
  · rw [if_neg e]
    rcases h q hq with ⟨a, i, b, c⟩ | ⟨a, b⟩
    · exact Or.inl ⟨a, i, by omega, c⟩
    · refine Or.inr ⟨a, fun ⟨i, hi, c⟩ => ?_⟩
      rcases Nat.lt_or_ge i k with z | z
      · exact b ⟨i, z, c⟩
      · have : i = k := by omega
        subst this
        exact e ((nI_eq (by omega) (by omega)).mp (c.2.symm.trans h2))
section HH
variable {G : gT}
theorem hl_gather_l2 (hg : gOK G) (F : fT) (hF : fB F) {K : Option Value → xW → Prop} {KX : Nat → xW → Prop} (hK : ∀ t, tld F t F.B.1 → K none (hw F t)) : ∀ (c k : Nat) (hk : k ≤ F.B.1) (t : Nat → Int32) (ht : tld F t k) (hc9 : F.B.1 - k = c),
    AW G M_X1_gather 3 0 0 26 [some (.ref 7), some (.ref 0), some (.int (nI k)), none] [] (hw F t) K KX := by
  intro c
  induction c using Nat.strongRecOn with | ind c ih => ?_
  intro k hk t ht hc9
  obtain ⟨h1, h2, h3⟩ := id hF
  refine wp_ok (M := M_X1_gather) hg ok_X1_gather (lkp [(26, [true, true, true, false])]) 60 _ _ _ _ _ _ ?_
  repeat' (first | refine And.intro ?_ ?_ | (with_reducible intro h9; exact absurd h9 (by simp only [cI, cN]; decide +kernel)) | with_reducible intro _ | exact (rfl : narrow _ _ = _) | decide)
  refine cc0 [5, 6] (tb_size hg 12 8 F.B.1 F.B.2) (by decide) (by decide) (by decide) rfl (by repeat' (first | exact trivial | refine And.intro ?_ ?_ | rfl)) (by first | rfl | (simp (discharger := omega) only [renVs, renV, rnI, cI, cN, ← nI_0, nI_ltI, nI_leI, nI_eq, nI_add, pk_mul, pk_sub, nI_clamp, vinI, not_true_eq_false, not_false_eq_true, iK0, iK1, iK2, iK3, iK4, iK5, iKm1, bK6, bK7, bK8, bK9, bK10, bK12, bK14, bK15, bK16, bK20, bK21, bK26, bK30, bK32, bK33, bK45, bK48, bK57, bK59, bK60, bK62, bK63, bK64, bK80, bK93, bK98, bK99, bK100, bK104, bK107, bK109, bK110, bK112, bK113, bK114, bK115, bK116, bK119, sK255, sK256, sK500, sK700, sK798, sK912, sK1400, sK2000])) ?_
  (rintro _ _ ⟨rfl, rfl⟩) <;> (repeat' (first | refine And.intro ?_ ?_ | (with_reducible intro h9; exact absurd h9 (by simp only [cI, cN]; decide +kernel)) | with_reducible intro _ | exact (rfl : narrow _ _ = _) | decide))
  · rename_i g
    simp (discharger := omega) only [cI, nI_leI] at g
    have : k = F.B.1 := by omega
    subst this
    exact hK t ht
  · rename_i g
    simp (discharger := omega) only [cN, nI_leI] at g
    refine cc0 [0, 1, 2, 3, 4, 5, 6] (fd_note hg F hF k (by omega)) (by decide) (by decide) (by decide) rfl (by repeat' (first | exact trivial | refine And.intro ?_ ?_ | rfl)) (by first | rfl | (simp (discharger := omega) only [renVs, renV, rnI, cI, cN, ← nI_0, nI_ltI, nI_leI, nI_eq, nI_add, pk_mul, pk_sub, nI_clamp, vinI, not_true_eq_false, not_false_eq_true, iK0, iK1, iK2, iK3, iK4, iK5, iKm1, bK6, bK7, bK8, bK9, bK10, bK12, bK14, bK15, bK16, bK20, bK21, bK26, bK30, bK32, bK33, bK45, bK48, bK57, bK59, bK60, bK62, bK63, bK64, bK80, bK93, bK98, bK99, bK100, bK104, bK107, bK109, bK110, bK112, bK113, bK114, bK115, bK116, bK119, sK255, sK256, sK500, sK700, sK798, sK912, sK1400, sK2000])) ?_
    (rintro _ _ ⟨rfl, rfl⟩) <;> (repeat' (first | refine And.intro ?_ ?_ | (with_reducible intro h9; exact absurd h9 (by simp only [cI, cN]; decide +kernel)) | with_reducible intro _ | exact (rfl : narrow _ _ = _) | decide))
    refine cc0 [5, 6] (tb_get hg 12 8 F.B.1 k 3 F.B.2 h3 (by omega) (by omega) (by omega) (by omega) (by omega)) (by decide) (by decide) (by decide) rfl (by repeat' (first | exact trivial | refine And.intro ?_ ?_ | rfl)) (by first | rfl | (simp (discharger := omega) only [renVs, renV, rnI, cI, cN, ← nI_0, nI_ltI, nI_leI, nI_eq, nI_add, pk_mul, pk_sub, nI_clamp, vinI, not_true_eq_false, not_false_eq_true, iK0, iK1, iK2, iK3, iK4, iK5, iKm1, bK6, bK7, bK8, bK9, bK10, bK12, bK14, bK15, bK16, bK20, bK21, bK26, bK30, bK32, bK33, bK45, bK48, bK57, bK59, bK60, bK62, bK63, bK64, bK80, bK93, bK98, bK99, bK100, bK104, bK107, bK109, bK110, bK112, bK113, bK114, bK115, bK116, bK119, sK255, sK256, sK500, sK700, sK798, sK912, sK1400, sK2000])) ?_
    (rintro _ _ ⟨rfl, rfl⟩) <;> (repeat' (first | refine And.intro ?_ ?_ | (with_reducible intro h9; exact absurd h9 (by simp only [cI, cN]; decide +kernel)) | with_reducible intro _ | exact (rfl : narrow _ _ = _) | decide))
    · rename_i g2
      simp only [cI, iKm1] at g2
      exact AW.cg (ih _ (by omega) (k + 1) (by omega) t (tld_n ht fun q _ z => g2 z.1) rfl) rfl rfl rfl (by first | rfl | (simp (discharger := omega) only [msk, clr_i, clr_r, cI, cN, ← nI_0, nI_ltI, nI_leI, nI_eq, nI_add, pk_mul, pk_sub, nI_clamp, vinI, not_true_eq_false, not_false_eq_true, iK0, iK1, iK2, iK3, iK4, iK5, iKm1, bK6, bK7, bK8, bK9, bK10, bK12, bK14, bK15, bK16, bK20, bK21, bK26, bK30, bK32, bK33, bK45, bK48, bK57, bK59, bK60, bK62, bK63, bK64, bK80, bK93, bK98, bK99, bK100, bK104, bK107, bK109, bK110, bK112, bK113, bK114, bK115, bK116, bK119, sK255, sK256, sK500, sK700, sK798, sK912, sK1400, sK2000]; done) | (simp (discharger := omega) only [msk, clr_i, clr_r, cI, cN, ← nI_0, nI_ltI, nI_leI, nI_eq, nI_add, pk_mul, pk_sub, nI_clamp, vinI, not_true_eq_false, not_false_eq_true, iK0, iK1, iK2, iK3, iK4, iK5, iKm1, bK6, bK7, bK8, bK9, bK10, bK12, bK14, bK15, bK16, bK20, bK21, bK26, bK30, bK32, bK33, bK45, bK48, bK57, bK59, bK60, bK62, bK63, bK64, bK80, bK93, bK98, bK99, bK100, bK104, bK107, bK109, bK110, bK112, bK113, bK114, bK115, bK116, bK119, sK255, sK256, sK500, sK700, sK798, sK912, sK1400, sK2000]; rfl)) rfl rfl
    · rename_i g2 g3
      simp only [cI, cN, iKm1, Classical.not_not] at g2 g3
      exact AW.cg (ih _ (by omega) (k + 1) (by omega) t (tld_n ht fun q hq z => by
        have e := z.2
        rw [e] at g3
        exact nI_pos (by omega) g3) rfl) rfl rfl rfl (by first | rfl | (simp (discharger := omega) only [msk, clr_i, clr_r, cI, cN, ← nI_0, nI_ltI, nI_leI, nI_eq, nI_add, pk_mul, pk_sub, nI_clamp, vinI, not_true_eq_false, not_false_eq_true, iK0, iK1, iK2, iK3, iK4, iK5, iKm1, bK6, bK7, bK8, bK9, bK10, bK12, bK14, bK15, bK16, bK20, bK21, bK26, bK30, bK32, bK33, bK45, bK48, bK57, bK59, bK60, bK62, bK63, bK64, bK80, bK93, bK98, bK99, bK100, bK104, bK107, bK109, bK110, bK112, bK113, bK114, bK115, bK116, bK119, sK255, sK256, sK500, sK700, sK798, sK912, sK1400, sK2000]; done) | (simp (discharger := omega) only [msk, clr_i, clr_r, cI, cN, ← nI_0, nI_ltI, nI_leI, nI_eq, nI_add, pk_mul, pk_sub, nI_clamp, vinI, not_true_eq_false, not_false_eq_true, iK0, iK1, iK2, iK3, iK4, iK5, iKm1, bK6, bK7, bK8, bK9, bK10, bK12, bK14, bK15, bK16, bK20, bK21, bK26, bK30, bK32, bK33, bK45, bK48, bK57, bK59, bK60, bK62, bK63, bK64, bK80, bK93, bK98, bK99, bK100, bK104, bK107, bK109, bK110, bK112, bK113, bK114, bK115, bK116, bK119, sK255, sK256, sK500, sK700, sK798, sK912, sK1400, sK2000]; rfl)) rfl rfl
    · rename_i g2 g3 g4
      simp only [cI, cN, iKm1, Classical.not_not] at g2 g3 g4
      exact AW.cg (ih _ (by omega) (k + 1) (by omega) t (tld_n ht fun q hq z => by
        have e := z.2
        rw [e, nI_leI (by omega) (by omega)] at g4
        omega) rfl) rfl rfl rfl (by first | rfl | (simp (discharger := omega) only [msk, clr_i, clr_r, cI, cN, ← nI_0, nI_ltI, nI_leI, nI_eq, nI_add, pk_mul, pk_sub, nI_clamp, vinI, not_true_eq_false, not_false_eq_true, iK0, iK1, iK2, iK3, iK4, iK5, iKm1, bK6, bK7, bK8, bK9, bK10, bK12, bK14, bK15, bK16, bK20, bK21, bK26, bK30, bK32, bK33, bK45, bK48, bK57, bK59, bK60, bK62, bK63, bK64, bK80, bK93, bK98, bK99, bK100, bK104, bK107, bK109, bK110, bK112, bK113, bK114, bK115, bK116, bK119, sK255, sK256, sK500, sK700, sK798, sK912, sK1400, sK2000]; done) | (simp (discharger := omega) only [msk, clr_i, clr_r, cI, cN, ← nI_0, nI_ltI, nI_leI, nI_eq, nI_add, pk_mul, pk_sub, nI_clamp, vinI, not_true_eq_false, not_false_eq_true, iK0, iK1, iK2, iK3, iK4, iK5, iKm1, bK6, bK7, bK8, bK9, bK10, bK12, bK14, bK15, bK16, bK20, bK21, bK26, bK30, bK32, bK33, bK45, bK48, bK57, bK59, bK60, bK62, bK63, bK64, bK80, bK93, bK98, bK99, bK100, bK104, bK107, bK109, bK110, bK112, bK113, bK114, bK115, bK116, bK119, sK255, sK256, sK500, sK700, sK798, sK912, sK1400, sK2000]; rfl)) rfl rfl
    · rename_i g2 g3 g4
      simp only [cN] at g3 g4
      obtain ⟨x, hx, e⟩ := nI_of g3
      have e9 : F.note k = nI x := e
      rw [e9] at g4 ⊢
      rw [nI_leI (by omega) (by omega)] at g4
      rw [vinI (by omega)]; omega
    · rename_i g2 g3 g4
      simp only [cN, iKm1, Classical.not_not] at g2 g3 g4
      obtain ⟨x, hx, e⟩ := nI_of g3
      have e9 : F.note k = nI x := e
      rw [e9, nI_leI (by omega) (by omega)] at g4
      exact AW.cg (ih _ (by omega) (k + 1) (by omega) (upd t x (nI 1)) (tld_y ht (by omega) g2 e9) rfl) rfl rfl rfl (by first | rfl | (simp (discharger := omega) only [msk, clr_i, clr_r, cI, cN, ← nI_0, nI_ltI, nI_leI, nI_eq, nI_add, pk_mul, pk_sub, nI_clamp, vinI, not_true_eq_false, not_false_eq_true, iK0, iK1, iK2, iK3, iK4, iK5, iKm1, bK6, bK7, bK8, bK9, bK10, bK12, bK14, bK15, bK16, bK20, bK21, bK26, bK30, bK32, bK33, bK45, bK48, bK57, bK59, bK60, bK62, bK63, bK64, bK80, bK93, bK98, bK99, bK100, bK104, bK107, bK109, bK110, bK112, bK113, bK114, bK115, bK116, bK119, sK255, sK256, sK500, sK700, sK798, sK912, sK1400, sK2000]; done) | (simp (discharger := omega) only [msk, clr_i, clr_r, cI, cN, ← nI_0, nI_ltI, nI_leI, nI_eq, nI_add, pk_mul, pk_sub, nI_clamp, vinI, not_true_eq_false, not_false_eq_true, iK0, iK1, iK2, iK3, iK4, iK5, iKm1, bK6, bK7, bK8, bK9, bK10, bK12, bK14, bK15, bK16, bK20, bK21, bK26, bK30, bK32, bK33, bK45, bK48, bK57, bK59, bK60, bK62, bK63, bK64, bK80, bK93, bK98, bK99, bK100, bK104, bK107, bK109, bK110, bK112, bK113, bK114, bK115, bK116, bK119, sK255, sK256, sK500, sK700, sK798, sK912, sK1400, sK2000]; rfl)) rfl (by
        rw [e9, nI_clamp (by omega)]
        rfl)
theorem hl_gather_l1 (hg : gOK G) (F : fT) (hF : fB F) {K : Option Value → xW → Prop} {KX : Nat → xW → Prop} (hK : ∀ t, tld F t F.B.1 → K none (hw F t)) : ∀ (c k : Nat) (hk : k ≤ 113) (t : Nat → Int32) (ht : ∀ q, q < k → t q = nI 0) (hc9 : 113 - k = c),
    AW G M_X1_gather 3 0 0 2 [some (.ref 7), some (.ref 0), some (.int (nI k)), none] [] (hw F t) K KX := by
  intro c
  induction c using Nat.strongRecOn with | ind c ih => ?_
  intro k hk t ht hc9
  refine wp_ok (M := M_X1_gather) hg ok_X1_gather (lkp [(2, [true, true, true, false]), (26, [true, true, true, false])]) 60 _ _ _ _ _ _ ?_
  repeat' (first | refine And.intro ?_ ?_ | (with_reducible intro h9; exact absurd h9 (by simp only [cI, cN]; decide +kernel)) | with_reducible intro _ | exact (rfl : narrow _ _ = _) | decide)
  · rename_i g
    simp (discharger := omega) only [cI, nI_leI] at g
    exact AW.cg (hl_gather_l2 hg F hF hK _ 0 (by omega) t (tld_0 fun q hq => ht q (by omega)) rfl) rfl rfl rfl (by first | rfl | (simp (discharger := omega) only [msk, clr_i, clr_r, cI, cN, ← nI_0, nI_ltI, nI_leI, nI_eq, nI_add, pk_mul, pk_sub, nI_clamp, vinI, not_true_eq_false, not_false_eq_true, iK0, iK1, iK2, iK3, iK4, iK5, iKm1, bK6, bK7, bK8, bK9, bK10, bK12, bK14, bK15, bK16, bK20, bK21, bK26, bK30, bK32, bK33, bK45, bK48, bK57, bK59, bK60, bK62, bK63, bK64, bK80, bK93, bK98, bK99, bK100, bK104, bK107, bK109, bK110, bK112, bK113, bK114, bK115, bK116, bK119, sK255, sK256, sK500, sK700, sK798, sK912, sK1400, sK2000]; done) | (simp (discharger := omega) only [msk, clr_i, clr_r, cI, cN, ← nI_0, nI_ltI, nI_leI, nI_eq, nI_add, pk_mul, pk_sub, nI_clamp, vinI, not_true_eq_false, not_false_eq_true, iK0, iK1, iK2, iK3, iK4, iK5, iKm1, bK6, bK7, bK8, bK9, bK10, bK12, bK14, bK15, bK16, bK20, bK21, bK26, bK30, bK32, bK33, bK45, bK48, bK57, bK59, bK60, bK62, bK63, bK64, bK80, bK93, bK98, bK99, bK100, bK104, bK107, bK109, bK110, bK112, bK113, bK114, bK115, bK116, bK119, sK255, sK256, sK500, sK700, sK798, sK912, sK1400, sK2000]; rfl)) rfl rfl
  · rename_i g
    simp (discharger := omega) only [cN, nI_leI] at g
    rw [vinI (by omega)]; omega
  · rename_i g
    simp (discharger := omega) only [cN, nI_leI] at g
    exact AW.cg (ih _ (by omega) (k + 1) (by omega) (upd t k (nI 0)) (fun q hq => by
      unfold upd
      split
      · rfl
      · exact ht q (by omega)) rfl) rfl rfl rfl (by first | rfl | (simp (discharger := omega) only [msk, clr_i, clr_r, cI, cN, ← nI_0, nI_ltI, nI_leI, nI_eq, nI_add, pk_mul, pk_sub, nI_clamp, vinI, not_true_eq_false, not_false_eq_true, iK0, iK1, iK2, iK3, iK4, iK5, iKm1, bK6, bK7, bK8, bK9, bK10, bK12, bK14, bK15, bK16, bK20, bK21, bK26, bK30, bK32, bK33, bK45, bK48, bK57, bK59, bK60, bK62, bK63, bK64, bK80, bK93, bK98, bK99, bK100, bK104, bK107, bK109, bK110, bK112, bK113, bK114, bK115, bK116, bK119, sK255, sK256, sK500, sK700, sK798, sK912, sK1400, sK2000]; done) | (simp (discharger := omega) only [msk, clr_i, clr_r, cI, cN, ← nI_0, nI_ltI, nI_leI, nI_eq, nI_add, pk_mul, pk_sub, nI_clamp, vinI, not_true_eq_false, not_false_eq_true, iK0, iK1, iK2, iK3, iK4, iK5, iKm1, bK6, bK7, bK8, bK9, bK10, bK12, bK14, bK15, bK16, bK20, bK21, bK26, bK30, bK32, bK33, bK45, bK48, bK57, bK59, bK60, bK62, bK63, bK64, bK80, bK93, bK98, bK99, bK100, bK104, bK107, bK109, bK110, bK112, bK113, bK114, bK115, bK116, bK119, sK255, sK256, sK500, sK700, sK798, sK912, sK1400, sK2000]; rfl)) rfl (by rw [nI_clamp (by omega)]; rfl)
set_option maxRecDepth 20000 in
theorem hl_gather (hg : gOK G) (F : fT) (hF : fB F) (t : Nat → Int32) : Spec G 3 0 0 m_X1_gather [.ref 7, .ref 0] (hw F t) (fun v w' => v = none ∧ ∃ t', tld F t' F.B.1 ∧ w' = hw F t') NX := by
  refine wp_spec (M := M_X1_gather) hg ok_X1_gather (lkp [(2, [true, true, true, false]), (26, [true, true, true, false])]) 60 rfl rfl ?_
  repeat' (first | refine And.intro ?_ ?_ | (with_reducible intro h9; exact absurd h9 (by simp only [cI, cN]; decide +kernel)) | with_reducible intro _ | exact (rfl : narrow _ _ = _) | decide)
  exact AW.cg (hl_gather_l1 hg F hF (fun t' q => ⟨rfl, t', q, rfl⟩) _ 0 (by omega) t (fun _ h => by omega) rfl) rfl rfl rfl (by first | rfl | (simp (discharger := omega) only [msk, clr_i, clr_r, cI, cN, ← nI_0, nI_ltI, nI_leI, nI_eq, nI_add, pk_mul, pk_sub, nI_clamp, vinI, not_true_eq_false, not_false_eq_true, iK0, iK1, iK2, iK3, iK4, iK5, iKm1, bK6, bK7, bK8, bK9, bK10, bK12, bK14, bK15, bK16, bK20, bK21, bK26, bK30, bK32, bK33, bK45, bK48, bK57, bK59, bK60, bK62, bK63, bK64, bK80, bK93, bK98, bK99, bK100, bK104, bK107, bK109, bK110, bK112, bK113, bK114, bK115, bK116, bK119, sK255, sK256, sK500, sK700, sK798, sK912, sK1400, sK2000]; done) | (simp (discharger := omega) only [msk, clr_i, clr_r, cI, cN, ← nI_0, nI_ltI, nI_leI, nI_eq, nI_add, pk_mul, pk_sub, nI_clamp, vinI, not_true_eq_false, not_false_eq_true, iK0, iK1, iK2, iK3, iK4, iK5, iKm1, bK6, bK7, bK8, bK9, bK10, bK12, bK14, bK15, bK16, bK20, bK21, bK26, bK30, bK32, bK33, bK45, bK48, bK57, bK59, bK60, bK62, bK63, bK64, bK80, bK93, bK98, bK99, bK100, bK104, bK107, bK109, bK110, bK112, bK113, bK114, bK115, bK116, bK119, sK255, sK256, sK500, sK700, sK798, sK912, sK1400, sK2000]; rfl)) rfl rfl
/-- whether the row tells a note -/
abbrev tolds (t : Nat → Int32) (x : Int32) : Prop := ¬ x < nI 0 ∧ x < nI 113 ∧ t x.toNatClampNeg = nI 1
set_option maxRecDepth 20000 in
theorem hl_peal_l (hg : gOK G) (t : Nat → Int32) (ht : ∀ q, q < 113 → t q = nI 0 ∨ t q = nI 1) (x : Int32) {K : Option Value → xW → Prop} {KX : Nat → xW → Prop} (hK : ∀ s, isLd (fun j => tolds t (x + stepsF j)) s → K (some (.int (nI s))) (hl t)) : ∀ (c k : Nat) (hk : k ≤ 8) (hp : ∀ j, j < k → tolds t (x + stepsF j)) (hc9 : 8 - k = c),
    AW G M_X1_pealFrom 1 0 0 2 [some (.ref 0), some (.int x), some (.int (nI k)), none] [] (hl t) K KX := by
  intro c
  induction c using Nat.strongRecOn with | ind c ih => ?_
  intro k hk hp hc9
  refine wp_ok (M := M_X1_pealFrom) hg ok_X1_pealFrom (lkp [(2, [true, true, true, false])]) 60 _ _ _ _ _ _ ?_
  repeat' (first | refine And.intro ?_ ?_ | (with_reducible intro h9; exact absurd h9 (by simp only [cI, cN]; decide +kernel)) | with_reducible intro _ | exact (rfl : narrow _ _ = _) | decide)
  · rename_i g
    simp (discharger := omega) only [cI, nI_leI] at g
    exact hK 8 ⟨Nat.le_refl _, fun j hj => hp j (by omega), fun h => absurd h (by omega)⟩
  · rename_i g
    simp (discharger := omega) only [cN, nI_leI] at g
    rw [vinI (by omega)]; omega
  · rename_i g g2
    simp (discharger := omega) only [cI, cN, nI_leI, nI_clamp, ← nI_0] at g g2
    exact hK k ⟨hk, hp, fun _ z => z.1 g2⟩
  · rename_i g g2 g3
    simp (discharger := omega) only [cI, cN, nI_leI, nI_clamp, ← nI_0] at g g2 g3
    exact hK k ⟨hk, hp, fun _ z => absurd z.2.1 (Int32.not_lt.mpr g3)⟩
  · rename_i g g2 g3
    simp (discharger := omega) only [cN, nI_leI, nI_clamp, ← nI_0] at g g2 g3
    rw [nI_clamp (by omega)]
    rintro (z | z)
    · exact g2 (by rw [nI_0]; exact z)
    · obtain ⟨y, hy, e⟩ := nI_of (x := x + stepsF k) (by rw [← nI_0]; exact g2)
      rw [e, nI_leI (by omega) (by omega)] at g3
      rw [e, nI_clamp hy] at z
      omega
  · rename_i g g2 g3 g4
    simp (discharger := omega) only [cI, cN, nI_leI, nI_clamp, ← nI_0] at g g2 g3 g4
    refine AW.cg (ih _ (by omega) (k + 1) (by omega) (fun j hj => ?_) rfl) rfl rfl rfl (by first | rfl | (simp (discharger := omega) only [msk, clr_i, clr_r, cI, cN, ← nI_0, nI_ltI, nI_leI, nI_eq, nI_add, pk_mul, pk_sub, nI_clamp, vinI, not_true_eq_false, not_false_eq_true, iK0, iK1, iK2, iK3, iK4, iK5, iKm1, bK6, bK7, bK8, bK9, bK10, bK12, bK14, bK15, bK16, bK20, bK21, bK26, bK30, bK32, bK33, bK45, bK48, bK57, bK59, bK60, bK62, bK63, bK64, bK80, bK93, bK98, bK99, bK100, bK104, bK107, bK109, bK110, bK112, bK113, bK114, bK115, bK116, bK119, sK255, sK256, sK500, sK700, sK798, sK912, sK1400, sK2000]; done) | (simp (discharger := omega) only [msk, clr_i, clr_r, cI, cN, ← nI_0, nI_ltI, nI_leI, nI_eq, nI_add, pk_mul, pk_sub, nI_clamp, vinI, not_true_eq_false, not_false_eq_true, iK0, iK1, iK2, iK3, iK4, iK5, iKm1, bK6, bK7, bK8, bK9, bK10, bK12, bK14, bK15, bK16, bK20, bK21, bK26, bK30, bK32, bK33, bK45, bK48, bK57, bK59, bK60, bK62, bK63, bK64, bK80, bK93, bK98, bK99, bK100, bK104, bK107, bK109, bK110, bK112, bK113, bK114, bK115, bK116, bK119, sK255, sK256, sK500, sK700, sK798, sK912, sK1400, sK2000]; rfl)) rfl rfl
    rcases Nat.lt_or_ge j k with z | z
    · exact hp j z
    · have : j = k := by omega
      subst this
      obtain ⟨y, hy, e⟩ := nI_of (x := x + stepsF j) (by rw [← nI_0]; exact g2)
      rw [e, nI_leI (by omega) (by omega)] at g3
      refine ⟨g2, by rw [e, nI_ltI (by omega) (by omega)]; omega, ?_⟩
      rw [e, nI_clamp hy] at g4 ⊢
      rcases ht y (by omega) with q | q
      · exact absurd q g4
      · exact q
  · rename_i g g2 g3 g4
    simp (discharger := omega) only [cI, cN, nI_leI, nI_clamp, ← nI_0, Classical.not_not] at g g2 g3 g4
    refine hK k ⟨hk, hp, fun _ z => ?_⟩
    have := z.2.2
    rw [g4] at this
    exact absurd this (by decide)
set_option maxRecDepth 20000 in
theorem hl_peal (hg : gOK G) (t : Nat → Int32) (ht : ∀ q, q < 113 → t q = nI 0 ∨ t q = nI 1) (x : Int32) : Spec G 1 0 0 m_X1_pealFrom [.ref 0, .int x] (hl t) (fun v w' => (∃ s, isLd (fun j => tolds t (x + stepsF j)) s ∧ v = some (.int (nI s))) ∧ w' = hl t) NX := by
  refine wp_spec (M := M_X1_pealFrom) hg ok_X1_pealFrom (lkp [(2, [true, true, true, false])]) 60 rfl rfl ?_
  repeat' (first | refine And.intro ?_ ?_ | (with_reducible intro h9; exact absurd h9 (by simp only [cI, cN]; decide +kernel)) | with_reducible intro _ | exact (rfl : narrow _ _ = _) | decide)
  exact AW.cg (hl_peal_l hg t ht x (fun s q => ⟨⟨s, q, rfl⟩, rfl⟩) _ 0 (by omega) (fun _ h => by omega) rfl) rfl rfl rfl (by first | rfl | (simp (discharger := omega) only [msk, clr_i, clr_r, cI, cN, ← nI_0, nI_ltI, nI_leI, nI_eq, nI_add, pk_mul, pk_sub, nI_clamp, vinI, not_true_eq_false, not_false_eq_true, iK0, iK1, iK2, iK3, iK4, iK5, iKm1, bK6, bK7, bK8, bK9, bK10, bK12, bK14, bK15, bK16, bK20, bK21, bK26, bK30, bK32, bK33, bK45, bK48, bK57, bK59, bK60, bK62, bK63, bK64, bK80, bK93, bK98, bK99, bK100, bK104, bK107, bK109, bK110, bK112, bK113, bK114, bK115, bK116, bK119, sK255, sK256, sK500, sK700, sK798, sK912, sK1400, sK2000]; done) | (simp (discharger := omega) only [msk, clr_i, clr_r, cI, cN, ← nI_0, nI_ltI, nI_leI, nI_eq, nI_add, pk_mul, pk_sub, nI_clamp, vinI, not_true_eq_false, not_false_eq_true, iK0, iK1, iK2, iK3, iK4, iK5, iKm1, bK6, bK7, bK8, bK9, bK10, bK12, bK14, bK15, bK16, bK20, bK21, bK26, bK30, bK32, bK33, bK45, bK48, bK57, bK59, bK60, bK62, bK63, bK64, bK80, bK93, bK98, bK99, bK100, bK104, bK107, bK109, bK110, bK112, bK113, bK114, bK115, bK116, bK119, sK255, sK256, sK500, sK700, sK798, sK912, sK1400, sK2000]; rfl)) rfl rfl
theorem isLd_u {p : Nat → Prop} {a b : Nat} (h1 : isLd p a) (h2 : isLd p b) : a = b := by
  rcases Nat.lt_trichotomy a b with q | q | q
  · exact absurd (h2.2.1 a q) (h1.2.2 (by have := h2.1; omega))
  · exact q
  · exact absurd (h1.2.1 b q) (h2.2.2 (by have := h1.1; omega))
/-- the lowest note that begins a longest peal, of those up to k; ld x: how many notes from x -/
def isBst (ld : Nat → Nat → Prop) (k b : Nat) : Prop := b ≤ k ∧ ∃ m, ld b m ∧ ∀ x, x ≤ k → ∀ s, ld x s → s ≤ m ∧ (s = m → b ≤ x)
set_option maxRecDepth 20000 in
theorem hl_long_l (hg : gOK G) (t : Nat → Int32) (ht : ∀ q, q < 113 → t q = nI 0 ∨ t q = nI 1) {K : Option Value → xW → Prop} {KX : Nat → xW → Prop} (hK : ∀ b, isBst (fun x s => isLd (fun j => tolds t (nI x + stepsF j)) s) 100 b → K (some (.int (nI b))) (hl t)) : ∀ (c k : Nat) (hk : k ≤ 101) (hk0 : 1 ≤ k) (b : Nat) (hb : isBst (fun x s => isLd (fun j => tolds t (nI x + stepsF j)) s) (k - 1) b) (hc9 : 101 - k = c),
    AW G M_X1_startOfLongest 2 0 0 4 [some (.ref 0), some (.int (nI b)), some (.int (nI k))] [] (hl t) K KX := by
  intro c
  induction c using Nat.strongRecOn with | ind c ih => ?_
  intro k hk hk0 b hb hc9
  have hb1 := hb.1
  refine wp_ok (M := M_X1_startOfLongest) hg ok_X1_startOfLongest (lkp [(4, [true, true, true])]) 60 _ _ _ _ _ _ ?_
  repeat' (first | refine And.intro ?_ ?_ | (with_reducible intro h9; exact absurd h9 (by simp only [cI, cN]; decide +kernel)) | with_reducible intro _ | exact (rfl : narrow _ _ = _) | decide)
  · rename_i g
    simp (discharger := omega) only [cI, bK100, nI_ltI] at g
    have : k = 101 := by omega
    subst this
    exact hK b hb
  · rename_i g
    simp (discharger := omega) only [cN, bK100, nI_ltI] at g
    refine cc0 [0, 1] (hl_peal hg t ht (nI k)) (by decide) (by decide) (by decide) rfl (by repeat' (first | exact trivial | refine And.intro ?_ ?_ | rfl)) (by first | rfl | (simp (discharger := omega) only [renVs, renV, rnI, cI, cN, ← nI_0, nI_ltI, nI_leI, nI_eq, nI_add, pk_mul, pk_sub, nI_clamp, vinI, not_true_eq_false, not_false_eq_true, iK0, iK1, iK2, iK3, iK4, iK5, iKm1, bK6, bK7, bK8, bK9, bK10, bK12, bK14, bK15, bK16, bK20, bK21, bK26, bK30, bK32, bK33, bK45, bK48, bK57, bK59, bK60, bK62, bK63, bK64, bK80, bK93, bK98, bK99, bK100, bK104, bK107, bK109, bK110, bK112, bK113, bK114, bK115, bK116, bK119, sK255, sK256, sK500, sK700, sK798, sK912, sK1400, sK2000])) ?_
    (rintro _ _ ⟨⟨s1, q1, rfl⟩, rfl⟩) <;> (repeat' (first | refine And.intro ?_ ?_ | (with_reducible intro h9; exact absurd h9 (by simp only [cI, cN]; decide +kernel)) | with_reducible intro _ | exact (rfl : narrow _ _ = _) | decide))
    refine cc0 [0, 1] (hl_peal hg t ht (nI b)) (by decide) (by decide) (by decide) rfl (by repeat' (first | exact trivial | refine And.intro ?_ ?_ | rfl)) (by first | rfl | (simp (discharger := omega) only [renVs, renV, rnI, cI, cN, ← nI_0, nI_ltI, nI_leI, nI_eq, nI_add, pk_mul, pk_sub, nI_clamp, vinI, not_true_eq_false, not_false_eq_true, iK0, iK1, iK2, iK3, iK4, iK5, iKm1, bK6, bK7, bK8, bK9, bK10, bK12, bK14, bK15, bK16, bK20, bK21, bK26, bK30, bK32, bK33, bK45, bK48, bK57, bK59, bK60, bK62, bK63, bK64, bK80, bK93, bK98, bK99, bK100, bK104, bK107, bK109, bK110, bK112, bK113, bK114, bK115, bK116, bK119, sK255, sK256, sK500, sK700, sK798, sK912, sK1400, sK2000])) ?_
    (rintro _ _ ⟨⟨s2, q2, rfl⟩, rfl⟩) <;> (repeat' (first | refine And.intro ?_ ?_ | (with_reducible intro h9; exact absurd h9 (by simp only [cI, cN]; decide +kernel)) | with_reducible intro _ | exact (rfl : narrow _ _ = _) | decide))
    · rename_i g2
      have l1 := q1.1
      have l2 := q2.1
      simp (discharger := omega) only [cI, nI_leI] at g2
      refine AW.cg (ih _ (by omega) (k + 1) (by omega) (by omega) b ⟨by omega, ?_⟩ rfl) rfl rfl rfl (by first | rfl | (simp (discharger := omega) only [msk, clr_i, clr_r, cI, cN, ← nI_0, nI_ltI, nI_leI, nI_eq, nI_add, pk_mul, pk_sub, nI_clamp, vinI, not_true_eq_false, not_false_eq_true, iK0, iK1, iK2, iK3, iK4, iK5, iKm1, bK6, bK7, bK8, bK9, bK10, bK12, bK14, bK15, bK16, bK20, bK21, bK26, bK30, bK32, bK33, bK45, bK48, bK57, bK59, bK60, bK62, bK63, bK64, bK80, bK93, bK98, bK99, bK100, bK104, bK107, bK109, bK110, bK112, bK113, bK114, bK115, bK116, bK119, sK255, sK256, sK500, sK700, sK798, sK912, sK1400, sK2000]; done) | (simp (discharger := omega) only [msk, clr_i, clr_r, cI, cN, ← nI_0, nI_ltI, nI_leI, nI_eq, nI_add, pk_mul, pk_sub, nI_clamp, vinI, not_true_eq_false, not_false_eq_true, iK0, iK1, iK2, iK3, iK4, iK5, iKm1, bK6, bK7, bK8, bK9, bK10, bK12, bK14, bK15, bK16, bK20, bK21, bK26, bK30, bK32, bK33, bK45, bK48, bK57, bK59, bK60, bK62, bK63, bK64, bK80, bK93, bK98, bK99, bK100, bK104, bK107, bK109, bK110, bK112, bK113, bK114, bK115, bK116, bK119, sK255, sK256, sK500, sK700, sK798, sK912, sK1400, sK2000]; rfl)) rfl rfl
      obtain ⟨m, hm, hx⟩ := hb.2
      have := isLd_u hm q2
      subst this
      refine ⟨m, hm, fun x hxk s hs => ?_⟩
      rcases Nat.lt_or_ge x k with z | z
      · exact hx x (by omega) s hs
      · have : x = k := by omega
        subst this
        have := isLd_u hs q1
        omega
    · rename_i g2
      have l1 := q1.1
      have l2 := q2.1
      simp (discharger := omega) only [cN, nI_leI] at g2
      refine AW.cg (ih _ (by omega) (k + 1) (by omega) (by omega) k ⟨by omega, ?_⟩ rfl) rfl rfl rfl (by first | rfl | (simp (discharger := omega) only [msk, clr_i, clr_r, cI, cN, ← nI_0, nI_ltI, nI_leI, nI_eq, nI_add, pk_mul, pk_sub, nI_clamp, vinI, not_true_eq_false, not_false_eq_true, iK0, iK1, iK2, iK3, iK4, iK5, iKm1, bK6, bK7, bK8, bK9, bK10, bK12, bK14, bK15, bK16, bK20, bK21, bK26, bK30, bK32, bK33, bK45, bK48, bK57, bK59, bK60, bK62, bK63, bK64, bK80, bK93, bK98, bK99, bK100, bK104, bK107, bK109, bK110, bK112, bK113, bK114, bK115, bK116, bK119, sK255, sK256, sK500, sK700, sK798, sK912, sK1400, sK2000]; done) | (simp (discharger := omega) only [msk, clr_i, clr_r, cI, cN, ← nI_0, nI_ltI, nI_leI, nI_eq, nI_add, pk_mul, pk_sub, nI_clamp, vinI, not_true_eq_false, not_false_eq_true, iK0, iK1, iK2, iK3, iK4, iK5, iKm1, bK6, bK7, bK8, bK9, bK10, bK12, bK14, bK15, bK16, bK20, bK21, bK26, bK30, bK32, bK33, bK45, bK48, bK57, bK59, bK60, bK62, bK63, bK64, bK80, bK93, bK98, bK99, bK100, bK104, bK107, bK109, bK110, bK112, bK113, bK114, bK115, bK116, bK119, sK255, sK256, sK500, sK700, sK798, sK912, sK1400, sK2000]; rfl)) rfl rfl
      obtain ⟨m, hm, hx⟩ := hb.2
      have := isLd_u hm q2
      subst this
      refine ⟨s1, q1, fun x hxk s hs => ?_⟩
      rcases Nat.lt_or_ge x k with z | z
      · have := (hx x (by omega) s hs).1
        omega
      · have : x = k := by omega
        subst this
        have := isLd_u hs q1
        omega
set_option maxRecDepth 20000 in
theorem hl_long (hg : gOK G) (t : Nat → Int32) (ht : ∀ q, q < 113 → t q = nI 0 ∨ t q = nI 1) (h0 : ∃ m, isLd (fun j => tolds t (nI 0 + stepsF j)) m) : Spec G 2 0 0 m_X1_startOfLongest [.ref 0] (hl t) (fun v w' => (∃ b, isBst (fun x s => isLd (fun j => tolds t (nI x + stepsF j)) s) 100 b ∧ v = some (.int (nI b))) ∧ w' = hl t) NX := by
  refine wp_spec (M := M_X1_startOfLongest) hg ok_X1_startOfLongest (lkp [(4, [true, true, true])]) 60 rfl rfl ?_
  repeat' (first | refine And.intro ?_ ?_ | (with_reducible intro h9; exact absurd h9 (by simp only [cI, cN]; decide +kernel)) | with_reducible intro _ | exact (rfl : narrow _ _ = _) | decide)
  obtain ⟨m, hm⟩ := h0
  exact AW.cg (hl_long_l hg t ht (fun b q => ⟨⟨b, q, rfl⟩, rfl⟩) _ 1 (by omega) (by omega) 0 ⟨by omega, m, hm, fun x hx s hs => by
    have : x = 0 := by omega
    subst this
    have := isLd_u hs hm
    omega⟩ rfl) rfl rfl rfl (by first | rfl | (simp (discharger := omega) only [msk, clr_i, clr_r, cI, cN, ← nI_0, nI_ltI, nI_leI, nI_eq, nI_add, pk_mul, pk_sub, nI_clamp, vinI, not_true_eq_false, not_false_eq_true, iK0, iK1, iK2, iK3, iK4, iK5, iKm1, bK6, bK7, bK8, bK9, bK10, bK12, bK14, bK15, bK16, bK20, bK21, bK26, bK30, bK32, bK33, bK45, bK48, bK57, bK59, bK60, bK62, bK63, bK64, bK80, bK93, bK98, bK99, bK100, bK104, bK107, bK109, bK110, bK112, bK113, bK114, bK115, bK116, bK119, sK255, sK256, sK500, sK700, sK798, sK912, sK1400, sK2000]; done) | (simp (discharger := omega) only [msk, clr_i, clr_r, cI, cN, ← nI_0, nI_ltI, nI_leI, nI_eq, nI_add, pk_mul, pk_sub, nI_clamp, vinI, not_true_eq_false, not_false_eq_true, iK0, iK1, iK2, iK3, iK4, iK5, iKm1, bK6, bK7, bK8, bK9, bK10, bK12, bK14, bK15, bK16, bK20, bK21, bK26, bK30, bK32, bK33, bK45, bK48, bK57, bK59, bK60, bK62, bK63, bK64, bK80, bK93, bK98, bK99, bK100, bK104, bK107, bK109, bK110, bK112, bK113, bK114, bK115, bK116, bK119, sK255, sK256, sK500, sK700, sK798, sK912, sK1400, sK2000]; rfl)) rfl rfl
end HH
