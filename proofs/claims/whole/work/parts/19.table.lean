/-! ===== Table ===== -/
def tw (R W n : Nat) (f : Nat → Int32) : xW := [.inr (9, [.int (nI R), .int (nI W), .ref 1, .int (nI n)]), .inl (0, R * W, .inl f)]
section TT
variable {G : gT}
theorem tb_size (hg : gOK G) (R W n : Nat) (f : Nat → Int32) : Spec G 1 0 0 m_X6_size [.ref 0] (tw R W n f) (fun v w' => v = some (.int (nI n)) ∧ w' = tw R W n f) NX := by
  refine wp_spec (M := M_X6_size) hg ok_X6_size cut0 60 rfl rfl ?_
  repeat' (first | refine And.intro ?_ ?_ | with_reducible intro _)
  all_goals rfl
theorem tb_has (hg : gOK G) (R W n : Nat) (f : Nat → Int32) (x : Int32) (hn : n ≤ 2000) : Spec G 1 0 0 m_X6_has [.ref 0, .int x] (tw R W n f) (fun v w' => ((v = some (.int 1) ∧ hasP x n) ∨ (v = some (.int 0) ∧ ¬ hasP x n)) ∧ w' = tw R W n f) NX := by
  refine wp_spec (M := M_X6_has) hg ok_X6_has cut0 60 rfl rfl ?_
  repeat' (first | refine And.intro ?_ ?_ | with_reducible intro _)
  all_goals first
    | rfl
    | exact Or.inr ⟨rfl, hasP_no1 (by assumption) (by omega)⟩
    | exact Or.inr ⟨rfl, hasP_no2 (by assumption) (by omega)⟩
    | exact Or.inl ⟨rfl, hasP_of (by assumption) (Int32.not_le.mp (by assumption)) (by omega)⟩
theorem tb_get (hg : gOK G) (R W n i j : Nat) (f : Nat → Int32) (hn : n ≤ R) (hi : i < n) (hj : j < W) (hRW : R * W ≤ 2000) (hR : R ≤ 2000) (hW : W ≤ 2000) : Spec G 1 0 0 m_X6_get [.ref 0, .int (nI i), .int (nI j)] (tw R W n f) (fun v w' => v = some (.int (f (i * W + j))) ∧ w' = tw R W n f) NX := by
  have h1 := rc_lt (Nat.lt_of_lt_of_le hi hn) hj
  refine wp_spec (M := M_X6_get) hg ok_X6_get cut0 60 rfl rfl ?_
  repeat' (first | refine And.intro ?_ ?_ | with_reducible intro _)
  all_goals (try simp (discharger := omega) only [cI, cN, ← nI_0, nI_ltI, nI_leI, nI_eq, nI_add, pk_mul, pk_sub, nI_clamp, vinI, iK0, iK1, iK2, iK3, iK4, iK5, iKm1, bK6, bK7, bK8, bK9, bK10, bK12, bK14, bK15, bK16, bK20, bK21, bK26, bK30, bK32, bK33, bK45, bK48, bK57, bK59, bK60, bK62, bK63, bK64, bK80, bK93, bK98, bK99, bK100, bK104, bK107, bK109, bK110, bK112, bK113, bK114, bK115, bK116, bK119, sK255, sK256, sK500, sK700, sK798, sK912, sK1400, sK2000] at *)
  all_goals first | rfl | omega
theorem tb_put (hg : gOK G) (R W n i j : Nat) (f : Nat → Int32) (x : Int32) (hn : n ≤ R) (hi : i < n) (hj : j < W) (hRW : R * W ≤ 2000) (hR : R ≤ 2000) (hW : W ≤ 2000) : Spec G 1 0 0 m_X6_put [.ref 0, .int (nI i), .int (nI j), .int x] (tw R W n f) (fun v w' => v = none ∧ w' = tw R W n (upd f (i * W + j) x)) NX := by
  have h1 := rc_lt (Nat.lt_of_lt_of_le hi hn) hj
  refine wp_spec (M := M_X6_put) hg ok_X6_put cut0 60 rfl rfl ?_
  repeat' (first | refine And.intro ?_ ?_ | with_reducible intro _)
  all_goals (try simp (discharger := omega) only [cI, cN, ← nI_0, nI_ltI, nI_leI, nI_eq, nI_add, pk_mul, pk_sub, nI_clamp, vinI, iK0, iK1, iK2, iK3, iK4, iK5, iKm1, bK6, bK7, bK8, bK9, bK10, bK12, bK14, bK15, bK16, bK20, bK21, bK26, bK30, bK32, bK33, bK45, bK48, bK57, bK59, bK60, bK62, bK63, bK64, bK80, bK93, bK98, bK99, bK100, bK104, bK107, bK109, bK110, bK112, bK113, bK114, bK115, bK116, bK119, sK255, sK256, sK500, sK700, sK798, sK912, sK1400, sK2000] at *)
  all_goals first | rfl | omega | (unfold tw; simp (discharger := omega) only [nI_clamp])
end TT
