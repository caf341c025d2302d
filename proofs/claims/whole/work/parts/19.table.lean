/-! ===== Table ===== -/
theorem Kcg {K : Option Value → xW → Prop} {v v' : Option Value} {w w' : xW} (h : K v w) (h1 : v = v') (h2 : w = w') : K v' w' := h1 ▸ h2 ▸ h
/-! changes of arrays, exact -/
def zer (f : Nat → Int32) (a b : Nat) : Nat → Int32 := fun q => if a ≤ q ∧ q < b then nI 0 else f q
def shf (f : Nat → Int32) (a b s : Nat) : Nat → Int32 := fun q => if a ≤ q ∧ q < b then f (q + s) else f q
def cpf (f f2 : Nat → Int32) (b : Nat) : Nat → Int32 := fun q => if q < b then f2 q else f q
theorem zer_0 {f : Nat → Int32} {a : Nat} : zer f a a = f := funext fun q => if_neg (by omega)
theorem shf_0 {f : Nat → Int32} {a s : Nat} : shf f a a s = f := funext fun q => if_neg (by omega)
theorem cpf_0 {f f2 : Nat → Int32} : cpf f f2 0 = f := funext fun q => if_neg (by omega)
theorem zer_s {f : Nat → Int32} {a k : Nat} (h : a ≤ k) : upd (zer f a k) k (nI 0) = zer f a (k + 1) := funext fun q => by
  unfold upd zer
  by_cases hq : q = k
  · subst hq; rw [if_pos rfl, if_pos (by omega)]
  · rw [if_neg hq]
    by_cases h2 : a ≤ q ∧ q < k
    · rw [if_pos h2, if_pos (by omega)]
    · rw [if_neg h2, if_neg (by omega)]
theorem shf_at {f : Nat → Int32} {a k s : Nat} : shf f a k s (k + s) = f (k + s) := if_neg (by omega)
theorem shf_s {f : Nat → Int32} {a k s : Nat} (h : a ≤ k) : upd (shf f a k s) k (f (k + s)) = shf f a (k + 1) s := funext fun q => by
  unfold upd shf
  by_cases hq : q = k
  · subst hq; rw [if_pos rfl, if_pos (by omega)]
  · rw [if_neg hq]
    by_cases h2 : a ≤ q ∧ q < k
    · rw [if_pos h2, if_pos (by omega)]
    · rw [if_neg h2, if_neg (by omega)]
theorem cpf_s {f f2 : Nat → Int32} {k : Nat} : upd (cpf f f2 k) k (f2 k) = cpf f f2 (k + 1) := funext fun q => by
  unfold upd cpf
  by_cases hq : q = k
  · subst hq; rw [if_pos rfl, if_pos (by omega)]
  · rw [if_neg hq]
    by_cases h2 : q < k
    · rw [if_pos h2, if_pos (by omega)]
    · rw [if_neg h2, if_neg (by omega)]
def tw (R W n : Nat) (f : Nat → Int32) : xW := [.inr (9, [.int (nI R), .int (nI W), .ref 1, .int (nI n)]), .inl (0, R * W, .inl f)]
section TT
variable {G : gT}
set_option maxRecDepth 20000 in
theorem tb_size (hg : gOK G) (R W n : Nat) (f : Nat → Int32) : Spec G 1 0 0 m_X6_size [.ref 0] (tw R W n f) (fun v w' => v = some (.int (nI n)) ∧ w' = tw R W n f) NX := by
  refine wp_spec (M := M_X6_size) hg ok_X6_size cut0 60 rfl rfl ?_
  repeat' (first | refine And.intro ?_ ?_ | (with_reducible intro h9; exact absurd h9 (by simp only [cI, cN]; decide +kernel)) | with_reducible intro _ | exact (rfl : narrow _ _ = _) | decide)
  all_goals rfl
set_option maxRecDepth 20000 in
theorem tb_has (hg : gOK G) (R W n : Nat) (f : Nat → Int32) (x : Int32) (hn : n ≤ 2000) : Spec G 1 0 0 m_X6_has [.ref 0, .int x] (tw R W n f) (fun v w' => ((v = some (.int 1) ∧ hasP x n) ∨ (v = some (.int 0) ∧ ¬ hasP x n)) ∧ w' = tw R W n f) NX := by
  refine wp_spec (M := M_X6_has) hg ok_X6_has cut0 60 rfl rfl ?_
  repeat' (first | refine And.intro ?_ ?_ | (with_reducible intro h9; exact absurd h9 (by simp only [cI, cN]; decide +kernel)) | with_reducible intro _ | exact (rfl : narrow _ _ = _) | decide)
  all_goals first
    | rfl
    | exact Or.inr ⟨rfl, hasP_no1 (by assumption) (by omega)⟩
    | exact Or.inr ⟨rfl, hasP_no2 (by assumption) (by omega)⟩
    | exact Or.inl ⟨rfl, hasP_of (by assumption) (Int32.not_le.mp (by assumption)) (by omega)⟩
set_option maxRecDepth 20000 in
theorem tb_get (hg : gOK G) (R W n i j : Nat) (f : Nat → Int32) (hn : n ≤ R) (hi : i < n) (hj : j < W) (hRW : R * W ≤ 2000) (hR : R ≤ 2000) (hW : W ≤ 2000) : Spec G 1 0 0 m_X6_get [.ref 0, .int (nI i), .int (nI j)] (tw R W n f) (fun v w' => v = some (.int (f (i * W + j))) ∧ w' = tw R W n f) NX := by
  have h1 := rc_lt (Nat.lt_of_lt_of_le hi hn) hj
  refine wp_spec (M := M_X6_get) hg ok_X6_get cut0 60 rfl rfl ?_
  repeat' (first | refine And.intro ?_ ?_ | (with_reducible intro h9; exact absurd h9 (by simp only [cI, cN]; decide +kernel)) | with_reducible intro _ | exact (rfl : narrow _ _ = _) | decide)
  all_goals ((try simp (discharger := omega) only [cI, cN, ← nI_0, nI_ltI, nI_leI, nI_eq, nI_add, pk_mul, pk_sub, nI_clamp, vinI, not_true_eq_false, not_false_eq_true, iK0, iK1, iK2, iK3, iK4, iK5, iKm1, bK6, bK7, bK8, bK9, bK10, bK12, bK14, bK15, bK16, bK20, bK21, bK26, bK30, bK32, bK33, bK45, bK48, bK57, bK59, bK60, bK62, bK63, bK64, bK80, bK93, bK98, bK99, bK100, bK104, bK107, bK109, bK110, bK112, bK113, bK114, bK115, bK116, bK119, sK255, sK256, sK500, sK700, sK798, sK912, sK1400, sK2000] at *) <;> (try simp (discharger := omega) only [cI, cN, ← nI_0, nI_ltI, nI_leI, nI_eq, nI_add, pk_mul, pk_sub, nI_clamp, vinI, not_true_eq_false, not_false_eq_true, iK0, iK1, iK2, iK3, iK4, iK5, iKm1, bK6, bK7, bK8, bK9, bK10, bK12, bK14, bK15, bK16, bK20, bK21, bK26, bK30, bK32, bK33, bK45, bK48, bK57, bK59, bK60, bK62, bK63, bK64, bK80, bK93, bK98, bK99, bK100, bK104, bK107, bK109, bK110, bK112, bK113, bK114, bK115, bK116, bK119, sK255, sK256, sK500, sK700, sK798, sK912, sK1400, sK2000] at *))
  all_goals first | rfl | omega
set_option maxRecDepth 20000 in
theorem tb_put (hg : gOK G) (R W n i j : Nat) (f : Nat → Int32) (x : Int32) (hn : n ≤ R) (hi : i < n) (hj : j < W) (hRW : R * W ≤ 2000) (hR : R ≤ 2000) (hW : W ≤ 2000) : Spec G 1 0 0 m_X6_put [.ref 0, .int (nI i), .int (nI j), .int x] (tw R W n f) (fun v w' => v = none ∧ w' = tw R W n (upd f (i * W + j) x)) NX := by
  have h1 := rc_lt (Nat.lt_of_lt_of_le hi hn) hj
  refine wp_spec (M := M_X6_put) hg ok_X6_put cut0 60 rfl rfl ?_
  repeat' (first | refine And.intro ?_ ?_ | (with_reducible intro h9; exact absurd h9 (by simp only [cI, cN]; decide +kernel)) | with_reducible intro _ | exact (rfl : narrow _ _ = _) | decide)
  all_goals ((try simp (discharger := omega) only [cI, cN, ← nI_0, nI_ltI, nI_leI, nI_eq, nI_add, pk_mul, pk_sub, nI_clamp, vinI, not_true_eq_false, not_false_eq_true, iK0, iK1, iK2, iK3, iK4, iK5, iKm1, bK6, bK7, bK8, bK9, bK10, bK12, bK14, bK15, bK16, bK20, bK21, bK26, bK30, bK32, bK33, bK45, bK48, bK57, bK59, bK60, bK62, bK63, bK64, bK80, bK93, bK98, bK99, bK100, bK104, bK107, bK109, bK110, bK112, bK113, bK114, bK115, bK116, bK119, sK255, sK256, sK500, sK700, sK798, sK912, sK1400, sK2000] at *) <;> (try simp (discharger := omega) only [cI, cN, ← nI_0, nI_ltI, nI_leI, nI_eq, nI_add, pk_mul, pk_sub, nI_clamp, vinI, not_true_eq_false, not_false_eq_true, iK0, iK1, iK2, iK3, iK4, iK5, iKm1, bK6, bK7, bK8, bK9, bK10, bK12, bK14, bK15, bK16, bK20, bK21, bK26, bK30, bK32, bK33, bK45, bK48, bK57, bK59, bK60, bK62, bK63, bK64, bK80, bK93, bK98, bK99, bK100, bK104, bK107, bK109, bK110, bK112, bK113, bK114, bK115, bK116, bK119, sK255, sK256, sK500, sK700, sK798, sK912, sK1400, sK2000] at *))
  all_goals first | rfl | omega | (unfold tw; simp (discharger := omega) only [nI_clamp])
set_option maxRecDepth 20000 in
theorem tb_raise (hg : gOK G) (R W n i j : Nat) (f : Nat → Int32) (x : Int32) (hn : n ≤ R) (hi : i < n) (hj : j < W) (hRW : R * W ≤ 2000) (hR : R ≤ 2000) (hW : W ≤ 2000) : Spec G 2 0 0 m_X6_raise [.ref 0, .int (nI i), .int (nI j), .int x] (tw R W n f) (fun v w' => v = none ∧ w' = tw R W n (upd f (i * W + j) (f (i * W + j) + x))) NX := by
  refine wp_spec (M := M_X6_raise) hg ok_X6_raise cut0 60 rfl rfl ?_
  repeat' (first | refine And.intro ?_ ?_ | (with_reducible intro h9; exact absurd h9 (by simp only [cI, cN]; decide +kernel)) | with_reducible intro _ | exact (rfl : narrow _ _ = _) | decide)
  refine cc0 [0, 1] (tb_get hg R W n i j f hn hi hj hRW hR hW) (by decide) (by decide) (by decide) rfl (by repeat' (first | exact trivial | refine And.intro ?_ ?_ | rfl)) (by first | rfl | (simp (discharger := omega) only [renVs, renV, rnI, cI, cN, ← nI_0, nI_ltI, nI_leI, nI_eq, nI_add, pk_mul, pk_sub, nI_clamp, vinI, not_true_eq_false, not_false_eq_true, iK0, iK1, iK2, iK3, iK4, iK5, iKm1, bK6, bK7, bK8, bK9, bK10, bK12, bK14, bK15, bK16, bK20, bK21, bK26, bK30, bK32, bK33, bK45, bK48, bK57, bK59, bK60, bK62, bK63, bK64, bK80, bK93, bK98, bK99, bK100, bK104, bK107, bK109, bK110, bK112, bK113, bK114, bK115, bK116, bK119, sK255, sK256, sK500, sK700, sK798, sK912, sK1400, sK2000])) ?_
  rintro _ _ ⟨rfl, rfl⟩
  repeat' (first | refine And.intro ?_ ?_ | (with_reducible intro h9; exact absurd h9 (by simp only [cI, cN]; decide +kernel)) | with_reducible intro _ | exact (rfl : narrow _ _ = _) | decide)
  refine cc0 [0, 1] (tb_put hg R W n i j f _ hn hi hj hRW hR hW) (by decide) (by decide) (by decide) rfl (by repeat' (first | exact trivial | refine And.intro ?_ ?_ | rfl)) (by first | rfl | (simp (discharger := omega) only [renVs, renV, rnI, cI, cN, ← nI_0, nI_ltI, nI_leI, nI_eq, nI_add, pk_mul, pk_sub, nI_clamp, vinI, not_true_eq_false, not_false_eq_true, iK0, iK1, iK2, iK3, iK4, iK5, iKm1, bK6, bK7, bK8, bK9, bK10, bK12, bK14, bK15, bK16, bK20, bK21, bK26, bK30, bK32, bK33, bK45, bK48, bK57, bK59, bK60, bK62, bK63, bK64, bK80, bK93, bK98, bK99, bK100, bK104, bK107, bK109, bK110, bK112, bK113, bK114, bK115, bK116, bK119, sK255, sK256, sK500, sK700, sK798, sK912, sK1400, sK2000])) ?_
  rintro _ _ ⟨rfl, rfl⟩
  repeat' (first | refine And.intro ?_ ?_ | (with_reducible intro h9; exact absurd h9 (by simp only [cI, cN]; decide +kernel)) | with_reducible intro _ | exact (rfl : narrow _ _ = _) | decide)
  all_goals rfl
set_option maxRecDepth 20000 in
theorem tb_clear (hg : gOK G) (R W n : Nat) (f : Nat → Int32) : Spec G 1 0 0 m_X6_clear [.ref 0] (tw R W n f) (fun v w' => v = none ∧ w' = tw R W 0 f) NX := by
  refine wp_spec (M := M_X6_clear) hg ok_X6_clear cut0 60 rfl rfl ?_
  repeat' (first | refine And.intro ?_ ?_ | (with_reducible intro h9; exact absurd h9 (by simp only [cI, cN]; decide +kernel)) | with_reducible intro _ | exact (rfl : narrow _ _ = _) | decide)
  all_goals rfl
/-! loops -/
def cnt (p : Nat → Bool) : Nat → Nat
  | 0 => 0
  | n + 1 => cnt p n + (if p n = true then 1 else 0)
theorem cnt_t {p : Nat → Bool} {n : Nat} (h : p n = true) : cnt p (n + 1) = cnt p n + 1 := by simp [cnt, h]
theorem cnt_f {p : Nat → Bool} {n : Nat} (h : ¬ p n = true) : cnt p (n + 1) = cnt p n := by simp [cnt, h]
theorem cnt_le (p : Nat → Bool) : ∀ n, cnt p n ≤ n
  | 0 => Nat.le_refl _
  | n + 1 => by
    have := cnt_le p n
    unfold cnt
    split <;> omega
def isum (f : Nat → Int32) : Nat → Int32
  | 0 => 0
  | n + 1 => isum f n + f n
set_option maxRecDepth 20000 in
theorem tb_count_l (hg : gOK G) (R W n j : Nat) (f : Nat → Int32) (x : Int32) (hn : n ≤ R) (hj : j < W) (hRW : R * W ≤ 2000) (hR : R ≤ 2000) (hW : W ≤ 2000) {K : Option Value → xW → Prop} {KX : Nat → xW → Prop} (hK : K (some (.int (nI (cnt (fun i => decide (f (i * W + j) = x)) n)))) (tw R W n f)) : ∀ (c : Nat) (i : Nat) (hi : i ≤ n) (hc9 : n - i = c),
    AW G M_X6_countOf 1 0 0 19 [some (.ref 0), some (.int (nI j)), some (.int x), some (.int (nI (cnt (fun i => decide (f (i * W + j) = x)) i))), some (.int (nI i))] [] (tw R W n f) K KX := by
  intro c
  induction c using Nat.strongRecOn with | ind c ih => ?_
  intro i hi hc9
  have hc := cnt_le (fun i => decide (f (i * W + j) = x)) i
  have h1 : i < n → i * W + j < R * W := fun h => rc_lt (Nat.lt_of_lt_of_le h hn) hj
  refine wp_ok (M := M_X6_countOf) hg ok_X6_countOf (lkp [(19, [true, true, true, true, true])]) 60 _ _ _ _ _ _ ?_
  repeat' (first | refine And.intro ?_ ?_ | (with_reducible intro h9; exact absurd h9 (by simp only [cI, cN]; decide +kernel)) | with_reducible intro _ | exact (rfl : narrow _ _ = _) | decide)
  all_goals ((try simp (discharger := omega) only [cI, cN, ← nI_0, nI_ltI, nI_leI, nI_eq, nI_add, pk_mul, pk_sub, nI_clamp, vinI, not_true_eq_false, not_false_eq_true, iK0, iK1, iK2, iK3, iK4, iK5, iKm1, bK6, bK7, bK8, bK9, bK10, bK12, bK14, bK15, bK16, bK20, bK21, bK26, bK30, bK32, bK33, bK45, bK48, bK57, bK59, bK60, bK62, bK63, bK64, bK80, bK93, bK98, bK99, bK100, bK104, bK107, bK109, bK110, bK112, bK113, bK114, bK115, bK116, bK119, sK255, sK256, sK500, sK700, sK798, sK912, sK1400, sK2000] at *) <;> (try simp (discharger := omega) only [cI, cN, ← nI_0, nI_ltI, nI_leI, nI_eq, nI_add, pk_mul, pk_sub, nI_clamp, vinI, not_true_eq_false, not_false_eq_true, iK0, iK1, iK2, iK3, iK4, iK5, iKm1, bK6, bK7, bK8, bK9, bK10, bK12, bK14, bK15, bK16, bK20, bK21, bK26, bK30, bK32, bK33, bK45, bK48, bK57, bK59, bK60, bK62, bK63, bK64, bK80, bK93, bK98, bK99, bK100, bK104, bK107, bK109, bK110, bK112, bK113, bK114, bK115, bK116, bK119, sK255, sK256, sK500, sK700, sK798, sK912, sK1400, sK2000] at *))
  all_goals try omega
  · have : i = n := by omega
    subst this
    exact hK
  · rename_i h
    exact AW.cg (ih _ (by omega) (i + 1) (by omega) rfl) rfl rfl rfl (by first | rfl | (simp (discharger := omega) only [msk, clr_i, clr_r, cnt_f (p := fun i => decide (f (i * W + j) = x)) (n := i) (by simpa using h), cI, cN, ← nI_0, nI_ltI, nI_leI, nI_eq, nI_add, pk_mul, pk_sub, nI_clamp, vinI, not_true_eq_false, not_false_eq_true, iK0, iK1, iK2, iK3, iK4, iK5, iKm1, bK6, bK7, bK8, bK9, bK10, bK12, bK14, bK15, bK16, bK20, bK21, bK26, bK30, bK32, bK33, bK45, bK48, bK57, bK59, bK60, bK62, bK63, bK64, bK80, bK93, bK98, bK99, bK100, bK104, bK107, bK109, bK110, bK112, bK113, bK114, bK115, bK116, bK119, sK255, sK256, sK500, sK700, sK798, sK912, sK1400, sK2000]; done) | (simp (discharger := omega) only [msk, clr_i, clr_r, cnt_f (p := fun i => decide (f (i * W + j) = x)) (n := i) (by simpa using h), cI, cN, ← nI_0, nI_ltI, nI_leI, nI_eq, nI_add, pk_mul, pk_sub, nI_clamp, vinI, not_true_eq_false, not_false_eq_true, iK0, iK1, iK2, iK3, iK4, iK5, iKm1, bK6, bK7, bK8, bK9, bK10, bK12, bK14, bK15, bK16, bK20, bK21, bK26, bK30, bK32, bK33, bK45, bK48, bK57, bK59, bK60, bK62, bK63, bK64, bK80, bK93, bK98, bK99, bK100, bK104, bK107, bK109, bK110, bK112, bK113, bK114, bK115, bK116, bK119, sK255, sK256, sK500, sK700, sK798, sK912, sK1400, sK2000]; rfl)) rfl rfl
  · rename_i h
    exact AW.cg (ih _ (by omega) (i + 1) (by omega) rfl) rfl rfl rfl (by first | rfl | (simp (discharger := omega) only [msk, clr_i, clr_r, cnt_t (p := fun i => decide (f (i * W + j) = x)) (n := i) (by simpa using h), cI, cN, ← nI_0, nI_ltI, nI_leI, nI_eq, nI_add, pk_mul, pk_sub, nI_clamp, vinI, not_true_eq_false, not_false_eq_true, iK0, iK1, iK2, iK3, iK4, iK5, iKm1, bK6, bK7, bK8, bK9, bK10, bK12, bK14, bK15, bK16, bK20, bK21, bK26, bK30, bK32, bK33, bK45, bK48, bK57, bK59, bK60, bK62, bK63, bK64, bK80, bK93, bK98, bK99, bK100, bK104, bK107, bK109, bK110, bK112, bK113, bK114, bK115, bK116, bK119, sK255, sK256, sK500, sK700, sK798, sK912, sK1400, sK2000]; done) | (simp (discharger := omega) only [msk, clr_i, clr_r, cnt_t (p := fun i => decide (f (i * W + j) = x)) (n := i) (by simpa using h), cI, cN, ← nI_0, nI_ltI, nI_leI, nI_eq, nI_add, pk_mul, pk_sub, nI_clamp, vinI, not_true_eq_false, not_false_eq_true, iK0, iK1, iK2, iK3, iK4, iK5, iKm1, bK6, bK7, bK8, bK9, bK10, bK12, bK14, bK15, bK16, bK20, bK21, bK26, bK30, bK32, bK33, bK45, bK48, bK57, bK59, bK60, bK62, bK63, bK64, bK80, bK93, bK98, bK99, bK100, bK104, bK107, bK109, bK110, bK112, bK113, bK114, bK115, bK116, bK119, sK255, sK256, sK500, sK700, sK798, sK912, sK1400, sK2000]; rfl)) rfl rfl
set_option maxRecDepth 20000 in
theorem tb_count (hg : gOK G) (R W n j : Nat) (f : Nat → Int32) (x : Int32) (hn : n ≤ R) (hj : j < W) (hRW : R * W ≤ 2000) (hR : R ≤ 2000) (hW : W ≤ 2000) : Spec G 1 0 0 m_X6_countOf [.ref 0, .int (nI j), .int x] (tw R W n f) (fun v w' => v = some (.int (nI (cnt (fun i => decide (f (i * W + j) = x)) n))) ∧ w' = tw R W n f) NX := by
  refine wp_spec (M := M_X6_countOf) hg ok_X6_countOf (lkp [(19, [true, true, true, true, true])]) 60 rfl rfl ?_
  repeat' (first | refine And.intro ?_ ?_ | (with_reducible intro h9; exact absurd h9 (by simp only [cI, cN]; decide +kernel)) | with_reducible intro _ | exact (rfl : narrow _ _ = _) | decide)
  all_goals ((try simp (discharger := omega) only [cI, cN, ← nI_0, nI_ltI, nI_leI, nI_eq, nI_add, pk_mul, pk_sub, nI_clamp, vinI, not_true_eq_false, not_false_eq_true, iK0, iK1, iK2, iK3, iK4, iK5, iKm1, bK6, bK7, bK8, bK9, bK10, bK12, bK14, bK15, bK16, bK20, bK21, bK26, bK30, bK32, bK33, bK45, bK48, bK57, bK59, bK60, bK62, bK63, bK64, bK80, bK93, bK98, bK99, bK100, bK104, bK107, bK109, bK110, bK112, bK113, bK114, bK115, bK116, bK119, sK255, sK256, sK500, sK700, sK798, sK912, sK1400, sK2000] at *) <;> (try simp (discharger := omega) only [cI, cN, ← nI_0, nI_ltI, nI_leI, nI_eq, nI_add, pk_mul, pk_sub, nI_clamp, vinI, not_true_eq_false, not_false_eq_true, iK0, iK1, iK2, iK3, iK4, iK5, iKm1, bK6, bK7, bK8, bK9, bK10, bK12, bK14, bK15, bK16, bK20, bK21, bK26, bK30, bK32, bK33, bK45, bK48, bK57, bK59, bK60, bK62, bK63, bK64, bK80, bK93, bK98, bK99, bK100, bK104, bK107, bK109, bK110, bK112, bK113, bK114, bK115, bK116, bK119, sK255, sK256, sK500, sK700, sK798, sK912, sK1400, sK2000] at *))
  all_goals try omega
  exact tb_count_l hg R W n j f x hn hj hRW hR hW ⟨rfl, rfl⟩ _ 0 (by omega) rfl
set_option maxRecDepth 20000 in
theorem tb_sum_l (hg : gOK G) (R W n j : Nat) (f : Nat → Int32) (hn : n ≤ R) (hj : j < W) (hRW : R * W ≤ 2000) (hR : R ≤ 2000) (hW : W ≤ 2000) {K : Option Value → xW → Prop} {KX : Nat → xW → Prop} (hK : K (some (.int (isum (fun i => f (i * W + j)) n))) (tw R W n f)) : ∀ (c : Nat) (i : Nat) (hi : i ≤ n) (hc9 : n - i = c),
    AW G M_X6_sumOf 2 0 0 4 [some (.ref 0), some (.int (nI j)), some (.int (isum (fun i => f (i * W + j)) i)), some (.int (nI i))] [] (tw R W n f) K KX := by
  intro c
  induction c using Nat.strongRecOn with | ind c ih => ?_
  intro i hi hc9
  refine wp_ok (M := M_X6_sumOf) hg ok_X6_sumOf (lkp [(4, [true, true, true, true])]) 60 _ _ _ _ _ _ ?_
  repeat' (first | refine And.intro ?_ ?_ | (with_reducible intro h9; exact absurd h9 (by simp only [cI, cN]; decide +kernel)) | with_reducible intro _ | exact (rfl : narrow _ _ = _) | decide)
  all_goals ((try simp (discharger := omega) only [cI, cN, ← nI_0, nI_ltI, nI_leI, nI_eq, nI_add, pk_mul, pk_sub, nI_clamp, vinI, not_true_eq_false, not_false_eq_true, iK0, iK1, iK2, iK3, iK4, iK5, iKm1, bK6, bK7, bK8, bK9, bK10, bK12, bK14, bK15, bK16, bK20, bK21, bK26, bK30, bK32, bK33, bK45, bK48, bK57, bK59, bK60, bK62, bK63, bK64, bK80, bK93, bK98, bK99, bK100, bK104, bK107, bK109, bK110, bK112, bK113, bK114, bK115, bK116, bK119, sK255, sK256, sK500, sK700, sK798, sK912, sK1400, sK2000] at *) <;> (try simp (discharger := omega) only [cI, cN, ← nI_0, nI_ltI, nI_leI, nI_eq, nI_add, pk_mul, pk_sub, nI_clamp, vinI, not_true_eq_false, not_false_eq_true, iK0, iK1, iK2, iK3, iK4, iK5, iKm1, bK6, bK7, bK8, bK9, bK10, bK12, bK14, bK15, bK16, bK20, bK21, bK26, bK30, bK32, bK33, bK45, bK48, bK57, bK59, bK60, bK62, bK63, bK64, bK80, bK93, bK98, bK99, bK100, bK104, bK107, bK109, bK110, bK112, bK113, bK114, bK115, bK116, bK119, sK255, sK256, sK500, sK700, sK798, sK912, sK1400, sK2000] at *))
  · have : i = n := by omega
    subst this
    exact hK
  · refine cc0 [0, 1] (tb_get hg R W n i j f hn (by omega) hj hRW hR hW) (by decide) (by decide) (by decide) rfl (by repeat' (first | exact trivial | refine And.intro ?_ ?_ | rfl)) (by first | rfl | (simp (discharger := omega) only [renVs, renV, rnI, cI, cN, ← nI_0, nI_ltI, nI_leI, nI_eq, nI_add, pk_mul, pk_sub, nI_clamp, vinI, not_true_eq_false, not_false_eq_true, iK0, iK1, iK2, iK3, iK4, iK5, iKm1, bK6, bK7, bK8, bK9, bK10, bK12, bK14, bK15, bK16, bK20, bK21, bK26, bK30, bK32, bK33, bK45, bK48, bK57, bK59, bK60, bK62, bK63, bK64, bK80, bK93, bK98, bK99, bK100, bK104, bK107, bK109, bK110, bK112, bK113, bK114, bK115, bK116, bK119, sK255, sK256, sK500, sK700, sK798, sK912, sK1400, sK2000])) ?_
    rintro _ _ ⟨rfl, rfl⟩
    repeat' (first | refine And.intro ?_ ?_ | (with_reducible intro h9; exact absurd h9 (by simp only [cI, cN]; decide +kernel)) | with_reducible intro _ | exact (rfl : narrow _ _ = _) | decide)
    exact AW.cg (ih _ (by omega) (i + 1) (by omega) rfl) rfl rfl rfl (by first | rfl | (simp (discharger := omega) only [msk, clr_i, clr_r, isum, cI, cN, ← nI_0, nI_ltI, nI_leI, nI_eq, nI_add, pk_mul, pk_sub, nI_clamp, vinI, not_true_eq_false, not_false_eq_true, iK0, iK1, iK2, iK3, iK4, iK5, iKm1, bK6, bK7, bK8, bK9, bK10, bK12, bK14, bK15, bK16, bK20, bK21, bK26, bK30, bK32, bK33, bK45, bK48, bK57, bK59, bK60, bK62, bK63, bK64, bK80, bK93, bK98, bK99, bK100, bK104, bK107, bK109, bK110, bK112, bK113, bK114, bK115, bK116, bK119, sK255, sK256, sK500, sK700, sK798, sK912, sK1400, sK2000]; done) | (simp (discharger := omega) only [msk, clr_i, clr_r, isum, cI, cN, ← nI_0, nI_ltI, nI_leI, nI_eq, nI_add, pk_mul, pk_sub, nI_clamp, vinI, not_true_eq_false, not_false_eq_true, iK0, iK1, iK2, iK3, iK4, iK5, iKm1, bK6, bK7, bK8, bK9, bK10, bK12, bK14, bK15, bK16, bK20, bK21, bK26, bK30, bK32, bK33, bK45, bK48, bK57, bK59, bK60, bK62, bK63, bK64, bK80, bK93, bK98, bK99, bK100, bK104, bK107, bK109, bK110, bK112, bK113, bK114, bK115, bK116, bK119, sK255, sK256, sK500, sK700, sK798, sK912, sK1400, sK2000]; rfl)) rfl rfl
set_option maxRecDepth 20000 in
theorem tb_sum (hg : gOK G) (R W n j : Nat) (f : Nat → Int32) (hn : n ≤ R) (hj : j < W) (hRW : R * W ≤ 2000) (hR : R ≤ 2000) (hW : W ≤ 2000) : Spec G 2 0 0 m_X6_sumOf [.ref 0, .int (nI j)] (tw R W n f) (fun v w' => v = some (.int (isum (fun i => f (i * W + j)) n)) ∧ w' = tw R W n f) NX := by
  refine wp_spec (M := M_X6_sumOf) hg ok_X6_sumOf (lkp [(4, [true, true, true, true])]) 60 rfl rfl ?_
  repeat' (first | refine And.intro ?_ ?_ | (with_reducible intro h9; exact absurd h9 (by simp only [cI, cN]; decide +kernel)) | with_reducible intro _ | exact (rfl : narrow _ _ = _) | decide)
  exact tb_sum_l hg R W n j f hn hj hRW hR hW ⟨rfl, rfl⟩ _ 0 (by omega) rfl
set_option maxRecDepth 20000 in
theorem tb_add_l (hg : gOK G) (R W n : Nat) (f : Nat → Int32) (hn : n < R) (hRW : R * W ≤ 2000) (hR : R ≤ 2000) (hW : W ≤ 2000) {K : Option Value → xW → Prop} {KX : Nat → xW → Prop} (hK : K (some (.int (nI n))) (tw R W (n + 1) (zer f (n * W) ((n + 1) * W)))) : ∀ (c : Nat) (k : Nat) (h0 : n * W ≤ k) (h1 : k ≤ (n + 1) * W) (hc9 : (n + 1) * W - k = c),
    AW G M_X6_add 1 0 0 23 [some (.ref 0), some (.int (nI k))] [] (tw R W n (zer f (n * W) k)) K KX := by
  intro c
  induction c using Nat.strongRecOn with | ind c ih => ?_
  intro k h0 h1 hc9
  have hm : (n + 1) * W ≤ R * W := rc_le hn
  have hs : (n + 1) * W = n * W + W := Nat.succ_mul _ _
  refine wp_ok (M := M_X6_add) hg ok_X6_add (lkp [(23, [true, true])]) 60 _ _ _ _ _ _ ?_
  repeat' (first | refine And.intro ?_ ?_ | (with_reducible intro h9; exact absurd h9 (by simp only [cI, cN]; decide +kernel)) | with_reducible intro _ | exact (rfl : narrow _ _ = _) | decide)
  all_goals ((try simp (discharger := omega) only [cI, cN, ← nI_0, nI_ltI, nI_leI, nI_eq, nI_add, pk_mul, pk_sub, nI_clamp, vinI, not_true_eq_false, not_false_eq_true, iK0, iK1, iK2, iK3, iK4, iK5, iKm1, bK6, bK7, bK8, bK9, bK10, bK12, bK14, bK15, bK16, bK20, bK21, bK26, bK30, bK32, bK33, bK45, bK48, bK57, bK59, bK60, bK62, bK63, bK64, bK80, bK93, bK98, bK99, bK100, bK104, bK107, bK109, bK110, bK112, bK113, bK114, bK115, bK116, bK119, sK255, sK256, sK500, sK700, sK798, sK912, sK1400, sK2000] at *) <;> (try simp (discharger := omega) only [cI, cN, ← nI_0, nI_ltI, nI_leI, nI_eq, nI_add, pk_mul, pk_sub, nI_clamp, vinI, not_true_eq_false, not_false_eq_true, iK0, iK1, iK2, iK3, iK4, iK5, iKm1, bK6, bK7, bK8, bK9, bK10, bK12, bK14, bK15, bK16, bK20, bK21, bK26, bK30, bK32, bK33, bK45, bK48, bK57, bK59, bK60, bK62, bK63, bK64, bK80, bK93, bK98, bK99, bK100, bK104, bK107, bK109, bK110, bK112, bK113, bK114, bK115, bK116, bK119, sK255, sK256, sK500, sK700, sK798, sK912, sK1400, sK2000] at *))
  all_goals try omega
  · have : k = (n + 1) * W := by omega
    subst this
    exact Kcg (K := K) hK (by first | rfl | (simp (discharger := omega) only [msk, clr_i, clr_r, cI, cN, ← nI_0, nI_ltI, nI_leI, nI_eq, nI_add, pk_mul, pk_sub, nI_clamp, vinI, not_true_eq_false, not_false_eq_true, iK0, iK1, iK2, iK3, iK4, iK5, iKm1, bK6, bK7, bK8, bK9, bK10, bK12, bK14, bK15, bK16, bK20, bK21, bK26, bK30, bK32, bK33, bK45, bK48, bK57, bK59, bK60, bK62, bK63, bK64, bK80, bK93, bK98, bK99, bK100, bK104, bK107, bK109, bK110, bK112, bK113, bK114, bK115, bK116, bK119, sK255, sK256, sK500, sK700, sK798, sK912, sK1400, sK2000]; done) | (simp (discharger := omega) only [msk, clr_i, clr_r, cI, cN, ← nI_0, nI_ltI, nI_leI, nI_eq, nI_add, pk_mul, pk_sub, nI_clamp, vinI, not_true_eq_false, not_false_eq_true, iK0, iK1, iK2, iK3, iK4, iK5, iKm1, bK6, bK7, bK8, bK9, bK10, bK12, bK14, bK15, bK16, bK20, bK21, bK26, bK30, bK32, bK33, bK45, bK48, bK57, bK59, bK60, bK62, bK63, bK64, bK80, bK93, bK98, bK99, bK100, bK104, bK107, bK109, bK110, bK112, bK113, bK114, bK115, bK116, bK119, sK255, sK256, sK500, sK700, sK798, sK912, sK1400, sK2000]; rfl)) (by first | rfl | (simp (discharger := omega) only [msk, clr_i, clr_r, tw, cI, cN, ← nI_0, nI_ltI, nI_leI, nI_eq, nI_add, pk_mul, pk_sub, nI_clamp, vinI, not_true_eq_false, not_false_eq_true, iK0, iK1, iK2, iK3, iK4, iK5, iKm1, bK6, bK7, bK8, bK9, bK10, bK12, bK14, bK15, bK16, bK20, bK21, bK26, bK30, bK32, bK33, bK45, bK48, bK57, bK59, bK60, bK62, bK63, bK64, bK80, bK93, bK98, bK99, bK100, bK104, bK107, bK109, bK110, bK112, bK113, bK114, bK115, bK116, bK119, sK255, sK256, sK500, sK700, sK798, sK912, sK1400, sK2000]; done) | (simp (discharger := omega) only [msk, clr_i, clr_r, tw, cI, cN, ← nI_0, nI_ltI, nI_leI, nI_eq, nI_add, pk_mul, pk_sub, nI_clamp, vinI, not_true_eq_false, not_false_eq_true, iK0, iK1, iK2, iK3, iK4, iK5, iKm1, bK6, bK7, bK8, bK9, bK10, bK12, bK14, bK15, bK16, bK20, bK21, bK26, bK30, bK32, bK33, bK45, bK48, bK57, bK59, bK60, bK62, bK63, bK64, bK80, bK93, bK98, bK99, bK100, bK104, bK107, bK109, bK110, bK112, bK113, bK114, bK115, bK116, bK119, sK255, sK256, sK500, sK700, sK798, sK912, sK1400, sK2000]; rfl))
  · exact AW.cg (ih _ (by omega) (k + 1) (by omega) (by omega) rfl) rfl rfl rfl (by first | rfl | (simp (discharger := omega) only [msk, clr_i, clr_r, cI, cN, ← nI_0, nI_ltI, nI_leI, nI_eq, nI_add, pk_mul, pk_sub, nI_clamp, vinI, not_true_eq_false, not_false_eq_true, iK0, iK1, iK2, iK3, iK4, iK5, iKm1, bK6, bK7, bK8, bK9, bK10, bK12, bK14, bK15, bK16, bK20, bK21, bK26, bK30, bK32, bK33, bK45, bK48, bK57, bK59, bK60, bK62, bK63, bK64, bK80, bK93, bK98, bK99, bK100, bK104, bK107, bK109, bK110, bK112, bK113, bK114, bK115, bK116, bK119, sK255, sK256, sK500, sK700, sK798, sK912, sK1400, sK2000]; done) | (simp (discharger := omega) only [msk, clr_i, clr_r, cI, cN, ← nI_0, nI_ltI, nI_leI, nI_eq, nI_add, pk_mul, pk_sub, nI_clamp, vinI, not_true_eq_false, not_false_eq_true, iK0, iK1, iK2, iK3, iK4, iK5, iKm1, bK6, bK7, bK8, bK9, bK10, bK12, bK14, bK15, bK16, bK20, bK21, bK26, bK30, bK32, bK33, bK45, bK48, bK57, bK59, bK60, bK62, bK63, bK64, bK80, bK93, bK98, bK99, bK100, bK104, bK107, bK109, bK110, bK112, bK113, bK114, bK115, bK116, bK119, sK255, sK256, sK500, sK700, sK798, sK912, sK1400, sK2000]; rfl)) rfl (by (rw [← zer_s h0]) <;> rfl)
set_option maxRecDepth 20000 in
theorem tb_add (hg : gOK G) (R W n : Nat) (f : Nat → Int32) (hn : n < R) (hRW : R * W ≤ 2000) (hR : R ≤ 2000) (hW : W ≤ 2000) : Spec G 1 0 0 m_X6_add [.ref 0] (tw R W n f) (fun v w' => v = some (.int (nI n)) ∧ w' = tw R W (n + 1) (zer f (n * W) ((n + 1) * W))) NX := by
  have hm : (n + 1) * W ≤ R * W := rc_le hn
  have hs : (n + 1) * W = n * W + W := Nat.succ_mul _ _
  refine wp_spec (M := M_X6_add) hg ok_X6_add (lkp [(23, [true, true])]) 60 rfl rfl ?_
  repeat' (first | refine And.intro ?_ ?_ | (with_reducible intro h9; exact absurd h9 (by simp only [cI, cN]; decide +kernel)) | with_reducible intro _ | exact (rfl : narrow _ _ = _) | decide)
  all_goals ((try simp (discharger := omega) only [cI, cN, ← nI_0, nI_ltI, nI_leI, nI_eq, nI_add, pk_mul, pk_sub, nI_clamp, vinI, not_true_eq_false, not_false_eq_true, iK0, iK1, iK2, iK3, iK4, iK5, iKm1, bK6, bK7, bK8, bK9, bK10, bK12, bK14, bK15, bK16, bK20, bK21, bK26, bK30, bK32, bK33, bK45, bK48, bK57, bK59, bK60, bK62, bK63, bK64, bK80, bK93, bK98, bK99, bK100, bK104, bK107, bK109, bK110, bK112, bK113, bK114, bK115, bK116, bK119, sK255, sK256, sK500, sK700, sK798, sK912, sK1400, sK2000] at *) <;> (try simp (discharger := omega) only [cI, cN, ← nI_0, nI_ltI, nI_leI, nI_eq, nI_add, pk_mul, pk_sub, nI_clamp, vinI, not_true_eq_false, not_false_eq_true, iK0, iK1, iK2, iK3, iK4, iK5, iKm1, bK6, bK7, bK8, bK9, bK10, bK12, bK14, bK15, bK16, bK20, bK21, bK26, bK30, bK32, bK33, bK45, bK48, bK57, bK59, bK60, bK62, bK63, bK64, bK80, bK93, bK98, bK99, bK100, bK104, bK107, bK109, bK110, bK112, bK113, bK114, bK115, bK116, bK119, sK255, sK256, sK500, sK700, sK798, sK912, sK1400, sK2000] at *))
  all_goals try omega
  exact AW.cg (tb_add_l hg R W n f hn hRW hR hW ⟨rfl, rfl⟩ _ (n * W) (by omega) (by omega) rfl) rfl rfl rfl (by first | rfl | (simp (discharger := omega) only [msk, clr_i, clr_r, cI, cN, ← nI_0, nI_ltI, nI_leI, nI_eq, nI_add, pk_mul, pk_sub, nI_clamp, vinI, not_true_eq_false, not_false_eq_true, iK0, iK1, iK2, iK3, iK4, iK5, iKm1, bK6, bK7, bK8, bK9, bK10, bK12, bK14, bK15, bK16, bK20, bK21, bK26, bK30, bK32, bK33, bK45, bK48, bK57, bK59, bK60, bK62, bK63, bK64, bK80, bK93, bK98, bK99, bK100, bK104, bK107, bK109, bK110, bK112, bK113, bK114, bK115, bK116, bK119, sK255, sK256, sK500, sK700, sK798, sK912, sK1400, sK2000]; done) | (simp (discharger := omega) only [msk, clr_i, clr_r, cI, cN, ← nI_0, nI_ltI, nI_leI, nI_eq, nI_add, pk_mul, pk_sub, nI_clamp, vinI, not_true_eq_false, not_false_eq_true, iK0, iK1, iK2, iK3, iK4, iK5, iKm1, bK6, bK7, bK8, bK9, bK10, bK12, bK14, bK15, bK16, bK20, bK21, bK26, bK30, bK32, bK33, bK45, bK48, bK57, bK59, bK60, bK62, bK63, bK64, bK80, bK93, bK98, bK99, bK100, bK104, bK107, bK109, bK110, bK112, bK113, bK114, bK115, bK116, bK119, sK255, sK256, sK500, sK700, sK798, sK912, sK1400, sK2000]; rfl)) rfl (by (rw [zer_0]) <;> rfl)
set_option maxRecDepth 20000 in
theorem tb_drop_l (hg : gOK G) (R W n i : Nat) (f : Nat → Int32) (hn : n ≤ R) (hi : i < n) (hRW : R * W ≤ 2000) (hR : R ≤ 2000) (hW : W ≤ 2000) {K : Option Value → xW → Prop} {KX : Nat → xW → Prop} (hK : K none (tw R W (n - 1) (shf f (i * W) ((n - 1) * W) W))) : ∀ (c : Nat) (k : Nat) (h0 : i * W ≤ k) (h1 : k ≤ (n - 1) * W) (hc9 : (n - 1) * W - k = c),
    AW G M_X6_drop 1 0 0 20 [some (.ref 0), none, some (.int (nI k))] [] (tw R W n (shf f (i * W) k W)) K KX := by
  intro c
  induction c using Nat.strongRecOn with | ind c ih => ?_
  intro k h0 h1 hc9
  have hm : n * W ≤ R * W := rc_le hn
  have hs : n * W = (n - 1) * W + W := by rw [← Nat.succ_mul]; congr 1; omega
  refine wp_ok (M := M_X6_drop) hg ok_X6_drop (lkp [(20, [true, false, true])]) 60 _ _ _ _ _ _ ?_
  repeat' (first | refine And.intro ?_ ?_ | (with_reducible intro h9; exact absurd h9 (by simp only [cI, cN]; decide +kernel)) | with_reducible intro _ | exact (rfl : narrow _ _ = _) | decide)
  all_goals ((try simp (discharger := omega) only [cI, cN, ← nI_0, nI_ltI, nI_leI, nI_eq, nI_add, pk_mul, pk_sub, nI_clamp, vinI, not_true_eq_false, not_false_eq_true, iK0, iK1, iK2, iK3, iK4, iK5, iKm1, bK6, bK7, bK8, bK9, bK10, bK12, bK14, bK15, bK16, bK20, bK21, bK26, bK30, bK32, bK33, bK45, bK48, bK57, bK59, bK60, bK62, bK63, bK64, bK80, bK93, bK98, bK99, bK100, bK104, bK107, bK109, bK110, bK112, bK113, bK114, bK115, bK116, bK119, sK255, sK256, sK500, sK700, sK798, sK912, sK1400, sK2000] at *) <;> (try simp (discharger := omega) only [cI, cN, ← nI_0, nI_ltI, nI_leI, nI_eq, nI_add, pk_mul, pk_sub, nI_clamp, vinI, not_true_eq_false, not_false_eq_true, iK0, iK1, iK2, iK3, iK4, iK5, iKm1, bK6, bK7, bK8, bK9, bK10, bK12, bK14, bK15, bK16, bK20, bK21, bK26, bK30, bK32, bK33, bK45, bK48, bK57, bK59, bK60, bK62, bK63, bK64, bK80, bK93, bK98, bK99, bK100, bK104, bK107, bK109, bK110, bK112, bK113, bK114, bK115, bK116, bK119, sK255, sK256, sK500, sK700, sK798, sK912, sK1400, sK2000] at *))
  all_goals try omega
  · have : k = (n - 1) * W := by omega
    subst this
    exact Kcg (K := K) hK (by first | rfl | (simp (discharger := omega) only [msk, clr_i, clr_r, cI, cN, ← nI_0, nI_ltI, nI_leI, nI_eq, nI_add, pk_mul, pk_sub, nI_clamp, vinI, not_true_eq_false, not_false_eq_true, iK0, iK1, iK2, iK3, iK4, iK5, iKm1, bK6, bK7, bK8, bK9, bK10, bK12, bK14, bK15, bK16, bK20, bK21, bK26, bK30, bK32, bK33, bK45, bK48, bK57, bK59, bK60, bK62, bK63, bK64, bK80, bK93, bK98, bK99, bK100, bK104, bK107, bK109, bK110, bK112, bK113, bK114, bK115, bK116, bK119, sK255, sK256, sK500, sK700, sK798, sK912, sK1400, sK2000]; done) | (simp (discharger := omega) only [msk, clr_i, clr_r, cI, cN, ← nI_0, nI_ltI, nI_leI, nI_eq, nI_add, pk_mul, pk_sub, nI_clamp, vinI, not_true_eq_false, not_false_eq_true, iK0, iK1, iK2, iK3, iK4, iK5, iKm1, bK6, bK7, bK8, bK9, bK10, bK12, bK14, bK15, bK16, bK20, bK21, bK26, bK30, bK32, bK33, bK45, bK48, bK57, bK59, bK60, bK62, bK63, bK64, bK80, bK93, bK98, bK99, bK100, bK104, bK107, bK109, bK110, bK112, bK113, bK114, bK115, bK116, bK119, sK255, sK256, sK500, sK700, sK798, sK912, sK1400, sK2000]; rfl)) (by first | rfl | (simp (discharger := omega) only [msk, clr_i, clr_r, tw, cI, cN, ← nI_0, nI_ltI, nI_leI, nI_eq, nI_add, pk_mul, pk_sub, nI_clamp, vinI, not_true_eq_false, not_false_eq_true, iK0, iK1, iK2, iK3, iK4, iK5, iKm1, bK6, bK7, bK8, bK9, bK10, bK12, bK14, bK15, bK16, bK20, bK21, bK26, bK30, bK32, bK33, bK45, bK48, bK57, bK59, bK60, bK62, bK63, bK64, bK80, bK93, bK98, bK99, bK100, bK104, bK107, bK109, bK110, bK112, bK113, bK114, bK115, bK116, bK119, sK255, sK256, sK500, sK700, sK798, sK912, sK1400, sK2000]; done) | (simp (discharger := omega) only [msk, clr_i, clr_r, tw, cI, cN, ← nI_0, nI_ltI, nI_leI, nI_eq, nI_add, pk_mul, pk_sub, nI_clamp, vinI, not_true_eq_false, not_false_eq_true, iK0, iK1, iK2, iK3, iK4, iK5, iKm1, bK6, bK7, bK8, bK9, bK10, bK12, bK14, bK15, bK16, bK20, bK21, bK26, bK30, bK32, bK33, bK45, bK48, bK57, bK59, bK60, bK62, bK63, bK64, bK80, bK93, bK98, bK99, bK100, bK104, bK107, bK109, bK110, bK112, bK113, bK114, bK115, bK116, bK119, sK255, sK256, sK500, sK700, sK798, sK912, sK1400, sK2000]; rfl))
  · exact AW.cg (ih _ (by omega) (k + 1) (by omega) (by omega) rfl) rfl rfl rfl (by first | rfl | (simp (discharger := omega) only [msk, clr_i, clr_r, cI, cN, ← nI_0, nI_ltI, nI_leI, nI_eq, nI_add, pk_mul, pk_sub, nI_clamp, vinI, not_true_eq_false, not_false_eq_true, iK0, iK1, iK2, iK3, iK4, iK5, iKm1, bK6, bK7, bK8, bK9, bK10, bK12, bK14, bK15, bK16, bK20, bK21, bK26, bK30, bK32, bK33, bK45, bK48, bK57, bK59, bK60, bK62, bK63, bK64, bK80, bK93, bK98, bK99, bK100, bK104, bK107, bK109, bK110, bK112, bK113, bK114, bK115, bK116, bK119, sK255, sK256, sK500, sK700, sK798, sK912, sK1400, sK2000]; done) | (simp (discharger := omega) only [msk, clr_i, clr_r, cI, cN, ← nI_0, nI_ltI, nI_leI, nI_eq, nI_add, pk_mul, pk_sub, nI_clamp, vinI, not_true_eq_false, not_false_eq_true, iK0, iK1, iK2, iK3, iK4, iK5, iKm1, bK6, bK7, bK8, bK9, bK10, bK12, bK14, bK15, bK16, bK20, bK21, bK26, bK30, bK32, bK33, bK45, bK48, bK57, bK59, bK60, bK62, bK63, bK64, bK80, bK93, bK98, bK99, bK100, bK104, bK107, bK109, bK110, bK112, bK113, bK114, bK115, bK116, bK119, sK255, sK256, sK500, sK700, sK798, sK912, sK1400, sK2000]; rfl)) rfl (by (rw [← shf_s h0, ← shf_at (f := f) (a := i * W) (k := k) (s := W)]) <;> rfl)
set_option maxRecDepth 20000 in
theorem tb_drop (hg : gOK G) (R W n i : Nat) (f : Nat → Int32) (hn : n ≤ R) (hi : i < n) (hRW : R * W ≤ 2000) (hR : R ≤ 2000) (hW : W ≤ 2000) : Spec G 1 0 0 m_X6_drop [.ref 0, .int (nI i)] (tw R W n f) (fun v w' => v = none ∧ w' = tw R W (n - 1) (shf f (i * W) ((n - 1) * W) W)) NX := by
  have hm : i * W ≤ (n - 1) * W := rc_le (by omega)
  have hs : n * W = (n - 1) * W + W := by rw [← Nat.succ_mul]; congr 1; omega
  have hm2 : n * W ≤ R * W := rc_le hn
  refine wp_spec (M := M_X6_drop) hg ok_X6_drop (lkp [(20, [true, false, true])]) 60 rfl rfl ?_
  repeat' (first | refine And.intro ?_ ?_ | (with_reducible intro h9; exact absurd h9 (by simp only [cI, cN]; decide +kernel)) | with_reducible intro _ | exact (rfl : narrow _ _ = _) | decide)
  all_goals ((try simp (discharger := omega) only [cI, cN, ← nI_0, nI_ltI, nI_leI, nI_eq, nI_add, pk_mul, pk_sub, nI_clamp, vinI, not_true_eq_false, not_false_eq_true, iK0, iK1, iK2, iK3, iK4, iK5, iKm1, bK6, bK7, bK8, bK9, bK10, bK12, bK14, bK15, bK16, bK20, bK21, bK26, bK30, bK32, bK33, bK45, bK48, bK57, bK59, bK60, bK62, bK63, bK64, bK80, bK93, bK98, bK99, bK100, bK104, bK107, bK109, bK110, bK112, bK113, bK114, bK115, bK116, bK119, sK255, sK256, sK500, sK700, sK798, sK912, sK1400, sK2000] at *) <;> (try simp (discharger := omega) only [cI, cN, ← nI_0, nI_ltI, nI_leI, nI_eq, nI_add, pk_mul, pk_sub, nI_clamp, vinI, not_true_eq_false, not_false_eq_true, iK0, iK1, iK2, iK3, iK4, iK5, iKm1, bK6, bK7, bK8, bK9, bK10, bK12, bK14, bK15, bK16, bK20, bK21, bK26, bK30, bK32, bK33, bK45, bK48, bK57, bK59, bK60, bK62, bK63, bK64, bK80, bK93, bK98, bK99, bK100, bK104, bK107, bK109, bK110, bK112, bK113, bK114, bK115, bK116, bK119, sK255, sK256, sK500, sK700, sK798, sK912, sK1400, sK2000] at *))
  all_goals try omega
  exact AW.cg (tb_drop_l hg R W n i f hn hi hRW hR hW ⟨rfl, rfl⟩ _ (i * W) (by omega) (by omega) rfl) rfl rfl rfl (by first | rfl | (simp (discharger := omega) only [msk, clr_i, clr_r, cI, cN, ← nI_0, nI_ltI, nI_leI, nI_eq, nI_add, pk_mul, pk_sub, nI_clamp, vinI, not_true_eq_false, not_false_eq_true, iK0, iK1, iK2, iK3, iK4, iK5, iKm1, bK6, bK7, bK8, bK9, bK10, bK12, bK14, bK15, bK16, bK20, bK21, bK26, bK30, bK32, bK33, bK45, bK48, bK57, bK59, bK60, bK62, bK63, bK64, bK80, bK93, bK98, bK99, bK100, bK104, bK107, bK109, bK110, bK112, bK113, bK114, bK115, bK116, bK119, sK255, sK256, sK500, sK700, sK798, sK912, sK1400, sK2000]; done) | (simp (discharger := omega) only [msk, clr_i, clr_r, cI, cN, ← nI_0, nI_ltI, nI_leI, nI_eq, nI_add, pk_mul, pk_sub, nI_clamp, vinI, not_true_eq_false, not_false_eq_true, iK0, iK1, iK2, iK3, iK4, iK5, iKm1, bK6, bK7, bK8, bK9, bK10, bK12, bK14, bK15, bK16, bK20, bK21, bK26, bK30, bK32, bK33, bK45, bK48, bK57, bK59, bK60, bK62, bK63, bK64, bK80, bK93, bK98, bK99, bK100, bK104, bK107, bK109, bK110, bK112, bK113, bK114, bK115, bK116, bK119, sK255, sK256, sK500, sK700, sK798, sK912, sK1400, sK2000]; rfl)) rfl (by (rw [shf_0]) <;> rfl)
def tw2 (R W n : Nat) (f : Nat → Int32) (n2 : Nat) (f2 : Nat → Int32) : xW := [.inr (9, [.int (nI R), .int (nI W), .ref 1, .int (nI n)]), .inl (0, R * W, .inl f), .inr (9, [.int (nI R), .int (nI W), .ref 3, .int (nI n2)]), .inl (0, R * W, .inl f2)]
set_option maxRecDepth 20000 in
theorem tb_copy_l (hg : gOK G) (R W n2 : Nat) (f f2 : Nat → Int32) (hn : n2 ≤ R) (hRW : R * W ≤ 2000) (hR : R ≤ 2000) (hW : W ≤ 2000) {K : Option Value → xW → Prop} {KX : Nat → xW → Prop} (hK : K none (tw2 R W n2 (cpf f f2 (n2 * W)) n2 f2)) : ∀ (c : Nat) (k : Nat) (h1 : k ≤ n2 * W) (hc9 : n2 * W - k = c),
    AW G M_X6_copyFrom 1 0 0 33 [some (.ref 0), some (.ref 2), some (.int (nI k))] [] (tw2 R W n2 (cpf f f2 k) n2 f2) K KX := by
  intro c
  induction c using Nat.strongRecOn with | ind c ih => ?_
  intro k h1 hc9
  have hm : n2 * W ≤ R * W := rc_le hn
  refine wp_ok (M := M_X6_copyFrom) hg ok_X6_copyFrom (lkp [(33, [true, true, true])]) 60 _ _ _ _ _ _ ?_
  repeat' (first | refine And.intro ?_ ?_ | (with_reducible intro h9; exact absurd h9 (by simp only [cI, cN]; decide +kernel)) | with_reducible intro _ | exact (rfl : narrow _ _ = _) | decide)
  all_goals ((try simp (discharger := omega) only [cI, cN, ← nI_0, nI_ltI, nI_leI, nI_eq, nI_add, pk_mul, pk_sub, nI_clamp, vinI, not_true_eq_false, not_false_eq_true, iK0, iK1, iK2, iK3, iK4, iK5, iKm1, bK6, bK7, bK8, bK9, bK10, bK12, bK14, bK15, bK16, bK20, bK21, bK26, bK30, bK32, bK33, bK45, bK48, bK57, bK59, bK60, bK62, bK63, bK64, bK80, bK93, bK98, bK99, bK100, bK104, bK107, bK109, bK110, bK112, bK113, bK114, bK115, bK116, bK119, sK255, sK256, sK500, sK700, sK798, sK912, sK1400, sK2000] at *) <;> (try simp (discharger := omega) only [cI, cN, ← nI_0, nI_ltI, nI_leI, nI_eq, nI_add, pk_mul, pk_sub, nI_clamp, vinI, not_true_eq_false, not_false_eq_true, iK0, iK1, iK2, iK3, iK4, iK5, iKm1, bK6, bK7, bK8, bK9, bK10, bK12, bK14, bK15, bK16, bK20, bK21, bK26, bK30, bK32, bK33, bK45, bK48, bK57, bK59, bK60, bK62, bK63, bK64, bK80, bK93, bK98, bK99, bK100, bK104, bK107, bK109, bK110, bK112, bK113, bK114, bK115, bK116, bK119, sK255, sK256, sK500, sK700, sK798, sK912, sK1400, sK2000] at *))
  all_goals try omega
  · have : k = n2 * W := by omega
    subst this
    exact hK
  · exact AW.cg (ih _ (by omega) (k + 1) (by omega) rfl) rfl rfl rfl (by first | rfl | (simp (discharger := omega) only [msk, clr_i, clr_r, cI, cN, ← nI_0, nI_ltI, nI_leI, nI_eq, nI_add, pk_mul, pk_sub, nI_clamp, vinI, not_true_eq_false, not_false_eq_true, iK0, iK1, iK2, iK3, iK4, iK5, iKm1, bK6, bK7, bK8, bK9, bK10, bK12, bK14, bK15, bK16, bK20, bK21, bK26, bK30, bK32, bK33, bK45, bK48, bK57, bK59, bK60, bK62, bK63, bK64, bK80, bK93, bK98, bK99, bK100, bK104, bK107, bK109, bK110, bK112, bK113, bK114, bK115, bK116, bK119, sK255, sK256, sK500, sK700, sK798, sK912, sK1400, sK2000]; done) | (simp (discharger := omega) only [msk, clr_i, clr_r, cI, cN, ← nI_0, nI_ltI, nI_leI, nI_eq, nI_add, pk_mul, pk_sub, nI_clamp, vinI, not_true_eq_false, not_false_eq_true, iK0, iK1, iK2, iK3, iK4, iK5, iKm1, bK6, bK7, bK8, bK9, bK10, bK12, bK14, bK15, bK16, bK20, bK21, bK26, bK30, bK32, bK33, bK45, bK48, bK57, bK59, bK60, bK62, bK63, bK64, bK80, bK93, bK98, bK99, bK100, bK104, bK107, bK109, bK110, bK112, bK113, bK114, bK115, bK116, bK119, sK255, sK256, sK500, sK700, sK798, sK912, sK1400, sK2000]; rfl)) rfl (by (rw [← cpf_s]) <;> rfl)
set_option maxRecDepth 20000 in
theorem tb_copy (hg : gOK G) (R W n n2 : Nat) (f f2 : Nat → Int32) (hn : n2 ≤ R) (hRW : R * W ≤ 2000) (hR : R ≤ 2000) (hW : W ≤ 2000) : Spec G 1 0 0 m_X6_copyFrom [.ref 0, .ref 2] (tw2 R W n f n2 f2) (fun v w' => v = none ∧ w' = tw2 R W n2 (cpf f f2 (n2 * W)) n2 f2) NX := by
  refine wp_spec (M := M_X6_copyFrom) hg ok_X6_copyFrom (lkp [(33, [true, true, true])]) 60 rfl rfl ?_
  repeat' (first | refine And.intro ?_ ?_ | (with_reducible intro h9; exact absurd h9 (by simp only [cI, cN]; decide +kernel)) | with_reducible intro _ | exact (rfl : narrow _ _ = _) | decide)
  all_goals ((try simp (discharger := omega) only [cI, cN, ← nI_0, nI_ltI, nI_leI, nI_eq, nI_add, pk_mul, pk_sub, nI_clamp, vinI, not_true_eq_false, not_false_eq_true, iK0, iK1, iK2, iK3, iK4, iK5, iKm1, bK6, bK7, bK8, bK9, bK10, bK12, bK14, bK15, bK16, bK20, bK21, bK26, bK30, bK32, bK33, bK45, bK48, bK57, bK59, bK60, bK62, bK63, bK64, bK80, bK93, bK98, bK99, bK100, bK104, bK107, bK109, bK110, bK112, bK113, bK114, bK115, bK116, bK119, sK255, sK256, sK500, sK700, sK798, sK912, sK1400, sK2000] at *) <;> (try simp (discharger := omega) only [cI, cN, ← nI_0, nI_ltI, nI_leI, nI_eq, nI_add, pk_mul, pk_sub, nI_clamp, vinI, not_true_eq_false, not_false_eq_true, iK0, iK1, iK2, iK3, iK4, iK5, iKm1, bK6, bK7, bK8, bK9, bK10, bK12, bK14, bK15, bK16, bK20, bK21, bK26, bK30, bK32, bK33, bK45, bK48, bK57, bK59, bK60, bK62, bK63, bK64, bK80, bK93, bK98, bK99, bK100, bK104, bK107, bK109, bK110, bK112, bK113, bK114, bK115, bK116, bK119, sK255, sK256, sK500, sK700, sK798, sK912, sK1400, sK2000] at *))
  all_goals try omega
  all_goals exact AW.cg (tb_copy_l hg R W n2 f f2 hn hRW hR hW ⟨rfl, rfl⟩ _ 0 (by omega) rfl) rfl rfl rfl (by first | rfl | (simp (discharger := omega) only [msk, clr_i, clr_r, cI, cN, ← nI_0, nI_ltI, nI_leI, nI_eq, nI_add, pk_mul, pk_sub, nI_clamp, vinI, not_true_eq_false, not_false_eq_true, iK0, iK1, iK2, iK3, iK4, iK5, iKm1, bK6, bK7, bK8, bK9, bK10, bK12, bK14, bK15, bK16, bK20, bK21, bK26, bK30, bK32, bK33, bK45, bK48, bK57, bK59, bK60, bK62, bK63, bK64, bK80, bK93, bK98, bK99, bK100, bK104, bK107, bK109, bK110, bK112, bK113, bK114, bK115, bK116, bK119, sK255, sK256, sK500, sK700, sK798, sK912, sK1400, sK2000]; done) | (simp (discharger := omega) only [msk, clr_i, clr_r, cI, cN, ← nI_0, nI_ltI, nI_leI, nI_eq, nI_add, pk_mul, pk_sub, nI_clamp, vinI, not_true_eq_false, not_false_eq_true, iK0, iK1, iK2, iK3, iK4, iK5, iKm1, bK6, bK7, bK8, bK9, bK10, bK12, bK14, bK15, bK16, bK20, bK21, bK26, bK30, bK32, bK33, bK45, bK48, bK57, bK59, bK60, bK62, bK63, bK64, bK80, bK93, bK98, bK99, bK100, bK104, bK107, bK109, bK110, bK112, bK113, bK114, bK115, bK116, bK119, sK255, sK256, sK500, sK700, sK798, sK912, sK1400, sK2000]; rfl)) rfl (by (rw [cpf_0]) <;> rfl)
/-! the constructor; Refusal.keep; the helpers of BellCores -/
set_option maxRecDepth 20000 in
theorem tb_init (hg : gOK G) (R W : Nat) (hRW : R * W ≤ 2000) (hR : R ≤ 2000) (hW : W ≤ 2000) : Spec G 2 1 (R * W) m_X6_init [.ref 0, .int (nI R), .int (nI W)] [.inr (9, [.int 0, .int 0, .null, .int 0])] (fun v w' => v = none ∧ w' = tw R W 0 (fun _ => 0)) NX := by
  have e1 : (if nI 0 < nI R then nI R else nI 0) = nI R := by
    split
    · rfl
    · rename_i q
      rw [nI_ltI (by omega) (by omega)] at q
      congr 1; omega
  have e2 : (if nI 0 < nI W then nI W else nI 0) = nI W := by
    split
    · rfl
    · rename_i q
      rw [nI_ltI (by omega) (by omega)] at q
      congr 1; omega
  refine wp_spec (M := M_X6_init) hg ok_X6_init cut0 60 rfl rfl ?_
  repeat' (first | refine And.intro ?_ ?_ | (with_reducible intro h9; exact absurd h9 (by simp only [cI, cN]; decide +kernel)) | with_reducible intro _ | exact (rfl : narrow _ _ = _) | decide)
  all_goals (try simp (discharger := omega) only [iK0, e1, e2, pk_mul, nI_clamp])
  all_goals first | rfl | omega | decide | (rw [← nI_0, nI_ltI (by omega) (by omega)]; omega)
set_option maxRecDepth 20000 in
theorem rf_keep (hg : gOK G) (a b x y : Int32) : Spec G 1 0 0 m_X5_keep [.ref 0, .int x, .int y] [.inr (8, [.int a, .int b])] (fun v w' => v = some (.int (nI 1)) ∧ w' = [.inr (8, [.int x, .int y])]) NX := by
  refine wp_spec (M := M_X5_keep) hg ok_X5_keep cut0 60 rfl rfl ?_
  repeat' (first | refine And.intro ?_ ?_ | (with_reducible intro h9; exact absurd h9 (by simp only [cI, cN]; decide +kernel)) | with_reducible intro _ | exact (rfl : narrow _ _ = _) | decide)
  all_goals rfl
set_option maxRecDepth 20000 in
theorem bc_within (hg : gOK G) (x a b : Int32) : Spec G 1 0 0 m_X8_isWithin [.int x, .int a, .int b] [] (fun v w' => ((v = some (.int (nI 1)) ∧ a ≤ x ∧ x ≤ b) ∨ (v = some (.int (nI 0)) ∧ ¬ (a ≤ x ∧ x ≤ b))) ∧ w' = []) NX := by
  refine wp_spec (M := M_X8_isWithin) hg ok_X8_isWithin cut0 60 rfl rfl ?_
  repeat' (first | refine And.intro ?_ ?_ | (with_reducible intro h9; exact absurd h9 (by simp only [cI, cN]; decide +kernel)) | with_reducible intro _ | exact (rfl : narrow _ _ = _) | decide)
  all_goals first
    | rfl
    | exact Or.inl ⟨rfl, Int32.not_lt.mp (by assumption), Int32.not_lt.mp (by assumption)⟩
    | exact Or.inr ⟨rfl, fun z => absurd z.1 (Int32.not_le.mpr (by assumption))⟩
    | exact Or.inr ⟨rfl, fun z => absurd z.2 (Int32.not_le.mpr (by assumption))⟩
set_option maxRecDepth 20000 in
theorem bc_pounds (hg : gOK G) (x : Int32) : Spec G 1 0 0 m_X8_poundsFor [.int x] [] (fun v w' => v = some (.int (nI 5 * x + nI 10)) ∧ w' = []) NX := by
  refine wp_spec (M := M_X8_poundsFor) hg ok_X8_poundsFor cut0 60 rfl rfl ?_
  repeat' (first | refine And.intro ?_ ?_ | (with_reducible intro h9; exact absurd h9 (by simp only [cI, cN]; decide +kernel)) | with_reducible intro _ | exact (rfl : narrow _ _ = _) | decide)
  all_goals rfl
set_option maxRecDepth 20000 in
theorem bc_heat (hg : gOK G) (x : Int32) : Spec G 1 0 0 m_X8_heatFor [.int x] [] (fun v w' => v = some (.int (nI 700 + nI 8 * x)) ∧ w' = []) NX := by
  refine wp_spec (M := M_X8_heatFor) hg ok_X8_heatFor cut0 60 rfl rfl ?_
  repeat' (first | refine And.intro ?_ ?_ | (with_reducible intro h9; exact absurd h9 (by simp only [cI, cN]; decide +kernel)) | with_reducible intro _ | exact (rfl : narrow _ _ = _) | decide)
  all_goals rfl
set_option maxRecDepth 20000 in
theorem bc_first (hg : gOK G) (x : Int32) : Spec G 1 0 0 m_X8_firstNote [.int x] [] (fun v w' => v = some (.int (nI 100 - x)) ∧ w' = []) NX := by
  refine wp_spec (M := M_X8_firstNote) hg ok_X8_firstNote cut0 60 rfl rfl ?_
  repeat' (first | refine And.intro ?_ ?_ | (with_reducible intro h9; exact absurd h9 (by simp only [cI, cN]; decide +kernel)) | with_reducible intro _ | exact (rfl : narrow _ _ = _) | decide)
  all_goals rfl
def hap (h x : Int32) : Int32 := if nI 20 < h - (nI 5 * x + nI 10) / nI 5 then h - (nI 5 * x + nI 10) / nI 5 else nI 20
set_option maxRecDepth 20000 in
theorem bc_after (hg : gOK G) (h x : Int32) : Spec G 2 0 0 m_X8_heatAfterPouring [.int h, .int x] [] (fun v w' => v = some (.int (hap h x)) ∧ w' = []) NX := by
  refine wp_spec (M := M_X8_heatAfterPouring) hg ok_X8_heatAfterPouring cut0 60 rfl rfl ?_
  repeat' (first | refine And.intro ?_ ?_ | (with_reducible intro h9; exact absurd h9 (by simp only [cI, cN]; decide +kernel)) | with_reducible intro _ | exact (rfl : narrow _ _ = _) | decide)
  refine cc0 [] (bc_pounds hg x) (by decide) (by decide) (by decide) rfl (by repeat' (first | exact trivial | refine And.intro ?_ ?_ | rfl)) (by first | rfl | (simp (discharger := omega) only [renVs, renV, rnI, cI, cN, ← nI_0, nI_ltI, nI_leI, nI_eq, nI_add, pk_mul, pk_sub, nI_clamp, vinI, not_true_eq_false, not_false_eq_true, iK0, iK1, iK2, iK3, iK4, iK5, iKm1, bK6, bK7, bK8, bK9, bK10, bK12, bK14, bK15, bK16, bK20, bK21, bK26, bK30, bK32, bK33, bK45, bK48, bK57, bK59, bK60, bK62, bK63, bK64, bK80, bK93, bK98, bK99, bK100, bK104, bK107, bK109, bK110, bK112, bK113, bK114, bK115, bK116, bK119, sK255, sK256, sK500, sK700, sK798, sK912, sK1400, sK2000])) ?_
  (rintro _ _ ⟨rfl, rfl⟩) <;> (repeat' (first | refine And.intro ?_ ?_ | (with_reducible intro h9; exact absurd h9 (by simp only [cI, cN]; decide +kernel)) | with_reducible intro _ | exact (rfl : narrow _ _ = _) | decide))
  all_goals first | rfl | decide
end TT
