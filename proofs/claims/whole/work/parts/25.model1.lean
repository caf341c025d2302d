/-! ===== the reference: its world; small methods ===== -/
abbrev nT : Type := ((((((Nat → Int32) × (Nat → Int32)) × (Nat → Int32)) × ((Nat → Int32) × (Nat → Int32))) × ((((Nat → Int32) × (Nat → Int32)) × (Nat → Int32)) × (Int32 × Int32))) × ((((Int32 × Int32) × Int32) × (Int32 × Int32)) × ((Int32 × Int32) × (Int32 × Int32))))
abbrev nT.g (N : nT) : (Nat → Int32) := N.1.1.1.1.1
abbrev nT.kp (N : nT) : (Nat → Int32) := N.1.1.1.1.2
abbrev nT.sv (N : nT) : (Nat → Int32) := N.1.1.1.2
abbrev nT.bf (N : nT) : (Nat → Int32) := N.1.1.2.1
abbrev nT.ip (N : nT) : (Nat → Int32) := N.1.1.2.2
abbrev nT.sn (N : nT) : (Nat → Int32) := N.1.2.1.1.1
abbrev nT.cb (N : nT) : (Nat → Int32) := N.1.2.1.1.2
abbrev nT.td (N : nT) : (Nat → Int32) := N.1.2.1.2
abbrev nT.iS (N : nT) : Int32 := N.1.2.2.1
abbrev nT.ch (N : nT) : Int32 := N.1.2.2.2
abbrev nT.iW (N : nT) : Int32 := N.2.1.1.1.1
abbrev nT.co (N : nT) : Int32 := N.2.1.1.1.2
abbrev nT.wy (N : nT) : Int32 := N.2.1.1.2
abbrev nT.de (N : nT) : Int32 := N.2.1.2.1
abbrev nT.ln (N : nT) : Int32 := N.2.1.2.2
abbrev nT.er (N : nT) : Int32 := N.2.2.1.1
abbrev nT.sm (N : nT) : Int32 := N.2.2.1.2
abbrev nT.ap (N : nT) : Int32 := N.2.2.2.1
abbrev nT.tm (N : nT) : Int32 := N.2.2.2.2
abbrev nT.s_g (N : nT) (x : (Nat → Int32)) : nT := (((((x, N.kp), N.sv), (N.bf, N.ip)), (((N.sn, N.cb), N.td), (N.iS, N.ch))), ((((N.iW, N.co), N.wy), (N.de, N.ln)), ((N.er, N.sm), (N.ap, N.tm))))
abbrev nT.s_kp (N : nT) (x : (Nat → Int32)) : nT := (((((N.g, x), N.sv), (N.bf, N.ip)), (((N.sn, N.cb), N.td), (N.iS, N.ch))), ((((N.iW, N.co), N.wy), (N.de, N.ln)), ((N.er, N.sm), (N.ap, N.tm))))
abbrev nT.s_sv (N : nT) (x : (Nat → Int32)) : nT := (((((N.g, N.kp), x), (N.bf, N.ip)), (((N.sn, N.cb), N.td), (N.iS, N.ch))), ((((N.iW, N.co), N.wy), (N.de, N.ln)), ((N.er, N.sm), (N.ap, N.tm))))
abbrev nT.s_bf (N : nT) (x : (Nat → Int32)) : nT := (((((N.g, N.kp), N.sv), (x, N.ip)), (((N.sn, N.cb), N.td), (N.iS, N.ch))), ((((N.iW, N.co), N.wy), (N.de, N.ln)), ((N.er, N.sm), (N.ap, N.tm))))
abbrev nT.s_ip (N : nT) (x : (Nat → Int32)) : nT := (((((N.g, N.kp), N.sv), (N.bf, x)), (((N.sn, N.cb), N.td), (N.iS, N.ch))), ((((N.iW, N.co), N.wy), (N.de, N.ln)), ((N.er, N.sm), (N.ap, N.tm))))
abbrev nT.s_sn (N : nT) (x : (Nat → Int32)) : nT := (((((N.g, N.kp), N.sv), (N.bf, N.ip)), (((x, N.cb), N.td), (N.iS, N.ch))), ((((N.iW, N.co), N.wy), (N.de, N.ln)), ((N.er, N.sm), (N.ap, N.tm))))
abbrev nT.s_cb (N : nT) (x : (Nat → Int32)) : nT := (((((N.g, N.kp), N.sv), (N.bf, N.ip)), (((N.sn, x), N.td), (N.iS, N.ch))), ((((N.iW, N.co), N.wy), (N.de, N.ln)), ((N.er, N.sm), (N.ap, N.tm))))
abbrev nT.s_td (N : nT) (x : (Nat → Int32)) : nT := (((((N.g, N.kp), N.sv), (N.bf, N.ip)), (((N.sn, N.cb), x), (N.iS, N.ch))), ((((N.iW, N.co), N.wy), (N.de, N.ln)), ((N.er, N.sm), (N.ap, N.tm))))
abbrev nT.s_iS (N : nT) (x : Int32) : nT := (((((N.g, N.kp), N.sv), (N.bf, N.ip)), (((N.sn, N.cb), N.td), (x, N.ch))), ((((N.iW, N.co), N.wy), (N.de, N.ln)), ((N.er, N.sm), (N.ap, N.tm))))
abbrev nT.s_ch (N : nT) (x : Int32) : nT := (((((N.g, N.kp), N.sv), (N.bf, N.ip)), (((N.sn, N.cb), N.td), (N.iS, x))), ((((N.iW, N.co), N.wy), (N.de, N.ln)), ((N.er, N.sm), (N.ap, N.tm))))
abbrev nT.s_iW (N : nT) (x : Int32) : nT := (((((N.g, N.kp), N.sv), (N.bf, N.ip)), (((N.sn, N.cb), N.td), (N.iS, N.ch))), ((((x, N.co), N.wy), (N.de, N.ln)), ((N.er, N.sm), (N.ap, N.tm))))
abbrev nT.s_co (N : nT) (x : Int32) : nT := (((((N.g, N.kp), N.sv), (N.bf, N.ip)), (((N.sn, N.cb), N.td), (N.iS, N.ch))), ((((N.iW, x), N.wy), (N.de, N.ln)), ((N.er, N.sm), (N.ap, N.tm))))
abbrev nT.s_wy (N : nT) (x : Int32) : nT := (((((N.g, N.kp), N.sv), (N.bf, N.ip)), (((N.sn, N.cb), N.td), (N.iS, N.ch))), ((((N.iW, N.co), x), (N.de, N.ln)), ((N.er, N.sm), (N.ap, N.tm))))
abbrev nT.s_de (N : nT) (x : Int32) : nT := (((((N.g, N.kp), N.sv), (N.bf, N.ip)), (((N.sn, N.cb), N.td), (N.iS, N.ch))), ((((N.iW, N.co), N.wy), (x, N.ln)), ((N.er, N.sm), (N.ap, N.tm))))
abbrev nT.s_ln (N : nT) (x : Int32) : nT := (((((N.g, N.kp), N.sv), (N.bf, N.ip)), (((N.sn, N.cb), N.td), (N.iS, N.ch))), ((((N.iW, N.co), N.wy), (N.de, x)), ((N.er, N.sm), (N.ap, N.tm))))
abbrev nT.s_er (N : nT) (x : Int32) : nT := (((((N.g, N.kp), N.sv), (N.bf, N.ip)), (((N.sn, N.cb), N.td), (N.iS, N.ch))), ((((N.iW, N.co), N.wy), (N.de, N.ln)), ((x, N.sm), (N.ap, N.tm))))
abbrev nT.s_sm (N : nT) (x : Int32) : nT := (((((N.g, N.kp), N.sv), (N.bf, N.ip)), (((N.sn, N.cb), N.td), (N.iS, N.ch))), ((((N.iW, N.co), N.wy), (N.de, N.ln)), ((N.er, x), (N.ap, N.tm))))
abbrev nT.s_ap (N : nT) (x : Int32) : nT := (((((N.g, N.kp), N.sv), (N.bf, N.ip)), (((N.sn, N.cb), N.td), (N.iS, N.ch))), ((((N.iW, N.co), N.wy), (N.de, N.ln)), ((N.er, N.sm), (x, N.tm))))
abbrev nT.s_tm (N : nT) (x : Int32) : nT := (((((N.g, N.kp), N.sv), (N.bf, N.ip)), (((N.sn, N.cb), N.td), (N.iS, N.ch))), ((((N.iW, N.co), N.wy), (N.de, N.ln)), ((N.er, N.sm), (N.ap, x))))
abbrev nT.ref (N : nT) (a b c : Int32) : nT := (((((N.g, N.kp), N.sv), (N.bf, N.ip)), (((N.sn, N.cb), N.td), (N.iS, N.ch))), ((((N.iW, a), b), (c, N.ln)), ((N.er, N.sm), (N.ap, N.tm))))
def mw (N : nT) : xW := [.inr (12, [.ref 1, .ref 2, .ref 3, .ref 4, .int N.iS, .int N.ch, .int N.iW, .int N.co, .int N.wy, .int N.de, .ref 5, .int N.ln, .int N.er, .ref 6, .int N.sm, .ref 7, .int N.ap, .ref 8, .int N.tm]), .inl (0, 114, .inl N.g), .inl (0, 912, .inl N.kp), .inl (0, 114, .inl N.sv), .inl (0, 114, .inl N.bf), .inl (0, 60, .inl N.ip), .inl (2, 80, .inl N.sn), .inl (1, 256, .inl N.cb), .inl (0, 93, .inl N.td)]
/-- a bell's column in the row; counts -/
abbrev nT.b (N : nT) (i j : Nat) : Int32 := N.g (30 + 7 * i + j)
abbrev nT.nb (N : nT) (n : Nat) : Prop := N.g 4 = nI n ∧ n ≤ 12
def cpo (f2 f : Nat → Int32) (a b k : Nat) : Nat → Int32 := fun q => if b ≤ q ∧ q < b + k then f (a + (q - b)) else f2 q
theorem cpo_0 {f2 f : Nat → Int32} {a b : Nat} : cpo f2 f a b 0 = f2 := funext fun q => if_neg (by omega)
theorem cpo_s {f2 f : Nat → Int32} {a b k : Nat} : upd (cpo f2 f a b k) (b + k) (f (a + k)) = cpo f2 f a b (k + 1) := funext fun q => by
  unfold upd cpo
  by_cases hq : q = b + k
  · subst hq
    rw [if_pos rfl, if_pos (by omega)]
    congr 1
    omega
  · rw [if_neg hq]
    by_cases h2 : b ≤ q ∧ q < b + k
    · rw [if_pos h2, if_pos (by omega)]
    · rw [if_neg h2, if_neg (by omega)]
theorem hasP_iff {x : Int32} {n : Nat} (hn : n < 2 ^ 30) : (nI 0 ≤ x ∧ x ≤ nI n - nI 1) ↔ hasP x n := by
  constructor
  · rintro ⟨h1, h2⟩
    rcases Nat.eq_zero_or_pos n with q | q
    · subst q
      exact absurd (Int32.le_trans h1 h2) (by decide)
    · rw [pk_sub (by omega)] at h2
      obtain ⟨j, hj, rfl⟩ := nI_of (x := x) (by rw [← nI_0]; exact Int32.not_lt.mpr h1)
      rw [nI_leI hj (by omega)] at h2
      exact ⟨j, by omega, rfl⟩
  · rintro ⟨j, hj, rfl⟩
    rw [pk_sub (by omega), nI_leI (by omega) (by omega), nI_leI (by omega) (by omega)]
    omega
section NN
variable {G : gT}
set_option maxRecDepth 20000 in
theorem md_in (hg : gOK G) (x a b : Int32) : Spec G 1 0 0 m_X9_in [.int x, .int a, .int b] [] (fun v w' => ((v = some (.int (nI 1)) ∧ a ≤ x ∧ x ≤ b) ∨ (v = some (.int (nI 0)) ∧ ¬ (a ≤ x ∧ x ≤ b))) ∧ w' = []) NX := by
  refine wp_spec (M := M_X9_in) hg ok_X9_in cut0 60 rfl rfl ?_
  repeat' (first | refine And.intro ?_ ?_ | (with_reducible intro h9; exact absurd h9 (by simp only [cI, cN]; decide +kernel)) | with_reducible intro _ | exact (rfl : narrow _ _ = _) | decide | (unfold vp_in; decide))
  all_goals first
    | rfl
    | exact Or.inl ⟨rfl, Int32.not_lt.mp (by assumption), Int32.not_lt.mp (by assumption)⟩
    | exact Or.inr ⟨rfl, fun z => absurd z.1 (Int32.not_le.mpr (by assumption))⟩
    | exact Or.inr ⟨rfl, fun z => absurd z.2 (Int32.not_le.mpr (by assumption))⟩
set_option maxRecDepth 20000 in
theorem md_most (hg : gOK G) (x y : Int32) : Spec G 1 0 0 m_X9_most [.int x, .int y] [] (fun v w' => v = some (.int (mxi x y)) ∧ w' = []) NX := by
  refine wp_spec (M := M_X9_most) hg ok_X9_most cut0 60 rfl rfl ?_
  repeat' (first | refine And.intro ?_ ?_ | (with_reducible intro h9; exact absurd h9 (by simp only [cI, cN]; decide +kernel)) | with_reducible intro _ | exact (rfl : narrow _ _ = _) | decide | (unfold vp_in; decide))
  · rename_i g
    simp only [cI] at g
    show _ = some (Value.int (if x < y then y else x))
    by_cases h : x < y
    · rw [if_pos h]
    · rw [if_neg h]
      have : x = y := Int32.le_antisymm g (Int32.not_lt.mp h)
      rw [this]
  · rename_i g
    simp only [cN] at g
    show _ = some (Value.int (if x < y then y else x))
    rw [if_neg (fun h => g (Int32.le_of_lt h))]
  all_goals rfl
set_option maxRecDepth 20000 in
theorem md_thrown (hg : gOK G) (N : nT) : Spec G 1 0 0 m_X9_thrown [.ref 0] (mw N) (fun v w' => v = some (.int N.co) ∧ w' = mw N) NX := by
  refine wp_spec (M := M_X9_thrown) hg ok_X9_thrown cut0 60 rfl rfl ?_
  repeat' (first | refine And.intro ?_ ?_ | (with_reducible intro h9; exact absurd h9 (by simp only [cI, cN]; decide +kernel)) | with_reducible intro _ | exact (rfl : narrow _ _ = _) | decide | (unfold vp_in; decide))
  all_goals rfl
set_option maxRecDepth 20000 in
theorem md_f0 (hg : gOK G) (N : nT) : Spec G 1 0 0 m_X9_fails [.ref 0, .int (nI 0)] (mw N) (fun v w' => v = some (.int (nI 0)) ∧ w' = mw (N.s_co (nI 0))) NX := by
  refine wp_spec (M := M_X9_fails) hg ok_X9_fails cut0 60 rfl rfl ?_
  repeat' (first | refine And.intro ?_ ?_ | (with_reducible intro h9; exact absurd h9 (by simp only [cI, cN]; decide +kernel)) | with_reducible intro _ | exact (rfl : narrow _ _ = _) | decide | (unfold vp_in; decide))
  all_goals rfl
set_option maxRecDepth 20000 in
theorem md_f1 (hg : gOK G) (N : nT) : Spec G 1 0 0 m_X9_fails [.ref 0, .int (nI 1)] (mw N) (fun v w' => v = some (.int (nI 1)) ∧ w' = mw (N.s_co (nI 1))) NX := by
  refine wp_spec (M := M_X9_fails) hg ok_X9_fails cut0 60 rfl rfl ?_
  repeat' (first | refine And.intro ?_ ?_ | (with_reducible intro h9; exact absurd h9 (by simp only [cI, cN]; decide +kernel)) | with_reducible intro _ | exact (rfl : narrow _ _ = _) | decide | (unfold vp_in; decide))
  all_goals rfl
set_option maxRecDepth 20000 in
theorem md_f2 (hg : gOK G) (N : nT) : Spec G 1 0 0 m_X9_fails [.ref 0, .int (nI 2)] (mw N) (fun v w' => v = some (.int (nI 1)) ∧ w' = mw (N.s_co (nI 2))) NX := by
  refine wp_spec (M := M_X9_fails) hg ok_X9_fails cut0 60 rfl rfl ?_
  repeat' (first | refine And.intro ?_ ?_ | (with_reducible intro h9; exact absurd h9 (by simp only [cI, cN]; decide +kernel)) | with_reducible intro _ | exact (rfl : narrow _ _ = _) | decide | (unfold vp_in; decide))
  all_goals rfl
set_option maxRecDepth 20000 in
theorem md_ref (hg : gOK G) (N : nT) (x y : Int32) : Spec G 1 0 0 m_X9_refuses [.ref 0, .int x, .int y] (mw N) (fun v w' => v = some (.int (nI 0)) ∧ w' = mw (N.ref (nI 2) x y)) NX := by
  refine wp_spec (M := M_X9_refuses) hg ok_X9_refuses cut0 60 rfl rfl ?_
  repeat' (first | refine And.intro ?_ ?_ | (with_reducible intro h9; exact absurd h9 (by simp only [cI, cN]; decide +kernel)) | with_reducible intro _ | exact (rfl : narrow _ _ = _) | decide | (unfold vp_in; decide))
  all_goals rfl
set_option maxRecDepth 20000 in
theorem md_ref3 (hg : gOK G) (N : nT) (x y : Int32) : Spec G 2 0 0 m_X9_refuses3 [.ref 0, .int x, .int y] (mw N) (fun v w' => v = some (.int (nI 0)) ∧ w' = mw (N.ref (nI 3) x y)) NX := by
  refine wp_spec (M := M_X9_refuses3) hg ok_X9_refuses3 cut0 60 rfl rfl ?_
  repeat' (first | refine And.intro ?_ ?_ | (with_reducible intro h9; exact absurd h9 (by simp only [cI, cN]; decide +kernel)) | with_reducible intro _ | exact (rfl : narrow _ _ = _) | decide | (unfold vp_in; decide))
  refine cc0 [0, 1, 2, 3, 4, 5, 6, 7, 8] (md_ref hg N x y) (by decide) (by decide) (by decide) rfl (by repeat' (first | exact trivial | refine And.intro ?_ ?_ | rfl)) (by first | rfl | (simp (discharger := omega) only [renVs, renV, rnI, cI, cN, ← nI_0, nI_ltI, nI_leI, nI_eq, nI_add, pk_mul, pk_sub, nI_clamp, vinI, not_true_eq_false, not_false_eq_true, iK0, iK1, iK2, iK3, iK4, iK5, iKm1, bK6, bK7, bK8, bK9, bK10, bK12, bK14, bK15, bK16, bK20, bK21, bK26, bK30, bK32, bK33, bK45, bK48, bK57, bK59, bK60, bK62, bK63, bK64, bK80, bK93, bK98, bK99, bK100, bK104, bK107, bK109, bK110, bK112, bK113, bK114, bK115, bK116, bK119, sK255, sK256, sK500, sK700, sK798, sK912, sK1400, sK2000])) ?_
  (rintro _ _ ⟨rfl, rfl⟩) <;> (repeat' (first | refine And.intro ?_ ?_ | (with_reducible intro h9; exact absurd h9 (by simp only [cI, cN]; decide +kernel)) | with_reducible intro _ | exact (rfl : narrow _ _ = _) | decide | (unfold vp_in; decide)))
  all_goals rfl
set_option maxRecDepth 20000 in
theorem md_copies_l (hg : gOK G) (n1 n2 a b : Nat) (f f2 : Nat → Int32) (h1 : a + 114 ≤ n1) (h2 : b + 114 ≤ n2) (h3 : n1 ≤ 2000) (h4 : n2 ≤ 2000) {K : Option Value → xW → Prop} {KX : Nat → xW → Prop} (hK : K none [.inl (0, n1, .inl f), .inl (0, n2, .inl (cpo f2 f a b 114))]) : ∀ (c k : Nat) (hk : k ≤ 114) (hc9 : 114 - k = c),
    AW G M_X9_copies 1 0 0 3 [some (.ref 0), some (.int (nI a)), some (.ref 1), some (.int (nI b)), some (.int (nI k))] [] [.inl (0, n1, .inl f), .inl (0, n2, .inl (cpo f2 f a b k))] K KX := by
  intro c
  induction c using Nat.strongRecOn with | ind c ih => ?_
  intro k hk hc9
  refine wp_ok (M := M_X9_copies) hg ok_X9_copies (lkp [(3, [true, true, true, true, true])]) 60 _ _ _ _ _ _ ?_
  repeat' (first | refine And.intro ?_ ?_ | (with_reducible intro h9; exact absurd h9 (by simp only [cI, cN]; decide +kernel)) | with_reducible intro _ | exact (rfl : narrow _ _ = _) | decide | (unfold vp_in; decide))
  all_goals ((try simp (discharger := omega) only [cI, cN, ← nI_0, nI_ltI, nI_leI, nI_eq, nI_add, pk_mul, pk_sub, nI_clamp, vinI, not_true_eq_false, not_false_eq_true, iK0, iK1, iK2, iK3, iK4, iK5, iKm1, bK6, bK7, bK8, bK9, bK10, bK12, bK14, bK15, bK16, bK20, bK21, bK26, bK30, bK32, bK33, bK45, bK48, bK57, bK59, bK60, bK62, bK63, bK64, bK80, bK93, bK98, bK99, bK100, bK104, bK107, bK109, bK110, bK112, bK113, bK114, bK115, bK116, bK119, sK255, sK256, sK500, sK700, sK798, sK912, sK1400, sK2000] at *) <;> (try simp (discharger := omega) only [cI, cN, ← nI_0, nI_ltI, nI_leI, nI_eq, nI_add, pk_mul, pk_sub, nI_clamp, vinI, not_true_eq_false, not_false_eq_true, iK0, iK1, iK2, iK3, iK4, iK5, iKm1, bK6, bK7, bK8, bK9, bK10, bK12, bK14, bK15, bK16, bK20, bK21, bK26, bK30, bK32, bK33, bK45, bK48, bK57, bK59, bK60, bK62, bK63, bK64, bK80, bK93, bK98, bK99, bK100, bK104, bK107, bK109, bK110, bK112, bK113, bK114, bK115, bK116, bK119, sK255, sK256, sK500, sK700, sK798, sK912, sK1400, sK2000] at *))
  all_goals try omega
  · have : k = 114 := by omega
    subst this
    exact hK
  · exact AW.cg (ih _ (by omega) (k + 1) (by omega) rfl) rfl rfl rfl (by first | rfl | (simp (discharger := omega) only [msk, clr_i, clr_r, cI, cN, ← nI_0, nI_ltI, nI_leI, nI_eq, nI_add, pk_mul, pk_sub, nI_clamp, vinI, not_true_eq_false, not_false_eq_true, iK0, iK1, iK2, iK3, iK4, iK5, iKm1, bK6, bK7, bK8, bK9, bK10, bK12, bK14, bK15, bK16, bK20, bK21, bK26, bK30, bK32, bK33, bK45, bK48, bK57, bK59, bK60, bK62, bK63, bK64, bK80, bK93, bK98, bK99, bK100, bK104, bK107, bK109, bK110, bK112, bK113, bK114, bK115, bK116, bK119, sK255, sK256, sK500, sK700, sK798, sK912, sK1400, sK2000]; done) | (simp (discharger := omega) only [msk, clr_i, clr_r, cI, cN, ← nI_0, nI_ltI, nI_leI, nI_eq, nI_add, pk_mul, pk_sub, nI_clamp, vinI, not_true_eq_false, not_false_eq_true, iK0, iK1, iK2, iK3, iK4, iK5, iKm1, bK6, bK7, bK8, bK9, bK10, bK12, bK14, bK15, bK16, bK20, bK21, bK26, bK30, bK32, bK33, bK45, bK48, bK57, bK59, bK60, bK62, bK63, bK64, bK80, bK93, bK98, bK99, bK100, bK104, bK107, bK109, bK110, bK112, bK113, bK114, bK115, bK116, bK119, sK255, sK256, sK500, sK700, sK798, sK912, sK1400, sK2000]; rfl)) rfl (by (rw [← cpo_s]) <;> first | rfl | (simp (discharger := omega) only [nI_add, nI_clamp]))
set_option maxRecDepth 20000 in
theorem md_copies (hg : gOK G) (n1 n2 a b : Nat) (f f2 : Nat → Int32) (h1 : a + 114 ≤ n1) (h2 : b + 114 ≤ n2) (h3 : n1 ≤ 2000) (h4 : n2 ≤ 2000) : Spec G 1 0 0 m_X9_copies [.ref 0, .int (nI a), .ref 1, .int (nI b)] [.inl (0, n1, .inl f), .inl (0, n2, .inl f2)] (fun v w' => v = none ∧ w' = [.inl (0, n1, .inl f), .inl (0, n2, .inl (cpo f2 f a b 114))]) NX := by
  refine wp_spec (M := M_X9_copies) hg ok_X9_copies (lkp [(3, [true, true, true, true, true])]) 60 rfl rfl ?_
  repeat' (first | refine And.intro ?_ ?_ | (with_reducible intro h9; exact absurd h9 (by simp only [cI, cN]; decide +kernel)) | with_reducible intro _ | exact (rfl : narrow _ _ = _) | decide | (unfold vp_in; decide))
  exact AW.cg (md_copies_l hg n1 n2 a b f f2 h1 h2 h3 h4 ⟨rfl, rfl⟩ _ 0 (by omega) rfl) rfl rfl rfl (by first | rfl | (simp (discharger := omega) only [msk, clr_i, clr_r, cI, cN, ← nI_0, nI_ltI, nI_leI, nI_eq, nI_add, pk_mul, pk_sub, nI_clamp, vinI, not_true_eq_false, not_false_eq_true, iK0, iK1, iK2, iK3, iK4, iK5, iKm1, bK6, bK7, bK8, bK9, bK10, bK12, bK14, bK15, bK16, bK20, bK21, bK26, bK30, bK32, bK33, bK45, bK48, bK57, bK59, bK60, bK62, bK63, bK64, bK80, bK93, bK98, bK99, bK100, bK104, bK107, bK109, bK110, bK112, bK113, bK114, bK115, bK116, bK119, sK255, sK256, sK500, sK700, sK798, sK912, sK1400, sK2000]; done) | (simp (discharger := omega) only [msk, clr_i, clr_r, cI, cN, ← nI_0, nI_ltI, nI_leI, nI_eq, nI_add, pk_mul, pk_sub, nI_clamp, vinI, not_true_eq_false, not_false_eq_true, iK0, iK1, iK2, iK3, iK4, iK5, iKm1, bK6, bK7, bK8, bK9, bK10, bK12, bK14, bK15, bK16, bK20, bK21, bK26, bK30, bK32, bK33, bK45, bK48, bK57, bK59, bK60, bK62, bK63, bK64, bK80, bK93, bK98, bK99, bK100, bK104, bK107, bK109, bK110, bK112, bK113, bK114, bK115, bK116, bK119, sK255, sK256, sK500, sK700, sK798, sK912, sK1400, sK2000]; rfl)) rfl (by (rw [cpo_0]) <;> rfl)
theorem md_goes_l2 (hg : gOK G) (N : nT) (fr sz pl mn : Nat) (h1 : pl < mn) (h2 : fr + sz * mn ≤ 114) (h3 : sz ≤ 10) {K : Option Value → xW → Prop} {KX : Nat → xW → Prop} (g0 : Nat → Int32) (hK : K none (mw (N.s_g (zer g0 (fr + sz * (mn - 1)) (fr + sz * (mn - 1) + sz))))) : ∀ (c k : Nat) (hk : k ≤ sz) (hc9 : sz - k = c),
    AW G M_X9_goes 1 0 0 45 [some (.ref 0), some (.int (nI fr)), some (.int (nI sz)), some (.int (nI pl)), some (.int (nI mn)), some (.int (nI k))] [] (mw (N.s_g (zer g0 (fr + sz * (mn - 1)) (fr + sz * (mn - 1) + k)))) K KX := by
  intro c
  induction c using Nat.strongRecOn with | ind c ih => ?_
  intro k hk hc9
  have e1 : sz * mn = sz * (mn - 1) + sz := by rw [← Nat.mul_succ]; congr 1; omega
  have e2 : mn ≤ 114 ∨ sz = 0 := by
    rcases Nat.eq_zero_or_pos sz with q | q
    · exact Or.inr q
    · exact Or.inl (Nat.le_trans (Nat.le_mul_of_pos_left mn q) (by omega))
  refine wp_ok (M := M_X9_goes) hg ok_X9_goes (lkp [(45, [true, true, true, true, true, true])]) 60 _ _ _ _ _ _ ?_
  repeat' (first | refine And.intro ?_ ?_ | (with_reducible intro h9; exact absurd h9 (by simp only [cI, cN]; decide +kernel)) | with_reducible intro _ | exact (rfl : narrow _ _ = _) | decide | (unfold vp_in; decide))
  all_goals ((try simp (discharger := omega) only [cI, cN, ← nI_0, nI_ltI, nI_leI, nI_eq, nI_add, pk_mul, pk_sub, nI_clamp, vinI, not_true_eq_false, not_false_eq_true, iK0, iK1, iK2, iK3, iK4, iK5, iKm1, bK6, bK7, bK8, bK9, bK10, bK12, bK14, bK15, bK16, bK20, bK21, bK26, bK30, bK32, bK33, bK45, bK48, bK57, bK59, bK60, bK62, bK63, bK64, bK80, bK93, bK98, bK99, bK100, bK104, bK107, bK109, bK110, bK112, bK113, bK114, bK115, bK116, bK119, sK255, sK256, sK500, sK700, sK798, sK912, sK1400, sK2000] at *) <;> (try simp (discharger := omega) only [cI, cN, ← nI_0, nI_ltI, nI_leI, nI_eq, nI_add, pk_mul, pk_sub, nI_clamp, vinI, not_true_eq_false, not_false_eq_true, iK0, iK1, iK2, iK3, iK4, iK5, iKm1, bK6, bK7, bK8, bK9, bK10, bK12, bK14, bK15, bK16, bK20, bK21, bK26, bK30, bK32, bK33, bK45, bK48, bK57, bK59, bK60, bK62, bK63, bK64, bK80, bK93, bK98, bK99, bK100, bK104, bK107, bK109, bK110, bK112, bK113, bK114, bK115, bK116, bK119, sK255, sK256, sK500, sK700, sK798, sK912, sK1400, sK2000] at *))
  all_goals try omega
  · have : k = sz := by omega
    subst this
    exact hK
  · exact AW.cg (ih _ (by omega) (k + 1) (by omega) rfl) rfl rfl rfl (by first | rfl | (simp (discharger := omega) only [msk, clr_i, clr_r, cI, cN, ← nI_0, nI_ltI, nI_leI, nI_eq, nI_add, pk_mul, pk_sub, nI_clamp, vinI, not_true_eq_false, not_false_eq_true, iK0, iK1, iK2, iK3, iK4, iK5, iKm1, bK6, bK7, bK8, bK9, bK10, bK12, bK14, bK15, bK16, bK20, bK21, bK26, bK30, bK32, bK33, bK45, bK48, bK57, bK59, bK60, bK62, bK63, bK64, bK80, bK93, bK98, bK99, bK100, bK104, bK107, bK109, bK110, bK112, bK113, bK114, bK115, bK116, bK119, sK255, sK256, sK500, sK700, sK798, sK912, sK1400, sK2000]; done) | (simp (discharger := omega) only [msk, clr_i, clr_r, cI, cN, ← nI_0, nI_ltI, nI_leI, nI_eq, nI_add, pk_mul, pk_sub, nI_clamp, vinI, not_true_eq_false, not_false_eq_true, iK0, iK1, iK2, iK3, iK4, iK5, iKm1, bK6, bK7, bK8, bK9, bK10, bK12, bK14, bK15, bK16, bK20, bK21, bK26, bK30, bK32, bK33, bK45, bK48, bK57, bK59, bK60, bK62, bK63, bK64, bK80, bK93, bK98, bK99, bK100, bK104, bK107, bK109, bK110, bK112, bK113, bK114, bK115, bK116, bK119, sK255, sK256, sK500, sK700, sK798, sK912, sK1400, sK2000]; rfl)) rfl (by (rw [← Nat.add_assoc, ← zer_s (by omega)]) <;> first | rfl | (simp (discharger := omega) only [nI_add, nI_clamp]))
theorem md_goes_l1 (hg : gOK G) (N : nT) (fr sz pl mn : Nat) (h1 : pl < mn) (h2 : fr + sz * mn ≤ 114) (h3 : sz ≤ 10) (h4 : mn ≤ 20) {K : Option Value → xW → Prop} {KX : Nat → xW → Prop} (g0 : Nat → Int32) (hK : K none (mw (N.s_g (zer (shf g0 (fr + sz * pl) (fr + sz * (mn - 1)) sz) (fr + sz * (mn - 1)) (fr + sz * (mn - 1) + sz))))) : ∀ (c k : Nat) (hk0 : fr + sz * pl ≤ k) (hk : k ≤ fr + sz * (mn - 1)) (hc9 : fr + sz * (mn - 1) - k = c),
    AW G M_X9_goes 1 0 0 7 [some (.ref 0), some (.int (nI fr)), some (.int (nI sz)), some (.int (nI pl)), some (.int (nI mn)), some (.int (nI k))] [] (mw (N.s_g (shf g0 (fr + sz * pl) k sz))) K KX := by
  intro c
  induction c using Nat.strongRecOn with | ind c ih => ?_
  intro k hk0 hk hc9
  have e1 : sz * mn = sz * (mn - 1) + sz := by rw [← Nat.mul_succ]; congr 1; omega
  refine wp_ok (M := M_X9_goes) hg ok_X9_goes (lkp [(7, [true, true, true, true, true, true]), (45, [true, true, true, true, true, true])]) 60 _ _ _ _ _ _ ?_
  repeat' (first | refine And.intro ?_ ?_ | (with_reducible intro h9; exact absurd h9 (by simp only [cI, cN]; decide +kernel)) | with_reducible intro _ | exact (rfl : narrow _ _ = _) | decide | (unfold vp_in; decide))
  all_goals ((try simp (discharger := omega) only [cI, cN, ← nI_0, nI_ltI, nI_leI, nI_eq, nI_add, pk_mul, pk_sub, nI_clamp, vinI, not_true_eq_false, not_false_eq_true, iK0, iK1, iK2, iK3, iK4, iK5, iKm1, bK6, bK7, bK8, bK9, bK10, bK12, bK14, bK15, bK16, bK20, bK21, bK26, bK30, bK32, bK33, bK45, bK48, bK57, bK59, bK60, bK62, bK63, bK64, bK80, bK93, bK98, bK99, bK100, bK104, bK107, bK109, bK110, bK112, bK113, bK114, bK115, bK116, bK119, sK255, sK256, sK500, sK700, sK798, sK912, sK1400, sK2000] at *) <;> (try simp (discharger := omega) only [cI, cN, ← nI_0, nI_ltI, nI_leI, nI_eq, nI_add, pk_mul, pk_sub, nI_clamp, vinI, not_true_eq_false, not_false_eq_true, iK0, iK1, iK2, iK3, iK4, iK5, iKm1, bK6, bK7, bK8, bK9, bK10, bK12, bK14, bK15, bK16, bK20, bK21, bK26, bK30, bK32, bK33, bK45, bK48, bK57, bK59, bK60, bK62, bK63, bK64, bK80, bK93, bK98, bK99, bK100, bK104, bK107, bK109, bK110, bK112, bK113, bK114, bK115, bK116, bK119, sK255, sK256, sK500, sK700, sK798, sK912, sK1400, sK2000] at *))
  all_goals try omega
  · have : k = fr + sz * (mn - 1) := by omega
    subst this
    exact AW.cg (md_goes_l2 hg N fr sz pl mn h1 h2 h3 _ hK _ 0 (by omega) rfl) rfl rfl rfl (by first | rfl | (simp (discharger := omega) only [msk, clr_i, clr_r, cI, cN, ← nI_0, nI_ltI, nI_leI, nI_eq, nI_add, pk_mul, pk_sub, nI_clamp, vinI, not_true_eq_false, not_false_eq_true, iK0, iK1, iK2, iK3, iK4, iK5, iKm1, bK6, bK7, bK8, bK9, bK10, bK12, bK14, bK15, bK16, bK20, bK21, bK26, bK30, bK32, bK33, bK45, bK48, bK57, bK59, bK60, bK62, bK63, bK64, bK80, bK93, bK98, bK99, bK100, bK104, bK107, bK109, bK110, bK112, bK113, bK114, bK115, bK116, bK119, sK255, sK256, sK500, sK700, sK798, sK912, sK1400, sK2000]; done) | (simp (discharger := omega) only [msk, clr_i, clr_r, cI, cN, ← nI_0, nI_ltI, nI_leI, nI_eq, nI_add, pk_mul, pk_sub, nI_clamp, vinI, not_true_eq_false, not_false_eq_true, iK0, iK1, iK2, iK3, iK4, iK5, iKm1, bK6, bK7, bK8, bK9, bK10, bK12, bK14, bK15, bK16, bK20, bK21, bK26, bK30, bK32, bK33, bK45, bK48, bK57, bK59, bK60, bK62, bK63, bK64, bK80, bK93, bK98, bK99, bK100, bK104, bK107, bK109, bK110, bK112, bK113, bK114, bK115, bK116, bK119, sK255, sK256, sK500, sK700, sK798, sK912, sK1400, sK2000]; rfl)) rfl (by (rw [Nat.add_zero, zer_0]) <;> rfl)
  · exact AW.cg (ih _ (by omega) (k + 1) (by omega) (by omega) rfl) rfl rfl rfl (by first | rfl | (simp (discharger := omega) only [msk, clr_i, clr_r, cI, cN, ← nI_0, nI_ltI, nI_leI, nI_eq, nI_add, pk_mul, pk_sub, nI_clamp, vinI, not_true_eq_false, not_false_eq_true, iK0, iK1, iK2, iK3, iK4, iK5, iKm1, bK6, bK7, bK8, bK9, bK10, bK12, bK14, bK15, bK16, bK20, bK21, bK26, bK30, bK32, bK33, bK45, bK48, bK57, bK59, bK60, bK62, bK63, bK64, bK80, bK93, bK98, bK99, bK100, bK104, bK107, bK109, bK110, bK112, bK113, bK114, bK115, bK116, bK119, sK255, sK256, sK500, sK700, sK798, sK912, sK1400, sK2000]; done) | (simp (discharger := omega) only [msk, clr_i, clr_r, cI, cN, ← nI_0, nI_ltI, nI_leI, nI_eq, nI_add, pk_mul, pk_sub, nI_clamp, vinI, not_true_eq_false, not_false_eq_true, iK0, iK1, iK2, iK3, iK4, iK5, iKm1, bK6, bK7, bK8, bK9, bK10, bK12, bK14, bK15, bK16, bK20, bK21, bK26, bK30, bK32, bK33, bK45, bK48, bK57, bK59, bK60, bK62, bK63, bK64, bK80, bK93, bK98, bK99, bK100, bK104, bK107, bK109, bK110, bK112, bK113, bK114, bK115, bK116, bK119, sK255, sK256, sK500, sK700, sK798, sK912, sK1400, sK2000]; rfl)) rfl (by (rw [← shf_s hk0, ← shf_at (f := g0) (a := fr + sz * pl) (k := k) (s := sz)]) <;> first | rfl | (simp (discharger := omega) only [nI_add, nI_clamp]))
set_option maxRecDepth 20000 in
theorem md_goes (hg : gOK G) (N : nT) (fr sz pl mn : Nat) (h1 : pl < mn) (h2 : fr + sz * mn ≤ 114) (h3 : sz ≤ 10) (h4 : mn ≤ 20) : Spec G 1 0 0 m_X9_goes [.ref 0, .int (nI fr), .int (nI sz), .int (nI pl), .int (nI mn)] (mw N) (fun v w' => v = none ∧ w' = mw (N.s_g (zer (shf N.g (fr + sz * pl) (fr + sz * (mn - 1)) sz) (fr + sz * (mn - 1)) (fr + sz * (mn - 1) + sz)))) NX := by
  have e1 : sz * mn = sz * (mn - 1) + sz := by rw [← Nat.mul_succ]; congr 1; omega
  have e2 : sz * pl ≤ sz * (mn - 1) := Nat.mul_le_mul_left sz (by omega)
  refine wp_spec (M := M_X9_goes) hg ok_X9_goes (lkp [(7, [true, true, true, true, true, true]), (45, [true, true, true, true, true, true])]) 60 rfl rfl ?_
  repeat' (first | refine And.intro ?_ ?_ | (with_reducible intro h9; exact absurd h9 (by simp only [cI, cN]; decide +kernel)) | with_reducible intro _ | exact (rfl : narrow _ _ = _) | decide | (unfold vp_in; decide))
  all_goals ((try simp (discharger := omega) only [cI, cN, ← nI_0, nI_ltI, nI_leI, nI_eq, nI_add, pk_mul, pk_sub, nI_clamp, vinI, not_true_eq_false, not_false_eq_true, iK0, iK1, iK2, iK3, iK4, iK5, iKm1, bK6, bK7, bK8, bK9, bK10, bK12, bK14, bK15, bK16, bK20, bK21, bK26, bK30, bK32, bK33, bK45, bK48, bK57, bK59, bK60, bK62, bK63, bK64, bK80, bK93, bK98, bK99, bK100, bK104, bK107, bK109, bK110, bK112, bK113, bK114, bK115, bK116, bK119, sK255, sK256, sK500, sK700, sK798, sK912, sK1400, sK2000] at *) <;> (try simp (discharger := omega) only [cI, cN, ← nI_0, nI_ltI, nI_leI, nI_eq, nI_add, pk_mul, pk_sub, nI_clamp, vinI, not_true_eq_false, not_false_eq_true, iK0, iK1, iK2, iK3, iK4, iK5, iKm1, bK6, bK7, bK8, bK9, bK10, bK12, bK14, bK15, bK16, bK20, bK21, bK26, bK30, bK32, bK33, bK45, bK48, bK57, bK59, bK60, bK62, bK63, bK64, bK80, bK93, bK98, bK99, bK100, bK104, bK107, bK109, bK110, bK112, bK113, bK114, bK115, bK116, bK119, sK255, sK256, sK500, sK700, sK798, sK912, sK1400, sK2000] at *))
  exact AW.cg (md_goes_l1 hg N fr sz pl mn h1 h2 h3 h4 N.g ⟨rfl, rfl⟩ _ (fr + sz * pl) (by omega) (by omega) rfl) rfl rfl rfl (by first | rfl | (simp (discharger := omega) only [msk, clr_i, clr_r, cI, cN, ← nI_0, nI_ltI, nI_leI, nI_eq, nI_add, pk_mul, pk_sub, nI_clamp, vinI, not_true_eq_false, not_false_eq_true, iK0, iK1, iK2, iK3, iK4, iK5, iKm1, bK6, bK7, bK8, bK9, bK10, bK12, bK14, bK15, bK16, bK20, bK21, bK26, bK30, bK32, bK33, bK45, bK48, bK57, bK59, bK60, bK62, bK63, bK64, bK80, bK93, bK98, bK99, bK100, bK104, bK107, bK109, bK110, bK112, bK113, bK114, bK115, bK116, bK119, sK255, sK256, sK500, sK700, sK798, sK912, sK1400, sK2000]; done) | (simp (discharger := omega) only [msk, clr_i, clr_r, cI, cN, ← nI_0, nI_ltI, nI_leI, nI_eq, nI_add, pk_mul, pk_sub, nI_clamp, vinI, not_true_eq_false, not_false_eq_true, iK0, iK1, iK2, iK3, iK4, iK5, iKm1, bK6, bK7, bK8, bK9, bK10, bK12, bK14, bK15, bK16, bK20, bK21, bK26, bK30, bK32, bK33, bK45, bK48, bK57, bK59, bK60, bK62, bK63, bK64, bK80, bK93, bK98, bK99, bK100, bK104, bK107, bK109, bK110, bK112, bK113, bK114, bK115, bK116, bK119, sK255, sK256, sK500, sK700, sK798, sK912, sK1400, sK2000]; rfl)) rfl (by (rw [shf_0]) <;> rfl)
set_option maxRecDepth 20000 in
theorem md_isMould (hg : gOK G) (N : nT) (n : Nat) (hn : N.g 2 = nI n) (hn9 : n ≤ 100) (x : Int32) : Spec G 2 0 0 m_X9_isMould [.ref 0, .int x] (mw N) (fun v w' => ((v = some (.int (nI 1)) ∧ hasP x n) ∨ (v = some (.int (nI 0)) ∧ ¬ hasP x n)) ∧ w' = mw N) NX := by
  refine wp_spec (M := M_X9_isMould) hg ok_X9_isMould cut0 60 rfl rfl ?_
  repeat' (first | refine And.intro ?_ ?_ | (with_reducible intro h9; exact absurd h9 (by simp only [cI, cN]; decide +kernel)) | with_reducible intro _ | exact (rfl : narrow _ _ = _) | decide | (unfold vp_in; decide))
  refine cc0 [] (md_in hg x (nI 0) (N.g 2 - nI 1)) (by decide) (by decide) (by decide) rfl (by repeat' (first | exact trivial | refine And.intro ?_ ?_ | rfl)) (by first | rfl | (simp (discharger := omega) only [renVs, renV, rnI, cI, cN, ← nI_0, nI_ltI, nI_leI, nI_eq, nI_add, pk_mul, pk_sub, nI_clamp, vinI, not_true_eq_false, not_false_eq_true, iK0, iK1, iK2, iK3, iK4, iK5, iKm1, bK6, bK7, bK8, bK9, bK10, bK12, bK14, bK15, bK16, bK20, bK21, bK26, bK30, bK32, bK33, bK45, bK48, bK57, bK59, bK60, bK62, bK63, bK64, bK80, bK93, bK98, bK99, bK100, bK104, bK107, bK109, bK110, bK112, bK113, bK114, bK115, bK116, bK119, sK255, sK256, sK500, sK700, sK798, sK912, sK1400, sK2000])) ?_
  (rintro _ _ ⟨⟨rfl, q⟩ | ⟨rfl, q⟩, rfl⟩) <;> (repeat' (first | refine And.intro ?_ ?_ | (with_reducible intro h9; exact absurd h9 (by simp only [cI, cN]; decide +kernel)) | with_reducible intro _ | exact (rfl : narrow _ _ = _) | decide | (unfold vp_in; decide)))
  all_goals first
    | rfl
    | (rw [hn, hasP_iff (by omega)] at q; first | exact Or.inl ⟨rfl, q⟩ | exact Or.inr ⟨rfl, q⟩)
set_option maxRecDepth 20000 in
theorem md_isRack (hg : gOK G) (N : nT) (n : Nat) (hn : N.g 3 = nI n) (hn9 : n ≤ 100) (x : Int32) : Spec G 2 0 0 m_X9_isRack [.ref 0, .int x] (mw N) (fun v w' => ((v = some (.int (nI 1)) ∧ hasP x n) ∨ (v = some (.int (nI 0)) ∧ ¬ hasP x n)) ∧ w' = mw N) NX := by
  refine wp_spec (M := M_X9_isRack) hg ok_X9_isRack cut0 60 rfl rfl ?_
  repeat' (first | refine And.intro ?_ ?_ | (with_reducible intro h9; exact absurd h9 (by simp only [cI, cN]; decide +kernel)) | with_reducible intro _ | exact (rfl : narrow _ _ = _) | decide | (unfold vp_in; decide))
  refine cc0 [] (md_in hg x (nI 0) (N.g 3 - nI 1)) (by decide) (by decide) (by decide) rfl (by repeat' (first | exact trivial | refine And.intro ?_ ?_ | rfl)) (by first | rfl | (simp (discharger := omega) only [renVs, renV, rnI, cI, cN, ← nI_0, nI_ltI, nI_leI, nI_eq, nI_add, pk_mul, pk_sub, nI_clamp, vinI, not_true_eq_false, not_false_eq_true, iK0, iK1, iK2, iK3, iK4, iK5, iKm1, bK6, bK7, bK8, bK9, bK10, bK12, bK14, bK15, bK16, bK20, bK21, bK26, bK30, bK32, bK33, bK45, bK48, bK57, bK59, bK60, bK62, bK63, bK64, bK80, bK93, bK98, bK99, bK100, bK104, bK107, bK109, bK110, bK112, bK113, bK114, bK115, bK116, bK119, sK255, sK256, sK500, sK700, sK798, sK912, sK1400, sK2000])) ?_
  (rintro _ _ ⟨⟨rfl, q⟩ | ⟨rfl, q⟩, rfl⟩) <;> (repeat' (first | refine And.intro ?_ ?_ | (with_reducible intro h9; exact absurd h9 (by simp only [cI, cN]; decide +kernel)) | with_reducible intro _ | exact (rfl : narrow _ _ = _) | decide | (unfold vp_in; decide)))
  all_goals first
    | rfl
    | (rw [hn, hasP_iff (by omega)] at q; first | exact Or.inl ⟨rfl, q⟩ | exact Or.inr ⟨rfl, q⟩)
set_option maxRecDepth 20000 in
theorem md_isBell (hg : gOK G) (N : nT) (n : Nat) (hn : N.g 4 = nI n) (hn9 : n ≤ 100) (x : Int32) : Spec G 2 0 0 m_X9_isBell [.ref 0, .int x] (mw N) (fun v w' => ((v = some (.int (nI 1)) ∧ hasP x n) ∨ (v = some (.int (nI 0)) ∧ ¬ hasP x n)) ∧ w' = mw N) NX := by
  refine wp_spec (M := M_X9_isBell) hg ok_X9_isBell cut0 60 rfl rfl ?_
  repeat' (first | refine And.intro ?_ ?_ | (with_reducible intro h9; exact absurd h9 (by simp only [cI, cN]; decide +kernel)) | with_reducible intro _ | exact (rfl : narrow _ _ = _) | decide | (unfold vp_in; decide))
  refine cc0 [] (md_in hg x (nI 0) (N.g 4 - nI 1)) (by decide) (by decide) (by decide) rfl (by repeat' (first | exact trivial | refine And.intro ?_ ?_ | rfl)) (by first | rfl | (simp (discharger := omega) only [renVs, renV, rnI, cI, cN, ← nI_0, nI_ltI, nI_leI, nI_eq, nI_add, pk_mul, pk_sub, nI_clamp, vinI, not_true_eq_false, not_false_eq_true, iK0, iK1, iK2, iK3, iK4, iK5, iKm1, bK6, bK7, bK8, bK9, bK10, bK12, bK14, bK15, bK16, bK20, bK21, bK26, bK30, bK32, bK33, bK45, bK48, bK57, bK59, bK60, bK62, bK63, bK64, bK80, bK93, bK98, bK99, bK100, bK104, bK107, bK109, bK110, bK112, bK113, bK114, bK115, bK116, bK119, sK255, sK256, sK500, sK700, sK798, sK912, sK1400, sK2000])) ?_
  (rintro _ _ ⟨⟨rfl, q⟩ | ⟨rfl, q⟩, rfl⟩) <;> (repeat' (first | refine And.intro ?_ ?_ | (with_reducible intro h9; exact absurd h9 (by simp only [cI, cN]; decide +kernel)) | with_reducible intro _ | exact (rfl : narrow _ _ = _) | decide | (unfold vp_in; decide)))
  all_goals first
    | rfl
    | (rw [hn, hasP_iff (by omega)] at q; first | exact Or.inl ⟨rfl, q⟩ | exact Or.inr ⟨rfl, q⟩)
set_option maxRecDepth 20000 in
theorem md_core (hg : gOK G) (N : nT) (i : Nat) (hi : i < 8) : Spec G 1 0 0 m_X9_core [.ref 0, .int (nI i)] (mw N) (fun v w' => v = some (.int (N.g (10 + 2 * i))) ∧ w' = mw N) NX := by
  refine wp_spec (M := M_X9_core) hg ok_X9_core cut0 60 rfl rfl ?_
  repeat' (first | refine And.intro ?_ ?_ | (with_reducible intro h9; exact absurd h9 (by simp only [cI, cN]; decide +kernel)) | with_reducible intro _ | exact (rfl : narrow _ _ = _) | decide | (unfold vp_in; decide))
  all_goals ((try simp (discharger := omega) only [cI, cN, ← nI_0, nI_ltI, nI_leI, nI_eq, nI_add, pk_mul, pk_sub, nI_clamp, vinI, not_true_eq_false, not_false_eq_true, iK0, iK1, iK2, iK3, iK4, iK5, iKm1, bK6, bK7, bK8, bK9, bK10, bK12, bK14, bK15, bK16, bK20, bK21, bK26, bK30, bK32, bK33, bK45, bK48, bK57, bK59, bK60, bK62, bK63, bK64, bK80, bK93, bK98, bK99, bK100, bK104, bK107, bK109, bK110, bK112, bK113, bK114, bK115, bK116, bK119, sK255, sK256, sK500, sK700, sK798, sK912, sK1400, sK2000] at *) <;> (try simp (discharger := omega) only [cI, cN, ← nI_0, nI_ltI, nI_leI, nI_eq, nI_add, pk_mul, pk_sub, nI_clamp, vinI, not_true_eq_false, not_false_eq_true, iK0, iK1, iK2, iK3, iK4, iK5, iKm1, bK6, bK7, bK8, bK9, bK10, bK12, bK14, bK15, bK16, bK20, bK21, bK26, bK30, bK32, bK33, bK45, bK48, bK57, bK59, bK60, bK62, bK63, bK64, bK80, bK93, bK98, bK99, bK100, bK104, bK107, bK109, bK110, bK112, bK113, bK114, bK115, bK116, bK119, sK255, sK256, sK500, sK700, sK798, sK912, sK1400, sK2000] at *))
  all_goals first | rfl | omega
set_option maxRecDepth 20000 in
theorem md_takes (hg : gOK G) (N : nT) (i : Nat) (hi : i < 8) : Spec G 2 0 0 m_X9_takes [.ref 0, .int (nI i)] (mw N) (fun v w' => v = some (.int (nI 5 * N.g (10 + 2 * i) + nI 10)) ∧ w' = mw N) NX := by
  refine wp_spec (M := M_X9_takes) hg ok_X9_takes cut0 60 rfl rfl ?_
  repeat' (first | refine And.intro ?_ ?_ | (with_reducible intro h9; exact absurd h9 (by simp only [cI, cN]; decide +kernel)) | with_reducible intro _ | exact (rfl : narrow _ _ = _) | decide | (unfold vp_in; decide))
  refine cc0 [0, 1, 2, 3, 4, 5, 6, 7, 8] (md_core hg N i hi) (by decide) (by decide) (by decide) rfl (by repeat' (first | exact trivial | refine And.intro ?_ ?_ | rfl)) (by first | rfl | (simp (discharger := omega) only [renVs, renV, rnI, cI, cN, ← nI_0, nI_ltI, nI_leI, nI_eq, nI_add, pk_mul, pk_sub, nI_clamp, vinI, not_true_eq_false, not_false_eq_true, iK0, iK1, iK2, iK3, iK4, iK5, iKm1, bK6, bK7, bK8, bK9, bK10, bK12, bK14, bK15, bK16, bK20, bK21, bK26, bK30, bK32, bK33, bK45, bK48, bK57, bK59, bK60, bK62, bK63, bK64, bK80, bK93, bK98, bK99, bK100, bK104, bK107, bK109, bK110, bK112, bK113, bK114, bK115, bK116, bK119, sK255, sK256, sK500, sK700, sK798, sK912, sK1400, sK2000])) ?_
  (rintro _ _ ⟨rfl, rfl⟩) <;> (repeat' (first | refine And.intro ?_ ?_ | (with_reducible intro h9; exact absurd h9 (by simp only [cI, cN]; decide +kernel)) | with_reducible intro _ | exact (rfl : narrow _ _ = _) | decide | (unfold vp_in; decide)))
  all_goals rfl
set_option maxRecDepth 20000 in
theorem md_needs (hg : gOK G) (N : nT) (i : Nat) (hi : i < 8) : Spec G 2 0 0 m_X9_needs [.ref 0, .int (nI i)] (mw N) (fun v w' => v = some (.int (nI 700 + nI 8 * N.g (10 + 2 * i))) ∧ w' = mw N) NX := by
  refine wp_spec (M := M_X9_needs) hg ok_X9_needs cut0 60 rfl rfl ?_
  repeat' (first | refine And.intro ?_ ?_ | (with_reducible intro h9; exact absurd h9 (by simp only [cI, cN]; decide +kernel)) | with_reducible intro _ | exact (rfl : narrow _ _ = _) | decide | (unfold vp_in; decide))
  refine cc0 [0, 1, 2, 3, 4, 5, 6, 7, 8] (md_core hg N i hi) (by decide) (by decide) (by decide) rfl (by repeat' (first | exact trivial | refine And.intro ?_ ?_ | rfl)) (by first | rfl | (simp (discharger := omega) only [renVs, renV, rnI, cI, cN, ← nI_0, nI_ltI, nI_leI, nI_eq, nI_add, pk_mul, pk_sub, nI_clamp, vinI, not_true_eq_false, not_false_eq_true, iK0, iK1, iK2, iK3, iK4, iK5, iKm1, bK6, bK7, bK8, bK9, bK10, bK12, bK14, bK15, bK16, bK20, bK21, bK26, bK30, bK32, bK33, bK45, bK48, bK57, bK59, bK60, bK62, bK63, bK64, bK80, bK93, bK98, bK99, bK100, bK104, bK107, bK109, bK110, bK112, bK113, bK114, bK115, bK116, bK119, sK255, sK256, sK500, sK700, sK798, sK912, sK1400, sK2000])) ?_
  (rintro _ _ ⟨rfl, rfl⟩) <;> (repeat' (first | refine And.intro ?_ ?_ | (with_reducible intro h9; exact absurd h9 (by simp only [cI, cN]; decide +kernel)) | with_reducible intro _ | exact (rfl : narrow _ _ = _) | decide | (unfold vp_in; decide)))
  all_goals rfl
set_option maxRecDepth 20000 in
theorem md_of (hg : gOK G) (N : nT) (i j : Nat) (hi : i < 12) (hj : j < 7) : Spec G 1 0 0 m_X9_of [.ref 0, .int (nI i), .int (nI j)] (mw N) (fun v w' => v = some (.int (N.b i j)) ∧ w' = mw N) NX := by
  refine wp_spec (M := M_X9_of) hg ok_X9_of cut0 60 rfl rfl ?_
  repeat' (first | refine And.intro ?_ ?_ | (with_reducible intro h9; exact absurd h9 (by simp only [cI, cN]; decide +kernel)) | with_reducible intro _ | exact (rfl : narrow _ _ = _) | decide | (unfold vp_in; decide))
  all_goals ((try simp (discharger := omega) only [cI, cN, ← nI_0, nI_ltI, nI_leI, nI_eq, nI_add, pk_mul, pk_sub, nI_clamp, vinI, not_true_eq_false, not_false_eq_true, iK0, iK1, iK2, iK3, iK4, iK5, iKm1, bK6, bK7, bK8, bK9, bK10, bK12, bK14, bK15, bK16, bK20, bK21, bK26, bK30, bK32, bK33, bK45, bK48, bK57, bK59, bK60, bK62, bK63, bK64, bK80, bK93, bK98, bK99, bK100, bK104, bK107, bK109, bK110, bK112, bK113, bK114, bK115, bK116, bK119, sK255, sK256, sK500, sK700, sK798, sK912, sK1400, sK2000] at *) <;> (try simp (discharger := omega) only [cI, cN, ← nI_0, nI_ltI, nI_leI, nI_eq, nI_add, pk_mul, pk_sub, nI_clamp, vinI, not_true_eq_false, not_false_eq_true, iK0, iK1, iK2, iK3, iK4, iK5, iKm1, bK6, bK7, bK8, bK9, bK10, bK12, bK14, bK15, bK16, bK20, bK21, bK26, bK30, bK32, bK33, bK45, bK48, bK57, bK59, bK60, bK62, bK63, bK64, bK80, bK93, bK98, bK99, bK100, bK104, bK107, bK109, bK110, bK112, bK113, bK114, bK115, bK116, bK119, sK255, sK256, sK500, sK700, sK798, sK912, sK1400, sK2000] at *))
  all_goals first | rfl | omega
set_option maxRecDepth 20000 in
theorem md_lays (hg : gOK G) (N : nT) (i j : Nat) (hi : i < 12) (hj : j < 7) (x : Int32) : Spec G 1 0 0 m_X9_lays [.ref 0, .int (nI i), .int (nI j), .int x] (mw N) (fun v w' => v = none ∧ w' = mw (N.s_g (upd N.g (30 + 7 * i + j) x))) NX := by
  refine wp_spec (M := M_X9_lays) hg ok_X9_lays cut0 60 rfl rfl ?_
  repeat' (first | refine And.intro ?_ ?_ | (with_reducible intro h9; exact absurd h9 (by simp only [cI, cN]; decide +kernel)) | with_reducible intro _ | exact (rfl : narrow _ _ = _) | decide | (unfold vp_in; decide))
  all_goals ((try simp (discharger := omega) only [cI, cN, ← nI_0, nI_ltI, nI_leI, nI_eq, nI_add, pk_mul, pk_sub, nI_clamp, vinI, not_true_eq_false, not_false_eq_true, iK0, iK1, iK2, iK3, iK4, iK5, iKm1, bK6, bK7, bK8, bK9, bK10, bK12, bK14, bK15, bK16, bK20, bK21, bK26, bK30, bK32, bK33, bK45, bK48, bK57, bK59, bK60, bK62, bK63, bK64, bK80, bK93, bK98, bK99, bK100, bK104, bK107, bK109, bK110, bK112, bK113, bK114, bK115, bK116, bK119, sK255, sK256, sK500, sK700, sK798, sK912, sK1400, sK2000] at *) <;> (try simp (discharger := omega) only [cI, cN, ← nI_0, nI_ltI, nI_leI, nI_eq, nI_add, pk_mul, pk_sub, nI_clamp, vinI, not_true_eq_false, not_false_eq_true, iK0, iK1, iK2, iK3, iK4, iK5, iKm1, bK6, bK7, bK8, bK9, bK10, bK12, bK14, bK15, bK16, bK20, bK21, bK26, bK30, bK32, bK33, bK45, bK48, bK57, bK59, bK60, bK62, bK63, bK64, bK80, bK93, bK98, bK99, bK100, bK104, bK107, bK109, bK110, bK112, bK113, bK114, bK115, bK116, bK119, sK255, sK256, sK500, sK700, sK798, sK912, sK1400, sK2000] at *))
  all_goals first | rfl | omega
abbrev gon (g : Nat → Int32) (x : Int32) : Nat → Nat := cnt (fun i => decide (g (30 + 7 * i + 3) = x))
set_option maxRecDepth 20000 in
theorem md_on_l (hg : gOK G) (N : nT) (n : Nat) (hn : N.nb n) (x : Int32) {K : Option Value → xW → Prop} {KX : Nat → xW → Prop} (hK : K (some (.int (nI (gon N.g x n)))) (mw N)) : ∀ (c k : Nat) (hk : k ≤ n) (hc9 : n - k = c),
    AW G M_X9_bellsOn 2 0 0 4 [some (.ref 0), some (.int x), some (.int (nI (gon N.g x k))), some (.int (nI k))] [] (mw N) K KX := by
  intro c
  induction c using Nat.strongRecOn with | ind c ih => ?_
  intro k hk hc9
  have hcn : gon N.g x k ≤ k := cnt_le _ _
  obtain ⟨hn1, hn2⟩ := hn
  refine wp_ok (M := M_X9_bellsOn) hg ok_X9_bellsOn (lkp [(4, [true, true, true, true])]) 60 _ _ _ _ _ _ ?_
  repeat' (first | refine And.intro ?_ ?_ | (with_reducible intro h9; exact absurd h9 (by simp only [cI, cN]; decide +kernel)) | with_reducible intro _ | exact (rfl : narrow _ _ = _) | decide | (unfold vp_in; decide))
  · rename_i g
    simp (discharger := omega) only [cI, show N.g (Int32.ofInt 4).toNatClampNeg = nI n from hn1, nI_leI] at g
    have : k = n := by omega
    subst this
    exact hK
  · rename_i g
    simp (discharger := omega) only [cN, show N.g (Int32.ofInt 4).toNatClampNeg = nI n from hn1, nI_leI] at g
    refine cc0 [0, 1, 2, 3, 4, 5, 6, 7, 8] (md_of hg N k 3 (by omega) (by omega)) (by decide) (by decide) (by decide) rfl (by repeat' (first | exact trivial | refine And.intro ?_ ?_ | rfl)) (by first | rfl | (simp (discharger := omega) only [renVs, renV, rnI, cI, cN, ← nI_0, nI_ltI, nI_leI, nI_eq, nI_add, pk_mul, pk_sub, nI_clamp, vinI, not_true_eq_false, not_false_eq_true, iK0, iK1, iK2, iK3, iK4, iK5, iKm1, bK6, bK7, bK8, bK9, bK10, bK12, bK14, bK15, bK16, bK20, bK21, bK26, bK30, bK32, bK33, bK45, bK48, bK57, bK59, bK60, bK62, bK63, bK64, bK80, bK93, bK98, bK99, bK100, bK104, bK107, bK109, bK110, bK112, bK113, bK114, bK115, bK116, bK119, sK255, sK256, sK500, sK700, sK798, sK912, sK1400, sK2000])) ?_
    (rintro _ _ ⟨rfl, rfl⟩) <;> (repeat' (first | refine And.intro ?_ ?_ | (with_reducible intro h9; exact absurd h9 (by simp only [cI, cN]; decide +kernel)) | with_reducible intro _ | exact (rfl : narrow _ _ = _) | decide | (unfold vp_in; decide)))
    · rename_i g2
      simp only [cI] at g2
      exact AW.cg (ih _ (by omega) (k + 1) (by omega) rfl) rfl rfl rfl (by first | rfl | (simp (discharger := omega) only [msk, clr_i, clr_r, gon, cnt_f (p := fun i => decide (N.g (30 + 7 * i + 3) = x)) (n := k) (by simpa using g2), Nat.add_zero, cI, cN, ← nI_0, nI_ltI, nI_leI, nI_eq, nI_add, pk_mul, pk_sub, nI_clamp, vinI, not_true_eq_false, not_false_eq_true, iK0, iK1, iK2, iK3, iK4, iK5, iKm1, bK6, bK7, bK8, bK9, bK10, bK12, bK14, bK15, bK16, bK20, bK21, bK26, bK30, bK32, bK33, bK45, bK48, bK57, bK59, bK60, bK62, bK63, bK64, bK80, bK93, bK98, bK99, bK100, bK104, bK107, bK109, bK110, bK112, bK113, bK114, bK115, bK116, bK119, sK255, sK256, sK500, sK700, sK798, sK912, sK1400, sK2000]; done) | (simp (discharger := omega) only [msk, clr_i, clr_r, gon, cnt_f (p := fun i => decide (N.g (30 + 7 * i + 3) = x)) (n := k) (by simpa using g2), Nat.add_zero, cI, cN, ← nI_0, nI_ltI, nI_leI, nI_eq, nI_add, pk_mul, pk_sub, nI_clamp, vinI, not_true_eq_false, not_false_eq_true, iK0, iK1, iK2, iK3, iK4, iK5, iKm1, bK6, bK7, bK8, bK9, bK10, bK12, bK14, bK15, bK16, bK20, bK21, bK26, bK30, bK32, bK33, bK45, bK48, bK57, bK59, bK60, bK62, bK63, bK64, bK80, bK93, bK98, bK99, bK100, bK104, bK107, bK109, bK110, bK112, bK113, bK114, bK115, bK116, bK119, sK255, sK256, sK500, sK700, sK798, sK912, sK1400, sK2000]; rfl)) rfl rfl
    · rename_i g2
      simp only [cN, Classical.not_not] at g2
      exact AW.cg (ih _ (by omega) (k + 1) (by omega) rfl) rfl rfl rfl (by first | rfl | (simp (discharger := omega) only [msk, clr_i, clr_r, gon, cnt_t (p := fun i => decide (N.g (30 + 7 * i + 3) = x)) (n := k) (by simpa using g2), cI, cN, ← nI_0, nI_ltI, nI_leI, nI_eq, nI_add, pk_mul, pk_sub, nI_clamp, vinI, not_true_eq_false, not_false_eq_true, iK0, iK1, iK2, iK3, iK4, iK5, iKm1, bK6, bK7, bK8, bK9, bK10, bK12, bK14, bK15, bK16, bK20, bK21, bK26, bK30, bK32, bK33, bK45, bK48, bK57, bK59, bK60, bK62, bK63, bK64, bK80, bK93, bK98, bK99, bK100, bK104, bK107, bK109, bK110, bK112, bK113, bK114, bK115, bK116, bK119, sK255, sK256, sK500, sK700, sK798, sK912, sK1400, sK2000]; done) | (simp (discharger := omega) only [msk, clr_i, clr_r, gon, cnt_t (p := fun i => decide (N.g (30 + 7 * i + 3) = x)) (n := k) (by simpa using g2), cI, cN, ← nI_0, nI_ltI, nI_leI, nI_eq, nI_add, pk_mul, pk_sub, nI_clamp, vinI, not_true_eq_false, not_false_eq_true, iK0, iK1, iK2, iK3, iK4, iK5, iKm1, bK6, bK7, bK8, bK9, bK10, bK12, bK14, bK15, bK16, bK20, bK21, bK26, bK30, bK32, bK33, bK45, bK48, bK57, bK59, bK60, bK62, bK63, bK64, bK80, bK93, bK98, bK99, bK100, bK104, bK107, bK109, bK110, bK112, bK113, bK114, bK115, bK116, bK119, sK255, sK256, sK500, sK700, sK798, sK912, sK1400, sK2000]; rfl)) rfl rfl
set_option maxRecDepth 20000 in
theorem md_on (hg : gOK G) (N : nT) (n : Nat) (hn : N.nb n) (x : Int32) : Spec G 2 0 0 m_X9_bellsOn [.ref 0, .int x] (mw N) (fun v w' => v = some (.int (nI (gon N.g x n))) ∧ w' = mw N) NX := by
  refine wp_spec (M := M_X9_bellsOn) hg ok_X9_bellsOn (lkp [(4, [true, true, true, true])]) 60 rfl rfl ?_
  repeat' (first | refine And.intro ?_ ?_ | (with_reducible intro h9; exact absurd h9 (by simp only [cI, cN]; decide +kernel)) | with_reducible intro _ | exact (rfl : narrow _ _ = _) | decide | (unfold vp_in; decide))
  exact AW.cg (md_on_l hg N n hn x ⟨rfl, rfl⟩ _ 0 (by omega) rfl) rfl rfl rfl (by first | rfl | (simp (discharger := omega) only [msk, clr_i, clr_r, gon, cnt, cI, cN, ← nI_0, nI_ltI, nI_leI, nI_eq, nI_add, pk_mul, pk_sub, nI_clamp, vinI, not_true_eq_false, not_false_eq_true, iK0, iK1, iK2, iK3, iK4, iK5, iKm1, bK6, bK7, bK8, bK9, bK10, bK12, bK14, bK15, bK16, bK20, bK21, bK26, bK30, bK32, bK33, bK45, bK48, bK57, bK59, bK60, bK62, bK63, bK64, bK80, bK93, bK98, bK99, bK100, bK104, bK107, bK109, bK110, bK112, bK113, bK114, bK115, bK116, bK119, sK255, sK256, sK500, sK700, sK798, sK912, sK1400, sK2000]; done) | (simp (discharger := omega) only [msk, clr_i, clr_r, gon, cnt, cI, cN, ← nI_0, nI_ltI, nI_leI, nI_eq, nI_add, pk_mul, pk_sub, nI_clamp, vinI, not_true_eq_false, not_false_eq_true, iK0, iK1, iK2, iK3, iK4, iK5, iKm1, bK6, bK7, bK8, bK9, bK10, bK12, bK14, bK15, bK16, bK20, bK21, bK26, bK30, bK32, bK33, bK45, bK48, bK57, bK59, bK60, bK62, bK63, bK64, bK80, bK93, bK98, bK99, bK100, bK104, bK107, bK109, bK110, bK112, bK113, bK114, bK115, bK116, bK119, sK255, sK256, sK500, sK700, sK798, sK912, sK1400, sK2000]; rfl)) rfl rfl
end NN
