/-! ===== the law, from its first instruction ===== -/
theorem cpl_0 : cpl f00 n00.g := ⟨⟨rfl, by decide, by decide, by decide, by decide, by decide, by decide, by decide, by decide, by decide⟩, fun i j h => absurd h (Nat.not_lt_zero i), fun i h => absurd h (Nat.not_lt_zero i), fun i j h => absurd h (Nat.not_lt_zero i)⟩
theorem fI_0 : fI f00 := ⟨⟨20, by omega, by omega, rfl⟩, ⟨0, by omega, rfl⟩, ⟨Nat.zero_le _, fun i h => absurd h (Nat.not_lt_zero i)⟩, ⟨Nat.zero_le _, fun i h => absurd h (Nat.not_lt_zero i)⟩, ⟨Nat.zero_le _, fun i h => absurd h (Nat.not_lt_zero i), fun r h => absurd h (Nat.not_lt_zero r)⟩⟩
theorem act_0 {i : Nat} (h : act 0 false i) : False := by
  rcases h with h | ⟨_, h⟩
  · exact absurd h (Nat.not_lt_zero i)
  · cases h
theorem hC_00 (t : xW) : hC (0, 0, fun _ => none) .null t n00 :=
  ⟨0, fun _ => 0, fun _ => f00, false, ⟨⟨(by decide : (0 : Nat) < 8), Nat.zero_le _, Nat.zero_le _, Nat.le_refl _, Or.inl (Nat.le_refl _)⟩, ⟨fun i h => absurd h (Nat.not_lt_zero i), fun _ _ => rfl⟩, ⟨fun _ => rfl, fun h => by cases h⟩, fun i h => (act_0 h).elim, fun i j h => (act_0 h).elim⟩, nI_0.symm, fun j h => absurd h (Nat.not_lt_zero j), Or.inl ⟨rfl, nI_0.symm⟩⟩
theorem cV_0 (fo : Nat → Int64) (fd : Nat → UInt64) (u : xW) : cV f00 f00 (0, 0, fun _ => none) (nI 0, nI 0) (0, (fun _ => 0), (fun _ => 0), 0, 0) (30, 0, 0, fun _ => 0) .null (-1) (tl n00 fo fd u) n00 :=
  ⟨⟨cpl_0, fI_0, fI_0.B⟩, ⟨hC_00 _, nI_0.symm⟩, ⟨nI_0, nI_0⟩, ⟨rfl, Nat.zero_le _, nI_0.symm⟩, rfl, ⟨0, fun _ => 0, ⟨rfl, fun _ => ⟨0, by omega, nI_0.symm⟩, fun _ => ⟨0, by omega, nI_0.symm⟩, Or.inl ⟨rfl, Nat.zero_le _, rfl⟩⟩, nI_0.symm, Nat.zero_le _, fun i h => absurd h (Nat.not_lt_zero i)⟩, ⟨_, rfl, nB_d⟩⟩
section LS
variable {G : gT} {K : Option Value → xW → Prop}
set_option maxRecDepth 20000 in
set_option maxRecDepth 20000 in
theorem law_start (hg : gOK G) (hL : G.L ≤ 1536) (hK : ∀ w, K (some (.int (Int32.ofInt 1))) w) : AW G M_L_law 12 30000 900000 0 [some (.retAddr 6), none, none, none, none, none, none, none, none] [] [] K NX := by
  refine wp_okL (M := M_L_law) hg okL_law (lkp [(28, [true, true, true, true, true, true, false, false, false])]) 60 _ _ _ _ _ _ ?_
  repeat' (first | refine And.intro ?_ ?_ | (with_reducible intro h9; exact absurd h9 (by simp only [cI, cN]; decide +kernel)) | with_reducible intro _ | exact (rfl : narrow _ _ = _) | decide | (unfold vp_in; decide) | refine Eq.mpr (fL_eq _ _) ?_ | refine Eq.mpr (fW_eq _ _) ?_ | refine Eq.mpr (fN_eq _ _) ?_)
  refine cci 42 (be_init hg) (by decide) (by decide) (by decide) rfl rfl ?_ (fun _ _ h => h.elim)
  rintro _ _ ⟨rfl, rfl⟩
  repeat' (first | refine And.intro ?_ ?_ | (with_reducible intro h9; exact absurd h9 (by simp only [cI, cN]; decide +kernel)) | with_reducible intro _ | exact (rfl : narrow _ _ = _) | decide | (unfold vp_in; decide) | refine Eq.mpr (fL_eq _ _) ?_ | refine Eq.mpr (fW_eq _ _) ?_ | refine Eq.mpr (fN_eq _ _) ?_)
  refine ccn 42 [31] (md_init hg) (by decide) (by decide) (by decide) rfl (by repeat' (first | exact trivial | refine And.intro ?_ ?_ | rfl)) rfl ?_
  rintro _ _ ⟨rfl, rfl⟩
  repeat' (first | refine And.intro ?_ ?_ | (with_reducible intro h9; exact absurd h9 (by simp only [cI, cN]; decide +kernel)) | with_reducible intro _ | exact (rfl : narrow _ _ = _) | decide | (unfold vp_in; decide) | refine Eq.mpr (fL_eq _ _) ?_ | refine Eq.mpr (fW_eq _ _) ?_ | refine Eq.mpr (fN_eq _ _) ?_)
  have e : Int32.ofInt 0 = nI (3 * 0) := by decide
  rw [e]
  exact law_loop hg hL hK 512 0 _ _ (by omega) (by omega) (by decide) (by decide) _ _ _ _ _ _ _ _ _ _ _ _ _ [] (cV_0 _ _ _)
end LS
