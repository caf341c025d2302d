/-! ===== StringBuilder: numbers, growth ===== -/
theorem dgA : ∀ z : Fin 128, vp_nar .byte (nI (48 + z.1 % 10)) = nI (48 + z.1 % 10) ∧ vp_nar .byte (nI (48 + z.1 / 10)) = nI (48 + z.1 / 10) := by decide +kernel
theorem dgC : ∀ z : Fin 128, ((Int8.ofInt (-100)).toInt32 < -nI z.1 ↔ z.1 < 100) ∧ ((Int8.ofInt (-9)).toInt32 ≤ -nI z.1 ↔ z.1 < 10) ∧ - -nI z.1 = nI z.1 ∧ (-nI z.1) / (Int8.ofInt 100).toInt32 = -nI (z.1 / 100) ∧ -nI (z.1 / 100) * (Int8.ofInt 100).toInt32 - -nI z.1 = nI (z.1 % 100) := by decide +kernel
theorem dgB : ∀ z : Fin 128, (-nI z.1 ≤ (Int8.ofInt (-10)).toInt32 ↔ 10 ≤ z.1) ∧ (-nI z.1 ≤ (Int8.ofInt 10).toInt32 * (Int8.ofInt (-10)).toInt32 ↔ 100 ≤ z.1) ∧ (-nI z.1 ≤ (Int8.ofInt 10).toInt32 * ((Int8.ofInt 10).toInt32 * (Int8.ofInt (-10)).toInt32) ↔ 1000 ≤ z.1) := by decide +kernel
def dgn (z : Nat) : Nat := if z < 10 then 1 else if z < 100 then 2 else 3
theorem nI_dec {i : Nat} (h : 1 ≤ i) (h2 : i < 2 ^ 31) : nI i + Int32.ofInt (-1) = nI (i - 1) := by
  rw [show Int32.ofInt (-1) = -(nI 1) by decide, ← Int32.sub_eq_add_neg]
  exact pk_sub h
theorem upd_comm {f : Nat → Int32} {i j : Nat} {x y : Int32} (h : i ≠ j) : upd (upd f i x) j y = upd (upd f j y) i x := funext fun q => by
  unfold upd
  by_cases h1 : q = i
  · subst h1
    rw [if_neg h, if_pos rfl, if_pos rfl]
  · by_cases h2 : q = j
    · rw [if_pos h2, if_neg h1, if_pos h2]
    · rw [if_neg h2, if_neg h1, if_neg h1, if_neg h2]
theorem dig_lenE (z : Nat) (hz : z < 128) : (dig z).length = dgn z := by
  unfold dig dgn
  rcases Nat.lt_or_ge z 10 with a | a
  · rw [if_neg (by omega), if_neg (by omega), if_pos a]; rfl
  · rcases Nat.lt_or_ge z 100 with b | b
    · rw [if_neg (by omega), if_pos (by omega), if_neg (by omega), if_pos b]; rfl
    · rw [if_pos (by omega), if_pos (by omega), if_neg (by omega), if_neg (by omega)]; rfl
section SB
variable {G : gT}
set_option maxRecDepth 20000 in
theorem sb_size (hg : gOK G) (z : Nat) (hz : z < 128) : Spec G 1 0 0 m_J6_stringSize_0f7a4 [.int (nI z)] [] (fun v w' => v = some (.int (nI (dgn z))) ∧ w' = []) NX := by
  obtain ⟨b1, b2, b3⟩ := dgB ⟨z, hz⟩
  simp only at b1 b2 b3
  have e1 : z < 10 → dgn z = 1 := fun h => by unfold dgn; rw [if_pos h]
  have e2 : ¬ z < 10 → z < 100 → dgn z = 2 := fun h h2 => by unfold dgn; rw [if_neg h, if_pos h2]
  have e3 : ¬ z < 10 → ¬ z < 100 → dgn z = 3 := fun h h2 => by unfold dgn; rw [if_neg h, if_neg h2]
  refine wp_spec (M := M_J6_stringSize_0f7a4) hg ok_J6_stringSize_0f7a4 cut0 60 rfl rfl ?_
  repeat' (first | refine And.intro ?_ ?_ | (with_reducible intro h9; exact absurd h9 (by simp only [cI, cN]; decide +kernel)) | with_reducible intro _ | exact (rfl : narrow _ _ = _) | decide | (unfold vp_in; decide))
  all_goals (simp (discharger := omega) only [cI, cN, ← nI_0, nI_ltI, b1, b2, b3] at *)
  all_goals first
    | (exfalso; omega)
    | (rw [e1 (by omega)]; decide)
    | (rw [e2 (by omega) (by omega)]; decide)
    | (rw [e3 (by omega) (by omega)]; decide)
set_option maxRecDepth 20000 in
theorem sb_ch_l (hg : gOK G) (z i n : Nat) (f : Nat → Int32) (hz : z < 100) (hi : dgn z ≤ i) (hn : i ≤ n) (hn9 : n < 1000) {K : Option Value → xW → Prop} {KX : Nat → xW → Prop} (hK : K (some (.int (nI (i - dgn z)))) [.inl (3, n, .inl (wrl f (i - dgn z) (dig z)))]) : AW G M_J6_getChars_ba4f3 1 0 0 22 [some (.int (-nI z)), none, some (.ref 0), none, none, some (.int (nI i)), some (.int (Int32.ofInt 0))] [] [.inl (3, n, .inl f)] K KX := by
  obtain ⟨c1, c2, c3, c4, c5⟩ := dgC ⟨z, by omega⟩
  obtain ⟨a1, a2⟩ := dgA ⟨z, by omega⟩
  simp only at c1 c2 c3 c4 c5 a1 a2
  have e1 : z < 10 → dgn z = 1 := fun h => by unfold dgn; rw [if_pos h]
  have e2 : ¬ z < 10 → z < 100 → dgn z = 2 := fun h h2 => by unfold dgn; rw [if_neg h, if_pos h2]
  have on : ∀ k, onesF k = nI (48 + k % 10) := fun _ => rfl
  have tn : ∀ k, tensF k = nI (48 + k / 10) := fun _ => rfl
  rcases Nat.lt_or_ge z 10 with r | r
  · have q := e1 r
    have dq : dig z = [48 + z % 10] := by unfold dig; rw [if_neg (by omega), if_neg (by omega)]; rfl
    rw [q, dq] at hK
    refine wp_ok (M := M_J6_getChars_ba4f3) hg ok_J6_getChars_ba4f3 (lkp []) 60 _ _ _ _ _ _ ?_
    repeat' (first | refine And.intro ?_ ?_ | (with_reducible intro h9; exact absurd h9 (by simp only [cI, cN]; decide +kernel)) | with_reducible intro _ | exact (rfl : narrow _ _ = _) | decide | (unfold vp_in; decide))
    all_goals try (exfalso; simp (discharger := omega) only [cI, cN, ← nI_0, nI_ltI, nI_leI, c1, c2] at * <;> omega)
    · rw [c3, vinI (by omega)]; omega
    · rw [nI_dec (by omega) (by omega), vinI (by omega)]; omega
    · refine Kcg hK ?_ ?_
      · rw [nI_dec (by omega) (by omega)]
      · rw [nI_dec (by omega) (by omega), nI_clamp (by omega), c3, nI_clamp (by omega), on, a1]
        rfl
  · have q := e2 (by omega) hz
    have dq : dig z = [48 + z / 10, 48 + z % 10] := by unfold dig; rw [if_neg (by omega), if_pos (by omega), show z / 10 % 10 = z / 10 by omega]; rfl
    rw [q, dq] at hK
    refine wp_ok (M := M_J6_getChars_ba4f3) hg ok_J6_getChars_ba4f3 (lkp []) 60 _ _ _ _ _ _ ?_
    repeat' (first | refine And.intro ?_ ?_ | (with_reducible intro h9; exact absurd h9 (by simp only [cI, cN]; decide +kernel)) | with_reducible intro _ | exact (rfl : narrow _ _ = _) | decide | (unfold vp_in; decide))
    all_goals try (exfalso; simp (discharger := omega) only [cI, cN, ← nI_0, nI_ltI, nI_leI, c1, c2] at * <;> omega)
    · rw [c3, vinI (by omega)]; omega
    · rw [nI_dec (by omega) (by omega), vinI (by omega)]; omega
    · rw [c3, vinI (by omega)]; omega
    · rw [nI_dec (by omega) (by omega), nI_dec (by omega) (by omega), vinI (by omega)]; omega
    · refine Kcg hK ?_ ?_
      · rw [nI_dec (by omega) (by omega), nI_dec (by omega) (by omega)]; rfl
      · rw [nI_dec (by omega) (by omega), nI_dec (by omega) (by omega), nI_clamp (by omega), nI_clamp (by omega), c3, nI_clamp (by omega), on, tn, a1, a2]
        unfold wrl wrl wrl
        rw [show i - 2 + 1 = i - 1 by omega, show i - 1 - 1 = i - 2 by omega, upd_comm (by omega)]
set_option maxRecDepth 20000 in
theorem sb_chars (hg : gOK G) (z i n : Nat) (f : Nat → Int32) (hz : z < 128) (hi : dgn z ≤ i) (hn : i ≤ n) (hn9 : n < 1000) : Spec G 1 0 0 m_J6_getChars_ba4f3 [.int (nI z), .int (nI i), .ref 0] [.inl (3, n, .inl f)] (fun v w' => v = some (.int (nI (i - dgn z))) ∧ w' = [.inl (3, n, .inl (wrl f (i - dgn z) (dig z)))]) NX := by
  obtain ⟨c1, c2, c3, c4, c5⟩ := dgC ⟨z, hz⟩
  obtain ⟨a3, a4⟩ := dgA ⟨z % 100, by omega⟩
  simp only at c1 c2 c3 c4 c5 a3 a4
  have e3 : ¬ z < 10 → ¬ z < 100 → dgn z = 3 := fun h h2 => by unfold dgn; rw [if_neg h, if_neg h2]
  have on : ∀ k, onesF k = nI (48 + k % 10) := fun _ => rfl
  have tn : ∀ k, tensF k = nI (48 + k / 10) := fun _ => rfl
  refine wp_spec (M := M_J6_getChars_ba4f3) hg ok_J6_getChars_ba4f3 (lkp [(22, [true, false, true, false, false, true, true])]) 60 rfl rfl ?_
  repeat' (first | refine And.intro ?_ ?_ | (with_reducible intro h9; exact absurd h9 (by simp only [cI, cN]; decide +kernel)) | with_reducible intro _ | exact (rfl : narrow _ _ = _) | decide | (unfold vp_in; decide))
  all_goals try (exfalso; simp (discharger := omega) only [cI, cN, ← nI_0, nI_ltI, nI_leI] at * <;> omega)
  rcases Nat.lt_or_ge z 100 with r2 | r2
  · exact sb_ch_l hg z i n f r2 hi hn hn9 ⟨rfl, rfl⟩
  · have q := e3 (by omega) (by omega)
    have dq : dig z = [48 + z / 100, 48 + z / 10 % 10, 48 + z % 10] := by unfold dig; rw [if_pos (by omega), if_pos (by omega)]; rfl
    have d1 : dig (z / 100) = [48 + z / 100] := by unfold dig; rw [if_neg (by omega), if_neg (by omega), show z / 100 % 10 = z / 100 by omega]; rfl
    have q1 : dgn (z / 100) = 1 := by unfold dgn; rw [if_pos (by omega)]
    refine wp_ok (M := M_J6_getChars_ba4f3) hg ok_J6_getChars_ba4f3 (lkp [(22, [true, false, true, false, false, true, true])]) 60 _ _ _ _ _ _ ?_
    repeat' (first | refine And.intro ?_ ?_ | (with_reducible intro h9; exact absurd h9 (by simp only [cI, cN]; decide +kernel)) | with_reducible intro _ | exact (rfl : narrow _ _ = _) | decide | (unfold vp_in; decide))
    all_goals try (exfalso; simp (discharger := omega) only [cI, cN, ← nI_0, nI_ltI, nI_leI, c1, c2] at * <;> omega)
    · rw [c4, c5, vinI (by omega)]; omega
    · rw [nI_dec (by omega) (by omega), vinI (by omega)]; omega
    · rw [c4, c5, vinI (by omega)]; omega
    · rw [nI_dec (by omega) (by omega), nI_dec (by omega) (by omega), vinI (by omega)]; omega
    · refine AW.cg (sb_ch_l hg (z / 100) (i - 2) n (upd (upd f (i - 1) (nI (48 + z % 10))) (i - 2) (nI (48 + z / 10 % 10))) (by omega) (by omega) (by omega) hn9 ?_) rfl rfl rfl ?_ rfl ?_
      · refine ⟨?_, ?_⟩
        · rw [q, q1]; rfl
        · rw [q, q1, dq, d1]
          unfold wrl wrl wrl wrl
          rw [show i - 2 - 1 = i - 3 by omega, show i - 3 + 1 = i - 2 by omega, show i - 2 + 1 = i - 1 by omega]
          rw [upd_comm (i := i - 2) (j := i - 3) (by omega), upd_comm (i := i - 1) (j := i - 3) (by omega), upd_comm (i := i - 1) (j := i - 2) (by omega)]
      · rw [c4, nI_dec (by omega) (by omega), nI_dec (by omega) (by omega)]; rfl
      · rw [c4, c5, nI_dec (by omega) (by omega), nI_dec (by omega) (by omega), nI_clamp (by omega), nI_clamp (by omega), nI_clamp (by omega), on, tn, a3, a4, show z % 100 % 10 = z % 10 by omega, show z % 100 / 10 = z / 10 % 10 by omega]
        rfl
end SB
