/-! ===== the law's world: the class's, the reference's, two arrays ===== -/
def tl (N : nT) (fo : Nat → Int64) (fd : Nat → UInt64) (u : xW) : xW :=
  .inr (12, [.ref 32, .ref 33, .ref 34, .ref 35, .int N.iS, .int N.ch, .int N.iW, .int N.co, .int N.wy, .int N.de, .ref 36, .int N.ln, .int N.er, .ref 37, .int N.sm, .ref 38, .int N.ap, .ref 39, .int N.tm]) :: .inl (0, 114, .inl N.g) :: .inl (0, 912, .inl N.kp) :: .inl (0, 114, .inl N.sv) :: .inl (0, 114, .inl N.bf) :: .inl (0, 60, .inl N.ip) :: .inl (2, 80, .inl N.sn) :: .inl (1, 256, .inl N.cb) :: .inl (0, 93, .inl N.td) :: oL fo :: oD fd :: u
theorem pre_of : ∀ (m t : xW), (∀ j e, nth m j = some e → nth t j = some e) → ∃ u, t = m ++ u
  | [], t, _ => ⟨t, rfl⟩
  | a :: m, [], h => by cases h 0 a rfl
  | a :: m, b :: t, h => by
    cases h 0 a rfl
    obtain ⟨u, hu⟩ := pre_of m t (fun j e q => h (j + 1) e q)
    exact ⟨u, by rw [hu]; rfl⟩
theorem nB_i {t n : Nat} {f : Nat → Int32} (h : t < 3) : nB (.inl (t, n, .inl f)) := fun g q => by
  cases q
  exact absurd h (by omega)
theorem nB_o {c : Nat} {fs : List Value} : nB (.inr (c, fs)) := fun g q => by cases q
theorem tl_nb {N : nT} {fo : Nat → Int64} {fd : Nat → UInt64} {j : Nat} {e : va_E} (h : nth (tl N fo fd []) j = some e) : j < 11 ∧ nB e := by
  have hj : j < 11 := nth_len h
  refine ⟨hj, ?_⟩
  have : j = 0 ∨ j = 1 ∨ j = 2 ∨ j = 3 ∨ j = 4 ∨ j = 5 ∨ j = 6 ∨ j = 7 ∨ j = 8 ∨ j = 9 ∨ j = 10 := by omega
  rcases this with rfl | rfl | rfl | rfl | rfl | rfl | rfl | rfl | rfl | rfl | rfl <;> cases h
  · exact nB_o
  · exact nB_i (by omega)
  · exact nB_i (by omega)
  · exact nB_i (by omega)
  · exact nB_i (by omega)
  · exact nB_i (by omega)
  · exact nB_i (by omega)
  · exact nB_i (by omega)
  · exact nB_i (by omega)
  · exact nB_l
  · exact nB_d
theorem tl_k {N : nT} {fo : Nat → Int64} {fd : Nat → UInt64} {u t' : xW} (kp : keep11 (tl N fo fd u) t') : ∃ u', t' = tl N fo fd u' :=
  pre_of (tl N fo fd []) t' (fun j e h => kp j e (tl_nb h).1 (nth_app (m := u) h) (tl_nb h).2)
theorem tl_9 {N : nT} {fo fo' : Nat → Int64} {fd : Nat → UInt64} {u t' : xW} (h9 : nth t' 9 = some (oL fo')) (kp : ∀ j e, j < 11 → j ≠ 9 → nth (tl N fo fd u) j = some e → nB e → nth t' j = some e) : ∃ u', t' = tl N fo' fd u' :=
  pre_of (tl N fo' fd []) t' (fun j e h => by
    by_cases q : j = 9
    · subst q
      rw [h9]
      exact h
    · have h2 : nth (tl N fo fd []) j = some e := by
        rw [← h]
        exact (nth_st2 (l := tl N fo' fd []) (y := oL fo) q)
      exact kp j e (tl_nb h).1 q (nth_app (m := u) h2) (tl_nb h).2)
theorem tl_10 {N : nT} {fo : Nat → Int64} {fd fd' : Nat → UInt64} {u t' : xW} (h9 : nth t' 10 = some (oD fd')) (kp : ∀ j e, j < 11 → j ≠ 10 → nth (tl N fo fd u) j = some e → nB e → nth t' j = some e) : ∃ u', t' = tl N fo fd' u' :=
  pre_of (tl N fo fd' []) t' (fun j e h => by
    by_cases q : j = 10
    · subst q
      rw [h9]
      exact h
    · have h2 : nth (tl N fo fd []) j = some e := by
        rw [← h]
        exact (nth_st2 (l := tl N fo fd' []) (y := oD fd) q)
      exact kp j e (tl_nb h).1 q (nth_app (m := u) h2) (tl_nb h).2)
section LL
variable {F E : fT} {H : hT} {r : Int32 × Int32} {X : xT} {S : sT4} {sd : Value} {er : Int32} {N N' M : nT} {fo : Nat → Int64} {fd : Nat → UInt64} {u : xW}
set_option maxRecDepth 20000 in
theorem cV_tl (I : cV F E H r X S sd er (tl N fo fd u) M) : cV F E H r X S sd er (tl N' fo fd u) M := by
  have h0 := cV_st (j := 0) I (by omega) rfl nB_o (e' := .inr (12, [.ref 32, .ref 33, .ref 34, .ref 35, .int N'.iS, .int N'.ch, .int N'.iW, .int N'.co, .int N'.wy, .int N'.de, .ref 36, .int N'.ln, .int N'.er, .ref 37, .int N'.sm, .ref 38, .int N'.ap, .ref 39, .int N'.tm])) nB_o
  have h1 := cV_st (j := 1) h0 (by omega) rfl (nB_i (by omega)) (e' := .inl (0, 114, .inl N'.g)) (nB_i (by omega))
  have h2 := cV_st (j := 2) h1 (by omega) rfl (nB_i (by omega)) (e' := .inl (0, 912, .inl N'.kp)) (nB_i (by omega))
  have h3 := cV_st (j := 3) h2 (by omega) rfl (nB_i (by omega)) (e' := .inl (0, 114, .inl N'.sv)) (nB_i (by omega))
  have h4 := cV_st (j := 4) h3 (by omega) rfl (nB_i (by omega)) (e' := .inl (0, 114, .inl N'.bf)) (nB_i (by omega))
  have h5 := cV_st (j := 5) h4 (by omega) rfl (nB_i (by omega)) (e' := .inl (0, 60, .inl N'.ip)) (nB_i (by omega))
  have h6 := cV_st (j := 6) h5 (by omega) rfl (nB_i (by omega)) (e' := .inl (2, 80, .inl N'.sn)) (nB_i (by omega))
  have h7 := cV_st (j := 7) h6 (by omega) rfl (nB_i (by omega)) (e' := .inl (1, 256, .inl N'.cb)) (nB_i (by omega))
  have h8 := cV_st (j := 8) h7 (by omega) rfl (nB_i (by omega)) (e' := .inl (0, 93, .inl N'.td)) (nB_i (by omega))
  exact h8
end LL
abbrev lsL (i : Int32) : List (Option Value) := [some (.retAddr 6), some (.ref 0), some (.ref 31), some (.ref 40), some (.ref 41), some (.int i), none, none, none]
/-- the law's loop goes on -/
def lNext (G : gT) (bc bs : Nat) (i : Int32) (K : Option Value → xW → Prop) : Prop :=
  ∀ (F E : fT) (H : hT) (r : Int32 × Int32) (X : xT) (ht : Nat → Int32) (P : pT7) (S : sT4) (sd : Value) (er : Int32) (N : nT) (fo : Nat → Int64) (fd : Nat → UInt64) (u : xW), cV F E H r X S sd er (tl N fo fd u) N → AW G M_L_law 12 bc bs 2253 (lsL i) [] (ww F E H r X ht P S sd er (tl N fo fd u)) K NX
theorem nI_uq {a b : Nat} (h : a = b) : nI a = nI b := by rw [h]
theorem lgc {x : Int64} : lg_cmp x x = 0 := by
  unfold lg_cmp
  simp
