/-! ===== the class's history, in its whole world ===== -/
/-- a foundry's seven cells stand in the tail from k on -/
def hblk (t : xW) (k : Nat) (D : fT) : Prop :=
  nth t k = some (.inr (4, [.ref (k + 32), .ref (k + 34), .ref (k + 36), .int D.h, .int D.p, .int D.br, .int D.lo, .int D.ld, .int D.hr, .int D.po])) ∧
  nth t (k + 1) = some (.inr (9, [.int (nI 8), .int (nI 2), .ref (k + 33), .int (nI D.M.1)])) ∧ nth t (k + 2) = some (.inl (0, 8 * 2, .inl D.M.2)) ∧
  nth t (k + 3) = some (.inr (9, [.int (nI 4), .int (nI 1), .ref (k + 35), .int (nI D.R.1)])) ∧ nth t (k + 4) = some (.inl (0, 4 * 1, .inl D.R.2)) ∧
  nth t (k + 5) = some (.inr (9, [.int (nI 12), .int (nI 8), .ref (k + 37), .int (nI D.B.1)])) ∧ nth t (k + 6) = some (.inl (0, 12 * 8, .inl D.B.2))
def hput (t : xW) (k : Nat) (D : fT) : xW :=
  stN (stN (stN (stN (stN (stN (stN t k (.inr (4, [.ref (k + 32), .ref (k + 34), .ref (k + 36), .int D.h, .int D.p, .int D.br, .int D.lo, .int D.ld, .int D.hr, .int D.po])))
  (k + 1) (.inr (9, [.int (nI 8), .int (nI 2), .ref (k + 33), .int (nI D.M.1)]))) (k + 2) (.inl (0, 8 * 2, .inl D.M.2)))
  (k + 3) (.inr (9, [.int (nI 4), .int (nI 1), .ref (k + 35), .int (nI D.R.1)]))) (k + 4) (.inl (0, 4 * 1, .inl D.R.2)))
  (k + 5) (.inr (9, [.int (nI 12), .int (nI 8), .ref (k + 37), .int (nI D.B.1)]))) (k + 6) (.inl (0, 12 * 8, .inl D.B.2))
/-- the seven cells behind a tail -/
def hnew (t : xW) (D : fT) : xW := t ++ [.inr (4, [.ref (lenL t + 32), .ref (lenL t + 34), .ref (lenL t + 36), .int D.h, .int D.p, .int D.br, .int D.lo, .int D.ld, .int D.hr, .int D.po]),
  .inr (9, [.int (nI 8), .int (nI 2), .ref (lenL t + 33), .int (nI D.M.1)]), .inl (0, 8 * 2, .inl D.M.2),
  .inr (9, [.int (nI 4), .int (nI 1), .ref (lenL t + 35), .int (nI D.R.1)]), .inl (0, 4 * 1, .inl D.R.2),
  .inr (9, [.int (nI 12), .int (nI 8), .ref (lenL t + 37), .int (nI D.B.1)]), .inl (0, 12 * 8, .inl D.B.2)]
theorem hput_same {t : xW} {k : Nat} {D : fT} (h : hblk t k D) : hput t k D = t := by
  obtain ⟨h0, h1, h2, h3, h4, h5, h6⟩ := h
  unfold hput
  rw [st_same h0, st_same h1, st_same h2, st_same h3, st_same h4, st_same h5, st_same h6]
theorem nth_stS {α : Type} {x y : α} {l : List α} {k j : Nat} (h : nth l k = some x) (hj : j = k) : nth (stN l k y) j = some y := by subst hj; exact nth_st h
theorem hblk_put {t : xW} {k : Nat} {C D : fT} (h : hblk t k C) : hblk (hput t k D) k D := by
  obtain ⟨h0, h1, h2, h3, h4, h5, h6⟩ := h
  unfold hput
  refine ⟨?_, ?_, ?_, ?_, ?_, ?_, ?_⟩
  · rw [nth_st2 (by omega), nth_st2 (by omega), nth_st2 (by omega), nth_st2 (by omega), nth_st2 (by omega), nth_st2 (by omega)]; exact nth_st h0
  · rw [nth_st2 (by omega), nth_st2 (by omega), nth_st2 (by omega), nth_st2 (by omega), nth_st2 (by omega)]; exact nth_st (x := _) (by rw [nth_st2 (by omega)]; exact h1)
  · rw [nth_st2 (by omega), nth_st2 (by omega), nth_st2 (by omega), nth_st2 (by omega)]; exact nth_st (x := _) (by rw [nth_st2 (by omega), nth_st2 (by omega)]; exact h2)
  · rw [nth_st2 (by omega), nth_st2 (by omega), nth_st2 (by omega)]; exact nth_st (x := _) (by rw [nth_st2 (by omega), nth_st2 (by omega), nth_st2 (by omega)]; exact h3)
  · rw [nth_st2 (by omega), nth_st2 (by omega)]; exact nth_st (x := _) (by rw [nth_st2 (by omega), nth_st2 (by omega), nth_st2 (by omega), nth_st2 (by omega)]; exact h4)
  · rw [nth_st2 (by omega)]; exact nth_st (x := _) (by rw [nth_st2 (by omega), nth_st2 (by omega), nth_st2 (by omega), nth_st2 (by omega), nth_st2 (by omega)]; exact h5)
  · exact nth_st (x := _) (by rw [nth_st2 (by omega), nth_st2 (by omega), nth_st2 (by omega), nth_st2 (by omega), nth_st2 (by omega), nth_st2 (by omega)]; exact h6)
theorem nth_put {t : xW} {k j : Nat} {D : fT} (h : j < k ∨ k + 7 ≤ j) : nth (hput t k D) j = nth t j := by
  unfold hput
  rw [nth_st2 (by omega), nth_st2 (by omega), nth_st2 (by omega), nth_st2 (by omega), nth_st2 (by omega), nth_st2 (by omega), nth_st2 (by omega)]
theorem hblk_o {t : xW} {k j : Nat} {C D : fT} (h : hblk t j C) (hd : j + 7 ≤ k ∨ k + 7 ≤ j) : hblk (hput t k D) j C := by
  obtain ⟨h0, h1, h2, h3, h4, h5, h6⟩ := h
  refine ⟨?_, ?_, ?_, ?_, ?_, ?_, ?_⟩ <;> rw [nth_put (by omega)] <;> assumption
theorem nth_len {α : Type} {x : α} : ∀ {l : List α} {k : Nat}, nth l k = some x → k < lenL l
  | [], k, h => by cases k <;> cases h
  | _ :: _, 0, h => Nat.zero_lt_succ _
  | _ :: l, k + 1, h => Nat.succ_lt_succ (nth_len (l := l) h)
theorem hblk_len {t : xW} {k : Nat} {D : fT} (h : hblk t k D) : k + 7 ≤ lenL t := nth_len h.2.2.2.2.2.2
theorem nth_add {α : Type} {m : List α} : ∀ {l : List α} {j : Nat}, nth (l ++ m) (lenL l + j) = nth m j
  | [], j => by rw [show lenL ([] : List α) + j = j from Nat.zero_add j]; rfl
  | a :: l, j => by
    rw [show lenL (a :: l) + j = (lenL l + j) + 1 by show lenL l + 1 + j = _; omega]
    exact nth_add (l := l)
theorem hblk_new {t : xW} {D : fT} : hblk (hnew t D) (lenL t) D := by
  unfold hnew
  refine ⟨?_, ?_, ?_, ?_, ?_, ?_, ?_⟩
  · exact nth_add (j := 0)
  · exact nth_add (j := 1)
  · exact nth_add (j := 2)
  · exact nth_add (j := 3)
  · exact nth_add (j := 4)
  · exact nth_add (j := 5)
  · exact nth_add (j := 6)
theorem hblk_a {t m : xW} {k : Nat} {D : fT} (h : hblk t k D) : hblk (t ++ m) k D := by
  obtain ⟨h0, h1, h2, h3, h4, h5, h6⟩ := h
  exact ⟨nth_app h0, nth_app h1, nth_app h2, nth_app h3, nth_app h4, nth_app h5, nth_app h6⟩
theorem hblk_n {t : xW} {k : Nat} {C D : fT} (h : hblk t k C) : hblk (hnew t D) k C := hblk_a h
theorem hblk_tpr {t t' : xW} {k : Nat} {D : fT} (h : hblk t k D) (q : tpr t t') : hblk t' k D := by
  obtain ⟨h0, h1, h2, h3, h4, h5, h6⟩ := h
  refine ⟨q _ _ h0 ?_, q _ _ h1 ?_, q _ _ h2 ?_, q _ _ h3 ?_, q _ _ h4 ?_, q _ _ h5 ?_, q _ _ h6 ?_⟩ <;> (intro f e; simp at e)
theorem nd14a {k : Nat} : va_nd [k + 31, k + 32, k + 33, k + 34, k + 35, k + 36, k + 37, 1, 2, 3, 4, 5, 6, 7] = true := by
  simp [va_nd]
theorem nd14b {k : Nat} : va_nd [1, 2, 3, 4, 5, 6, 7, k + 31, k + 32, k + 33, k + 34, k + 35, k + 36, k + 37] = true := by
  simp [va_nd]
section HB
variable {G : gT} {F E : fT} {H : hT} {r : Int32 × Int32} {X : xT} {ht : Nat → Int32} {P : pT7} {S : sT4} {sd : Value} {er : Int32} {t : xW}
set_option maxRecDepth 20000 in
theorem wb_cpTo (hg : gOK G) (k : Nat) (D : fT) (hD : hblk t k D) (hF : fB F) : Spec G 2 0 0 m_X0_copyFrom [.ref (k + 31), .ref 1] (ww F E H r X ht P S sd er t) (fun v w' => v = none ∧ w' = ww F E H r X ht P S sd er (hput t k (fcp D F))) NX := by
  obtain ⟨h0, h1, h2, h3, h4, h5, h6⟩ := hD
  refine Spec.frs [k + 31, k + 32, k + 33, k + 34, k + 35, k + 36, k + 37, 1, 2, 3, 4, 5, 6, 7] (fd_copy hg D F hF) nd14a ⟨h0, h1, h2, h3, h4, h5, h6, rfl, rfl, rfl, rfl, rfl, rfl, rfl, trivial⟩ rfl ?_
  rintro _ _ ⟨rfl, rfl⟩
  exact ⟨rfl, rfl⟩
set_option maxRecDepth 20000 in
theorem wb_cpFrom (hg : gOK G) (k : Nat) (D : fT) (hD : hblk t k D) (hF : fB D) : Spec G 2 0 0 m_X0_copyFrom [.ref 1, .ref (k + 31)] (ww F E H r X ht P S sd er t) (fun v w' => v = none ∧ w' = ww (fcp F D) E H r X ht P S sd er t) NX := by
  have hs := hput_same hD
  obtain ⟨h0, h1, h2, h3, h4, h5, h6⟩ := hD
  refine Spec.frs [1, 2, 3, 4, 5, 6, 7, k + 31, k + 32, k + 33, k + 34, k + 35, k + 36, k + 37] (fd_copy hg F D hF) nd14b ⟨rfl, rfl, rfl, rfl, rfl, rfl, rfl, h0, h1, h2, h3, h4, h5, h6, trivial⟩ rfl ?_
  rintro _ _ ⟨rfl, rfl⟩
  refine ⟨rfl, ?_⟩
  show ww (fcp F D) E H r X ht P S sd er (hput t k D) = _
  rw [hs]
set_option maxRecDepth 20000 in
theorem wb_try (hg : gOK G) (hF : fB F) : Spec G 2 0 0 m_X0_copyFrom [.ref 8, .ref 1] (ww F E H r X ht P S sd er t) (fun v w' => v = none ∧ w' = ww F (fcp E F) H r X ht P S sd er t) NX := by
  refine Spec.frs [8, 9, 10, 11, 12, 13, 14, 1, 2, 3, 4, 5, 6, 7] (fd_copy hg E F hF) (by decide) (by repeat' (first | exact trivial | refine And.intro ?_ ?_ | rfl)) rfl ?_
  rintro _ _ ⟨rfl, rfl⟩
  exact ⟨rfl, rfl⟩
set_option maxRecDepth 20000 in
theorem wb_did (hg : gOK G) (hE : fB E) : Spec G 2 0 0 m_X0_copyFrom [.ref 1, .ref 8] (ww F E H r X ht P S sd er t) (fun v w' => v = none ∧ w' = ww (fcp F E) E H r X ht P S sd er t) NX := by
  refine Spec.frs [1, 2, 3, 4, 5, 6, 7, 8, 9, 10, 11, 12, 13, 14] (fd_copy hg F E hE) (by decide) (by repeat' (first | exact trivial | refine And.intro ?_ ?_ | rfl)) rfl ?_
  rintro _ _ ⟨rfl, rfl⟩
  exact ⟨rfl, rfl⟩
end HB
