/-! ===== StringBuilder: append of a number, growth ===== -/
/-- behind a growth: the builder's bytes are the third cell -/
def sbw3 (f : Nat → Int32) (n : Nat) (ml : Int32) (f' : Nat → Int32) : xW := [.inr (1, [.ref 2, .int 0, .int ml, .int (nI n)]), .inl (3, 16, .inl f), .inl (3, 34, .inl f')]
section SB
variable {G : gT}
set_option maxRecDepth 20000 in
theorem sb_appI (hg : gOK G) (f : Nat → Int32) (n cap z : Nat) (ml : Int32) (hz : z < 128) (hn : n + dgn z ≤ cap) (hc : cap < 1000) : Spec G 3 0 0 m_J5_append_c97b9 [.ref 0, .int (nI z)] (sbw f n cap ml) (fun v w' => v = some (.ref 0) ∧ w' = sbw (wrl f n (dig z)) (n + dgn z) cap ml) NX := by
  have hd : dgn z ≤ 3 := by unfold dgn; split <;> (try split) <;> omega
  refine wp_spec (M := M_J5_append_c97b9) hg ok_J5_append_c97b9 cut0 60 rfl rfl ?_
  repeat' (first | refine And.intro ?_ ?_ | (with_reducible intro h9; exact absurd h9 (by simp only [cI, cN]; decide +kernel)) | with_reducible intro _ | exact (rfl : narrow _ _ = _) | decide | (unfold vp_in; decide))
  refine cc0 [] (sb_size hg z hz) (by decide) (by decide) (by decide) rfl (by repeat' (first | exact trivial | refine And.intro ?_ ?_ | rfl)) (by first | rfl | (simp (discharger := omega) only [renVs, renV, rnI, cI, cN, ← nI_0, nI_ltI, nI_leI, nI_eq, nI_add, pk_mul, pk_sub, nI_clamp, vinI, not_true_eq_false, not_false_eq_true, iK0, iK1, iK2, iK3, iK4, iK5, iKm1, bK6, bK7, bK8, bK9, bK10, bK12, bK14, bK15, bK16, bK20, bK21, bK26, bK30, bK32, bK33, bK45, bK48, bK57, bK59, bK60, bK62, bK63, bK64, bK80, bK93, bK98, bK99, bK100, bK104, bK107, bK109, bK110, bK112, bK113, bK114, bK115, bK116, bK119, sK255, sK256, sK500, sK700, sK798, sK912, sK1400, sK2000])) ?_
  (rintro _ _ ⟨rfl, rfl⟩) <;> (repeat' (first | refine And.intro ?_ ?_ | (with_reducible intro h9; exact absurd h9 (by simp only [cI, cN]; decide +kernel)) | with_reducible intro _ | exact (rfl : narrow _ _ = _) | decide | (unfold vp_in; decide)))
  refine cc0 [0, 1] (sb_ens hg f n cap (n + dgn z) ml hn hc) (by decide) (by decide) (by decide) rfl (by repeat' (first | exact trivial | refine And.intro ?_ ?_ | rfl)) (by first | rfl | (simp (discharger := omega) only [renVs, renV, rnI, cI, cN, ← nI_0, nI_ltI, nI_leI, nI_eq, nI_add, pk_mul, pk_sub, nI_clamp, vinI, not_true_eq_false, not_false_eq_true, iK0, iK1, iK2, iK3, iK4, iK5, iKm1, bK6, bK7, bK8, bK9, bK10, bK12, bK14, bK15, bK16, bK20, bK21, bK26, bK30, bK32, bK33, bK45, bK48, bK57, bK59, bK60, bK62, bK63, bK64, bK80, bK93, bK98, bK99, bK100, bK104, bK107, bK109, bK110, bK112, bK113, bK114, bK115, bK116, bK119, sK255, sK256, sK500, sK700, sK798, sK912, sK1400, sK2000])) ?_
  (rintro _ _ ⟨rfl, rfl⟩) <;> (repeat' (first | refine And.intro ?_ ?_ | (with_reducible intro h9; exact absurd h9 (by simp only [cI, cN]; decide +kernel)) | with_reducible intro _ | exact (rfl : narrow _ _ = _) | decide | (unfold vp_in; decide)))
  refine cc0 [0, 1] (sb_latin hg f n cap ml) (by decide) (by decide) (by decide) rfl (by repeat' (first | exact trivial | refine And.intro ?_ ?_ | rfl)) (by first | rfl | (simp (discharger := omega) only [renVs, renV, rnI, cI, cN, ← nI_0, nI_ltI, nI_leI, nI_eq, nI_add, pk_mul, pk_sub, nI_clamp, vinI, not_true_eq_false, not_false_eq_true, iK0, iK1, iK2, iK3, iK4, iK5, iKm1, bK6, bK7, bK8, bK9, bK10, bK12, bK14, bK15, bK16, bK20, bK21, bK26, bK30, bK32, bK33, bK45, bK48, bK57, bK59, bK60, bK62, bK63, bK64, bK80, bK93, bK98, bK99, bK100, bK104, bK107, bK109, bK110, bK112, bK113, bK114, bK115, bK116, bK119, sK255, sK256, sK500, sK700, sK798, sK912, sK1400, sK2000])) ?_
  (rintro _ _ ⟨rfl, rfl⟩) <;> (repeat' (first | refine And.intro ?_ ?_ | (with_reducible intro h9; exact absurd h9 (by simp only [cI, cN]; decide +kernel)) | with_reducible intro _ | exact (rfl : narrow _ _ = _) | decide | (unfold vp_in; decide)))
  refine cc0 [1] (sb_chars hg z (n + dgn z) cap f hz (by omega) hn hc) (by decide) (by decide) (by decide) rfl (by repeat' (first | exact trivial | refine And.intro ?_ ?_ | rfl)) (by first | rfl | (simp (discharger := omega) only [renVs, renV, rnI, cI, cN, ← nI_0, nI_ltI, nI_leI, nI_eq, nI_add, pk_mul, pk_sub, nI_clamp, vinI, not_true_eq_false, not_false_eq_true, iK0, iK1, iK2, iK3, iK4, iK5, iKm1, bK6, bK7, bK8, bK9, bK10, bK12, bK14, bK15, bK16, bK20, bK21, bK26, bK30, bK32, bK33, bK45, bK48, bK57, bK59, bK60, bK62, bK63, bK64, bK80, bK93, bK98, bK99, bK100, bK104, bK107, bK109, bK110, bK112, bK113, bK114, bK115, bK116, bK119, sK255, sK256, sK500, sK700, sK798, sK912, sK1400, sK2000])) ?_
  (rintro _ _ ⟨rfl, rfl⟩) <;> (repeat' (first | refine And.intro ?_ ?_ | (with_reducible intro h9; exact absurd h9 (by simp only [cI, cN]; decide +kernel)) | with_reducible intro _ | exact (rfl : narrow _ _ = _) | decide | (unfold vp_in; decide)))
  · rw [show n + dgn z - dgn z = n by omega, nI_add]
    rfl
set_option maxRecDepth 20000 in
theorem sb_len8 (hg : gOK G) (m : Nat) (hm1 : 16 < m) (hm : m ≤ 34) : Spec G 2 0 0 m_J8_newLength_cabcc [.int (nI 16), .int (nI (m - 16)), .int (nI 18)] [] (fun v w' => v = some (.int (nI 34)) ∧ w' = []) NX := by
  have e : nI 16 + (if nI (m - 16) < nI 18 then nI 18 else nI (m - 16)) = nI 34 := by
    rcases Nat.lt_or_ge (m - 16) 18 with h | h
    · rw [if_pos (by rw [nI_ltI (by omega) (by omega)]; exact h)]; decide
    · rw [if_neg (by rw [nI_ltI (by omega) (by omega)]; omega), show m - 16 = 18 by omega]; decide
  refine wp_spec (M := M_J8_newLength_cabcc) hg ok_J8_newLength_cabcc cut0 60 rfl rfl ?_
  repeat' (first | refine And.intro ?_ ?_ | (with_reducible intro h9; exact absurd h9 (by simp only [cI, cN]; decide +kernel)) | with_reducible intro _ | exact (rfl : narrow _ _ = _) | decide | (unfold vp_in; decide))
  · rename_i g
    rw [e] at g
    exact absurd g (by simp only [cI]; decide)
  · rename_i g
    rw [e] at g
    exact absurd g (by simp only [cI]; decide)
  · rw [e]
theorem shL0 (x : Int32) : x <<< ((0 : Int32) &&& 31) = x := by
  rw [show (0 : Int32) &&& 31 = 0 by decide]
  exact Int32.shiftLeft_zero
theorem shL1 (x : Int32) : x <<< (nI 0 &&& 31) = x := by
  rw [nI_0]
  exact shL0 x
theorem fitB : ∀ z : Fin 128, fits .byte (.int (nI z.1)) = true := by decide +kernel
set_option maxRecDepth 20000 in
theorem sb_newC (hg : gOK G) (f : Nat → Int32) (n m : Nat) (ml : Int32) (hm1 : 16 < m) (hm : m ≤ 34) : Spec G 3 0 0 m_J5_newCapacity_0f7a4 [.ref 0, .int (nI m)] (sbw f n 16 ml) (fun v w' => v = some (.int (nI 34)) ∧ w' = sbw f n 16 ml) NX := by
  refine wp_spec (M := M_J5_newCapacity_0f7a4) hg ok_J5_newCapacity_0f7a4 cut0 60 rfl rfl ?_
  repeat' (first | refine And.intro ?_ ?_ | (with_reducible intro h9; exact absurd h9 (by simp only [cI, cN]; decide +kernel)) | with_reducible intro _ | exact (rfl : narrow _ _ = _) | decide | (unfold vp_in; decide))
  refine cc0 [] (sb_len8 hg m hm1 hm) (by decide) (by decide) (by decide) rfl (by repeat' (first | exact trivial | refine And.intro ?_ ?_ | rfl | (simp only [shL1]; rfl))) (by first | rfl | (simp (discharger := omega) only [renVs, renV, rnI, shL1, cI, cN, ← nI_0, nI_ltI, nI_leI, nI_eq, nI_add, pk_mul, pk_sub, nI_clamp, vinI, not_true_eq_false, not_false_eq_true, iK0, iK1, iK2, iK3, iK4, iK5, iKm1, bK6, bK7, bK8, bK9, bK10, bK12, bK14, bK15, bK16, bK20, bK21, bK26, bK30, bK32, bK33, bK45, bK48, bK57, bK59, bK60, bK62, bK63, bK64, bK80, bK93, bK98, bK99, bK100, bK104, bK107, bK109, bK110, bK112, bK113, bK114, bK115, bK116, bK119, sK255, sK256, sK500, sK700, sK798, sK912, sK1400, sK2000])) ?_
  (rintro _ _ ⟨rfl, rfl⟩) <;> (repeat' (first | refine And.intro ?_ ?_ | (with_reducible intro h9; exact absurd h9 (by simp only [cI, cN]; decide +kernel)) | with_reducible intro _ | exact (rfl : narrow _ _ = _) | decide | (unfold vp_in; decide)))
  all_goals rfl
def fby (f : Nat → Int32) : Prop := ∀ i, ∃ z, z < 128 ∧ f i = nI z
theorem fby_w {f : Nat → Int32} (h : fby f) {n c : Nat} (hc : c < 128) : fby (upd f n (nI c)) := fun i => by
  unfold upd
  split
  · exact ⟨c, hc, rfl⟩
  · exact h i
set_option maxRecDepth 20000 in
theorem fby_l {f : Nat → Int32} (h : fby f) : ∀ {l : List Nat} {n : Nat}, (∀ c ∈ l, c < 128) → fby (wrl f n l) 
  | [], n, _ => h
  | c :: l, n, hl => fby_l (fby_w h (hl c List.mem_cons_self)) (fun x hx => hl x (List.mem_cons_of_mem _ hx))
set_option maxRecDepth 20000 in
theorem sb_copyOf (hg : gOK G) (f : Nat → Int32) (hb : fby f) : Spec G 5 1 34 m_J7_copyOf_9075b [.ref 0, .int (nI 34)] [.inl (3, 16, .inl f)] (fun v w' => v = some (.ref 1) ∧ w' = [.inl (3, 16, .inl f), .inl (3, 34, .inl (va_cpy f (fun _ => 0) 0 0 16))]) NX := by
  refine wp_spec (M := M_J7_copyOf_9075b) hg ok_J7_copyOf_9075b cut0 60 rfl rfl ?_
  repeat' (first | refine And.intro ?_ ?_ | (with_reducible intro h9; exact absurd h9 (by simp only [cI, cN]; decide +kernel)) | with_reducible intro _ | exact (rfl : narrow _ _ = _) | decide | (unfold vp_in; decide))
  · obtain ⟨z, h1, h2⟩ := hb ((Int32.ofInt 0).toNatClampNeg + ‹Nat›)
    rw [h2]
    exact fitB ⟨z, h1⟩
  · rw [if_neg (by decide), show (nI 34).toNatClampNeg = 34 by decide, show (nI 16).toNatClampNeg = 16 by decide, show (Int32.ofInt 0).toNatClampNeg = 0 by decide]
set_option maxRecDepth 20000 in
theorem sb_ensG (hg : gOK G) (f : Nat → Int32) (hb : fby f) (n m : Nat) (ml : Int32) (hm1 : 16 < m) (hm : m ≤ 34) : Spec G 6 1 34 m_J5_ensureCapacityInternal_d00df [.ref 0, .int (nI m)] (sbw f n 16 ml) (fun v w' => v = none ∧ w' = sbw3 f n ml (va_cpy f (fun _ => 0) 0 0 16)) NX := by
  refine wp_spec (M := M_J5_ensureCapacityInternal_d00df) hg ok_J5_ensureCapacityInternal_d00df cut0 60 rfl rfl ?_
  repeat' (first | refine And.intro ?_ ?_ | (with_reducible intro h9; exact absurd h9 (by simp only [cI, cN]; decide +kernel)) | with_reducible intro _ | exact (rfl : narrow _ _ = _) | decide | (unfold vp_in; decide))
  · rename_i g
    exfalso
    simp only [cI, sh0, Int32.le_iff_toInt_le] at g
    rw [pk_sub_toInt (by omega) (by omega)] at g
    have : (m : Int) - 16 ≤ 0 := g
    omega
  · refine cc0 [0, 1] (sb_newC hg f n m ml hm1 hm) (by decide) (by decide) (by decide) rfl (by repeat' (first | exact trivial | refine And.intro ?_ ?_ | rfl)) (by first | rfl | (simp (discharger := omega) only [renVs, renV, rnI, cI, cN, ← nI_0, nI_ltI, nI_leI, nI_eq, nI_add, pk_mul, pk_sub, nI_clamp, vinI, not_true_eq_false, not_false_eq_true, iK0, iK1, iK2, iK3, iK4, iK5, iKm1, bK6, bK7, bK8, bK9, bK10, bK12, bK14, bK15, bK16, bK20, bK21, bK26, bK30, bK32, bK33, bK45, bK48, bK57, bK59, bK60, bK62, bK63, bK64, bK80, bK93, bK98, bK99, bK100, bK104, bK107, bK109, bK110, bK112, bK113, bK114, bK115, bK116, bK119, sK255, sK256, sK500, sK700, sK798, sK912, sK1400, sK2000])) ?_
    (rintro _ _ ⟨rfl, rfl⟩) <;> (repeat' (first | refine And.intro ?_ ?_ | (with_reducible intro h9; exact absurd h9 (by simp only [cI, cN]; decide +kernel)) | with_reducible intro _ | exact (rfl : narrow _ _ = _) | decide | (unfold vp_in; decide)))
    refine cc0 [1] (sb_copyOf hg f hb) (by decide) (by decide) (by decide) rfl (by repeat' (first | exact trivial | refine And.intro ?_ ?_ | rfl | (simp only [shL1]; rfl))) (by first | rfl | (simp (discharger := omega) only [renVs, renV, rnI, shL1, cI, cN, ← nI_0, nI_ltI, nI_leI, nI_eq, nI_add, pk_mul, pk_sub, nI_clamp, vinI, not_true_eq_false, not_false_eq_true, iK0, iK1, iK2, iK3, iK4, iK5, iKm1, bK6, bK7, bK8, bK9, bK10, bK12, bK14, bK15, bK16, bK20, bK21, bK26, bK30, bK32, bK33, bK45, bK48, bK57, bK59, bK60, bK62, bK63, bK64, bK80, bK93, bK98, bK99, bK100, bK104, bK107, bK109, bK110, bK112, bK113, bK114, bK115, bK116, bK119, sK255, sK256, sK500, sK700, sK798, sK912, sK1400, sK2000])) ?_
    (rintro _ _ ⟨rfl, rfl⟩) <;> (repeat' (first | refine And.intro ?_ ?_ | (with_reducible intro h9; exact absurd h9 (by simp only [cI, cN]; decide +kernel)) | with_reducible intro _ | exact (rfl : narrow _ _ = _) | decide | (unfold vp_in; decide)))
    rfl
end SB
