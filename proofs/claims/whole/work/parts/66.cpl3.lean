/-! ===== the changes of bells, on both sides ===== -/
theorem nI_nm1 {a : Nat} (h : a < 2 ^ 31) : ¬ nI a = -1 := fun e => by
  have : (-1 : Int32) < 0 := by decide
  rw [← e] at this
  exact nI_pos h this
theorem nI_sub1 {a : Nat} (h : 1 ≤ a) : nI a + -1 = nI (a - 1) := by
  obtain ⟨b, rfl⟩ : ∃ b, a = b + 1 := ⟨a - 1, by omega⟩
  exact pk_m1 b
theorem nI_neg {a b : Nat} (h : b ≤ a) : nI a + -(nI b) = nI (a - b) := by
  rw [← pk_sub h, Int32.sub_eq_add_neg]
theorem stk_at {f : Nat → Int32} {x : Int32} {k u j : Nat} (hu : u < k) (hj : j < 8) : stk f x k (u * 8 + j) = if j = 3 ∧ x < f (u * 8 + j) then f (u * 8 + j) + -1 else f (u * 8 + j) := by
  unfold stk
  by_cases q : j = 3 ∧ x < f (u * 8 + j)
  · rw [if_pos q, if_pos ⟨by omega, by omega, q.2⟩]
  · rw [if_neg q, if_neg (fun z => q ⟨by omega, z.2.2⟩)]
theorem gst_at {g : Nat → Int32} {x : Int32} {k u j : Nat} (hu : u < k) (hj : j < 7) : gst g x k (30 + 7 * u + j) = if j = 3 ∧ x < g (30 + 7 * u + j) then g (30 + 7 * u + j) - nI 1 else g (30 + 7 * u + j) := by
  unfold gst
  by_cases q : j = 3 ∧ x < g (30 + 7 * u + j)
  · rw [if_pos q, if_pos ⟨by omega, by omega, by omega, q.2⟩]
  · rw [if_neg q, if_neg (fun z => q ⟨by omega, z.2.2.2⟩)]
/-- a bell's rack, when the rack r is struck -/
theorem rk_new {R r : Nat} {b : Int32} (h : b = -1 ∨ ∃ z, z < R ∧ b = nI z) (hb : ¬ b = nI r) (hR : R ≤ 4) (hr : r < R) :
    (if nI r < b then b - nI 1 else b) = (if nI r < b then b + -1 else b) ∧ ((b = -1 ∧ (if nI r < b then b + -1 else b) = -1) ∨ ∃ z, z < R ∧ z ≠ r ∧ b = nI z ∧ (if nI r < b then b + -1 else b) = nI (if r < z then z - 1 else z)) := by
  rcases h with rfl | ⟨z, hz, rfl⟩
  · have : ¬ nI r < -1 := fun q => by
      have h2 : (-1 : Int32) < 0 := by decide
      exact nI_pos (n := r) (by omega) (Int32.lt_trans q h2)
    rw [if_neg this, if_neg this]
    exact ⟨rfl, Or.inl ⟨rfl, rfl⟩⟩
  · rw [nI_eq (by omega) (by omega)] at hb
    by_cases q : r < z
    · have q2 : nI r < nI z := (nI_ltI (by omega) (by omega)).mpr q
      rw [if_pos q2, if_pos q2, pk_sub (by omega), nI_sub1 (by omega)]
      exact ⟨rfl, Or.inr ⟨z, hz, hb, rfl, by rw [if_pos q]⟩⟩
    · have q2 : ¬ nI r < nI z := fun w => q ((nI_ltI (by omega) (by omega)).mp w)
      rw [if_neg q2, if_neg q2]
      exact ⟨rfl, Or.inr ⟨z, hz, hb, rfl, by rw [if_neg q]⟩⟩
theorem bOK.rk {R : Nat} {f : Nat → Int32} (h : bOK R f) : f 3 = -1 ∨ ∃ z, z < R ∧ f 3 = nI z := by
  obtain ⟨c, s, w, k, m, c1, c2, s1, w1, k1, m1, f0, f1, f2, f4, f5, f6, f7, f3⟩ := h
  exact f3.imp_left fun q => q.1
theorem inB_row {R i : Nat} {B : tT} {f : Nat → Int32} (h : inB R B) (e : ∀ u j, u < B.1 → u ≠ i → j < 8 → f (u * 8 + j) = B.2 (u * 8 + j)) (hi : bOK R (fun j => f (i * 8 + j))) (h3 : ∀ r, r < R → f (i * 8 + 3) = nI r → B.2 (i * 8 + 3) = nI r) : inB R (B.1, f) := by
  obtain ⟨h1, h2, h4⟩ := h
  refine ⟨h1, fun u hu => ?_, fun r hr => Nat.le_trans (cnt_imp fun u hu q => ?_) (h4 r hr)⟩
  · by_cases q : u = i
    · subst q; exact hi
    · exact (h2 u hu).cg fun j hj => e u j hu q hj
  · replace q := of_decide_eq_true q
    refine decide_eq_true ?_
    by_cases z : u = i
    · subst z; exact h3 r hr q
    · rw [← e u 3 hu z (by omega)]; exact q
section LC
variable {F : fT} {g : Nat → Int32}
abbrev fRd (F : fT) (i : Nat) : tT := (F.R.1 - 1, shf F.R.2 (i * 1) ((F.R.1 - 1) * 1) 1)
theorem lc_strike (h : cpl F g) (i : fI F) {r : Nat} (hr : r < F.R.1) (h0 : onB F.B (nI r) = 0) :
    cpl (fmk F.M (fRd F r) (F.B.1, stk F.B.2 (nI r) F.B.1) F.h F.p F.br F.lo F.ld F.hr F.po) (gst (gstr g r F.R.1) (nI r) F.B.1) ∧ fI (fmk F.M (fRd F r) (F.B.1, stk F.B.2 (nI r) F.B.1) F.h F.p F.br F.lo F.ld F.hr F.po) := by
  obtain ⟨⟨a0, a1, a2, a3, a4, a5, a6, a7, a8, a9⟩, b1, b2, b3⟩ := h
  obtain ⟨i1, i0, i3, i4, j1, j2, j3⟩ := i
  have h4 := i4.1
  have hn : ∀ u, u < F.B.1 → ¬ F.B.2 (u * 8 + 3) = nI r := fun u hu e => cnt_zero h0 u hu (decide_eq_true e)
  have rk := fun u hu => rk_new (j2 u hu).rk (hn u hu) h4 hr
  have e1 : ∀ q, q < 30 → (q < 26 ∧ q ≠ 3) → gst (gstr g r F.R.1) (nI r) F.B.1 q = g q := fun q h1 h2 => by
    rw [gst_lo h1]
    unfold gstr
    rw [upd_ne (by omega), zer_out (by omega), shf_out (by omega)]
  have e2 : ∀ q, 30 ≤ q → gstr g r F.R.1 q = g q := fun q h1 => by
    unfold gstr
    rw [upd_ne (by omega), zer_out (by omega), shf_out (by omega)]
  refine ⟨⟨⟨?_, ?_, ?_, ?_, ?_, ?_, ?_, ?_, ?_, ?_⟩, b1.cg (fun q h1 h2 => e1 q (by omega) (by omega)) i3.1, ?_, ?_⟩, i1, i0, i3, inR_drop i4 hr, j1, ?_, ?_⟩
  case refine_4 =>
    rw [gst_lo (by omega)]
    exact upd_eq
  case refine_11 =>
    refine (cplR_drop b2 hr).cg (fun q h1 h2 => ?_) (by show F.R.1 - 1 ≤ 4; omega)
    rw [gst_lo (by omega)]
    exact upd_ne (by omega)
  case refine_12 =>
    intro u j hu hj
    replace hu : u < F.B.1 := hu
    show _ = stk _ _ _ _
    rw [gst_at hu hj, e2 _ (by omega), b3 u j hu hj, stk_at hu (by omega)]
    by_cases q : j = 3
    · subst q
      have := (rk u hu).1
      simp only [true_and]
      exact this
    · rw [if_neg (fun z => q z.1), if_neg (fun z => q z.1)]
  case refine_13 =>
    intro u hu
    replace hu : u < F.B.1 := hu
    obtain ⟨c, s, w, k, m, c1, c2, s1, w1, k1, m1, f0, f1, f2, f4, f5, f6, f7, f3⟩ := j2 u hu
    show bOK (F.R.1 - 1) fun j => stk F.B.2 (nI r) F.B.1 (u * 8 + j)
    refine ⟨c, s, w, k, m, c1, c2, s1, w1, k1, m1, ?_, ?_, ?_, ?_, ?_, ?_, ?_, ?_⟩
    case refine_8 =>
      show (stk F.B.2 (nI r) F.B.1 (u * 8 + 3) = -1 ∧ w = 0) ∨ ∃ z, z < F.R.1 - 1 ∧ stk F.B.2 (nI r) F.B.1 (u * 8 + 3) = nI z
      rw [stk_at hu (by omega)]
      simp only [true_and]
      rcases (rk u hu).2 with ⟨q1, q2⟩ | ⟨z, z1, z2, z3, z4⟩
      · rcases f3 with ⟨f3, f8⟩ | ⟨r', hr', f3⟩
        · exact Or.inl ⟨q2, f8⟩
        · exact absurd ((show F.B.2 (u * 8 + 3) = nI r' from f3).symm.trans q1) (nI_nm1 (by omega))
      · exact Or.inr ⟨_, by split <;> omega, z4⟩
    all_goals (show stk _ _ _ _ = _; rw [stk_at hu (by omega), if_neg (by omega)]; assumption)
  case refine_14 =>
    intro x hx
    replace hx : x < F.R.1 - 1 := hx
    refine Nat.le_trans (cnt_imp (q := fun u => decide (F.B.2 (u * 8 + 3) = nI (if x < r then x else x + 1))) fun u hu q => decide_eq_true ?_) (j3 (if x < r then x else x + 1) (by split <;> omega))
    replace q : stk F.B.2 (nI r) F.B.1 (u * 8 + 3) = nI x := of_decide_eq_true q
    rw [stk_at hu (by omega)] at q
    simp only [true_and] at q
    rcases (rk u hu).2 with ⟨q1, q2⟩ | ⟨z, z1, z2, z3, z4⟩
    · rw [q2] at q
      exact absurd q.symm (nI_nm1 (by omega))
    · rw [z4, nI_eq (by split <;> omega) (by omega)] at q
      refine z3.trans ?_
      congr 1
      split at q <;> split <;> omega
  all_goals (rw [e1 _ (by omega) (by omega)]; assumption)
theorem lc_take (h : cpl F g) (i : fI F) {b : Nat} (hb : b < F.B.1) (h4 : F.b b 4 ≤ nI 0) :
    cpl (F.sB (upd F.B.2 (b * 8 + 3) (-1))) (upd g (30 + 7 * b + 3) (-1)) ∧ fI (F.sB (upd F.B.2 (b * 8 + 3) (-1))) := by
  obtain ⟨⟨a0, a1, a2, a3, a4, a5, a6, a7, a8, a9⟩, b1, b2, b3⟩ := h
  obtain ⟨i1, i0, i3, i4, i5⟩ := i
  refine ⟨⟨⟨?_, ?_, ?_, ?_, ?_, ?_, ?_, ?_, ?_, ?_⟩, b1.cg ?_ i3.1, b2.cg ?_ i4.1, ?_⟩, i1, i0, i3, i4, inB_row (i := b) i5 ?_ ?_ ?_⟩
  case refine_13 =>
    intro u j hu hj
    replace hu : u < F.B.1 := hu
    show upd _ _ _ _ = upd _ _ _ _
    by_cases q : u = b ∧ j = 3
    · obtain ⟨rfl, rfl⟩ := q
      rw [upd_eq, upd_eq]
    · rw [upd_ne (by omega), upd_ne (by omega)]
      exact b3 u j hu hj
  case refine_14 =>
    intro u j hu hn hj
    exact upd_ne (by omega)
  case refine_15 =>
    obtain ⟨c, s, w, k, m, c1, c2, s1, w1, k1, m1, f0, f1, f2, f4, f5, f6, f7, f3⟩ := i5.2.1 b hb
    have hw : w = 0 := by
      rw [show F.b b 4 = nI w from f4, nI_leI (by omega) (by omega)] at h4
      omega
    refine ⟨c, s, w, k, m, c1, c2, s1, w1, k1, m1, ?_, ?_, ?_, ?_, ?_, ?_, ?_, Or.inl ⟨upd_eq, hw⟩⟩
    all_goals (show upd _ _ _ _ = _; rw [upd_ne (by omega)]; assumption)
  case refine_16 =>
    intro r hr q
    rw [upd_eq] at q
    replace hr : r < F.R.1 := hr
    exact absurd q.symm (nI_nm1 (by have := i4.1; omega))
  all_goals first | (intros; simp (discharger := omega) only [upd_ne]; done) | (rw [upd_ne (by omega)]; assumption)
theorem lc_acr (h : cpl F g) (i : fI F) {b z : Nat} (hb : b < F.B.1) (h5 : F.b b 5 + nI z ≤ nI 9) (hz : z ≤ 9) :
    cpl (F.sB (acr F.B.2 b (nI z))) (upd g (30 + 7 * b + 5) (g (30 + 7 * b + 5) + nI z)) ∧ fI (F.sB (acr F.B.2 b (nI z))) := by
  obtain ⟨⟨a0, a1, a2, a3, a4, a5, a6, a7, a8, a9⟩, b1, b2, b3⟩ := h
  obtain ⟨i1, i0, i3, i4, i5⟩ := i
  refine ⟨⟨⟨?_, ?_, ?_, ?_, ?_, ?_, ?_, ?_, ?_, ?_⟩, b1.cg ?_ i3.1, b2.cg ?_ i4.1, ?_⟩, i1, i0, i3, i4, inB_row (i := b) i5 ?_ ?_ ?_⟩
  case refine_13 =>
    intro u j hu hj
    replace hu : u < F.B.1 := hu
    show upd _ _ _ _ = acr _ _ _ _
    unfold acr
    by_cases q : u = b ∧ j = 5
    · obtain ⟨rfl, rfl⟩ := q
      rw [upd_eq, upd_ne (by omega), upd_eq, b3 u 5 hu (by omega)]
    · rw [upd_ne (by omega), upd_ne (by omega), upd_ne (by omega)]
      exact b3 u j hu hj
  case refine_14 =>
    intro u j hu hn hj
    unfold acr
    rw [upd_ne (by omega), upd_ne (by omega)]
  case refine_15 =>
    obtain ⟨c, s, w, k, m, c1, c2, s1, w1, k1, m1, f0, f1, f2, f4, f5, f6, f7, f3⟩ := i5.2.1 b hb
    have hk : k + z ≤ 9 := by
      rw [show F.b b 5 = nI k from f5, nI_add, nI_leI (by omega) (by omega)] at h5
      exact h5
    refine ⟨c, s, w, k + z, m, c1, c2, s1, w1, hk, m1, ?_, ?_, ?_, ?_, ?_, ?_, ?_, ?_⟩
    case refine_5 =>
      show acr _ _ _ _ = _
      unfold acr
      rw [upd_ne (by omega), upd_eq, show F.B.2 (b * 8 + 5) = nI k from f5, nI_add]
    case refine_7 =>
      show acr _ _ _ _ = _
      unfold acr
      rw [upd_eq, show F.B.2 (b * 8 + 7) = nI (100 + m - c - k) from f7, nI_neg (by omega)]
      congr 1
      omega
    case refine_8 =>
      show (acr _ _ _ _ = _ ∧ _) ∨ ∃ r, _ ∧ acr _ _ _ _ = _
      unfold acr
      rw [upd_ne (by omega), upd_ne (by omega)]
      exact f3
    all_goals (show acr _ _ _ _ = _; unfold acr; rw [upd_ne (by omega), upd_ne (by omega)]; assumption)
  case refine_16 =>
    intro r hr q
    unfold acr at q
    rw [upd_ne (by omega), upd_ne (by omega)] at q
    exact q
  all_goals first | (intros; simp (discharger := omega) only [upd_ne]; done) | (rw [upd_ne (by omega)]; assumption)
theorem lc_amk (h : cpl F g) (i : fI F) {b z : Nat} (hb : b < F.B.1) (h6 : F.b b 6 + nI z ≤ nI 6) (hz : z ≤ 6) :
    cpl (F.sB (amk F.B.2 b (nI z))) (upd g (30 + 7 * b + 6) (g (30 + 7 * b + 6) + nI z)) ∧ fI (F.sB (amk F.B.2 b (nI z))) := by
  obtain ⟨⟨a0, a1, a2, a3, a4, a5, a6, a7, a8, a9⟩, b1, b2, b3⟩ := h
  obtain ⟨i1, i0, i3, i4, i5⟩ := i
  refine ⟨⟨⟨?_, ?_, ?_, ?_, ?_, ?_, ?_, ?_, ?_, ?_⟩, b1.cg ?_ i3.1, b2.cg ?_ i4.1, ?_⟩, i1, i0, i3, i4, inB_row (i := b) i5 ?_ ?_ ?_⟩
  case refine_13 =>
    intro u j hu hj
    replace hu : u < F.B.1 := hu
    show upd _ _ _ _ = amk _ _ _ _
    unfold amk
    by_cases q : u = b ∧ j = 6
    · obtain ⟨rfl, rfl⟩ := q
      rw [upd_eq, upd_ne (by omega), upd_eq, b3 u 6 hu (by omega)]
    · rw [upd_ne (by omega), upd_ne (by omega), upd_ne (by omega)]
      exact b3 u j hu hj
  case refine_14 =>
    intro u j hu hn hj
    unfold amk
    rw [upd_ne (by omega), upd_ne (by omega)]
  case refine_15 =>
    obtain ⟨c, s, w, k, m, c1, c2, s1, w1, k1, m1, f0, f1, f2, f4, f5, f6, f7, f3⟩ := i5.2.1 b hb
    have hk : m + z ≤ 6 := by
      rw [show F.b b 6 = nI m from f6, nI_add, nI_leI (by omega) (by omega)] at h6
      exact h6
    refine ⟨c, s, w, k, m + z, c1, c2, s1, w1, k1, hk, ?_, ?_, ?_, ?_, ?_, ?_, ?_, ?_⟩
    case refine_6 =>
      show amk _ _ _ _ = _
      unfold amk
      rw [upd_ne (by omega), upd_eq, show F.B.2 (b * 8 + 6) = nI m from f6, nI_add]
    case refine_7 =>
      show amk _ _ _ _ = _
      unfold amk
      rw [upd_eq, show F.B.2 (b * 8 + 7) = nI (100 + m - c - k) from f7, nI_add]
      congr 1
      omega
    case refine_8 =>
      show (amk _ _ _ _ = _ ∧ _) ∨ ∃ r, _ ∧ amk _ _ _ _ = _
      unfold amk
      rw [upd_ne (by omega), upd_ne (by omega)]
      exact f3
    all_goals (show amk _ _ _ _ = _; unfold amk; rw [upd_ne (by omega), upd_ne (by omega)]; assumption)
  case refine_16 =>
    intro r hr q
    unfold amk at q
    rw [upd_ne (by omega), upd_ne (by omega)] at q
    exact q
  all_goals first | (intros; simp (discharger := omega) only [upd_ne]; done) | (rw [upd_ne (by omega)]; assumption)
abbrev fBd (F : fT) (i : Nat) : tT := (F.B.1 - 1, shf F.B.2 (i * 8) ((F.B.1 - 1) * 8) 8)
theorem gbk_F (h : cpl F g) (i : fI F) {b : Nat} (hb : b < F.B.1) : ∃ w z, w ≤ 310 ∧ z ≤ w ∧ z = w / 10 ∧ F.b b 2 = nI w ∧ g (30 + 7 * b + 2) = nI w ∧ nI w / nI 10 = nI z ∧ gbk g b = nI (w - z) ∧ F.back b = nI (w - z) ∧ F.b b 2 - F.back b = nI z := by
  obtain ⟨c, s, w, k, m, c1, c2, s1, w1, k1, m1, f0, f1, f2, f4, f5, f6, f7, f3⟩ := i.2.2.2.2.2.1 b hb
  have e1 : F.b b 2 = nI (5 * c + 10) := f2
  have e2 : g (30 + 7 * b + 2) = nI (5 * c + 10) := (h.2.2.2 b 2 hb (by omega)).trans f2
  have e3 : nI (5 * c + 10) / nI 10 = nI ((5 * c + 10) / 10) := pk_div (by omega) (by omega) (by omega)
  refine ⟨5 * c + 10, (5 * c + 10) / 10, by omega, by omega, rfl, e1, e2, e3, ?_, ?_, ?_⟩
  · unfold gbk
    rw [e2, e3, pk_sub (by omega)]
  · unfold fT.back
    rw [e1, e3, pk_sub (by omega)]
  · unfold fT.back
    rw [e1, e3, pk_sub (by omega), pk_sub (by omega)]
    congr 1
    omega
theorem lc_recast (h : cpl F g) (i : fI F) {b : Nat} (hb : b < F.B.1) (hp : F.p + F.back b ≤ nI 2000) :
    cpl (fmk F.M F.R (fBd F b) F.h (F.p + F.back b) F.br (F.lo + (F.b b 2 - F.back b)) F.ld F.hr F.po) (grec g b F.B.1) ∧ fI (fmk F.M F.R (fBd F b) F.h (F.p + F.back b) F.br (F.lo + (F.b b 2 - F.back b)) F.ld F.hr F.po) := by
  obtain ⟨w, z, w1, z1, z2, e1, e2, e3, e4, e5, e6⟩ := gbk_F h i hb
  obtain ⟨⟨a0, a1, a2, a3, a4, a5, a6, a7, a8, a9⟩, b1, b2, b3⟩ := h
  obtain ⟨i1, ⟨p, p1, p2⟩, i3, i4, i5⟩ := i
  have h12 := i5.1
  rw [e5, p2, nI_add, nI_leI (by omega) (by omega)] at hp
  have eg : ∀ q, q < 30 → q ≠ 4 → q ≠ 1 → q ≠ 6 → grec g b F.B.1 q = g q := fun q h1 h2 h3 h4 => by
    unfold grec
    rw [upd_ne h2, zer_out (by omega), shf_out (by omega), upd_ne h4, upd_ne h3]
  have c3 : cplB F.B (upd (upd g 1 (g 1 + gbk g b)) 6 (g 6 + g (30 + 7 * b + 2) / nI 10)) := b3.cg fun q hq => by rw [upd_ne (by omega), upd_ne (by omega)]
  rw [e6, e5]
  refine ⟨⟨⟨?_, ?_, ?_, ?_, ?_, ?_, ?_, ?_, ?_, ?_⟩, b1.cg (fun q h1 h2 => eg q (by omega) (by omega) (by omega) (by omega)) i3.1, b2.cg (fun q h1 h2 => eg q (by omega) (by omega) (by omega) (by omega)) i4.1, ?_⟩, i1, ⟨p + (w - z), hp, ?_⟩, i3, i4, inB_drop i5 hb⟩
  case refine_2 =>
    unfold grec
    rw [upd_ne (by omega), zer_out (by omega), shf_out (by omega), upd_ne (by omega), upd_eq, a1, e4]
  case refine_5 => exact upd_eq
  case refine_7 =>
    unfold grec
    rw [upd_ne (by omega), zer_out (by omega), shf_out (by omega), upd_eq, a6, e2, e3]
  case refine_11 =>
    exact (cplB_drop c3 hb).cg fun q hq => upd_ne (by omega)
  case refine_12 =>
    show F.p + nI (w - z) = _
    rw [p2, nI_add]
  all_goals (rw [eg _ (by omega) (by omega) (by omega) (by omega)]; assumption)
end LC
