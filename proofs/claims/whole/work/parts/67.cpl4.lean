/-! ===== a pour, on both sides ===== -/
theorem zer_in {f : Nat → Int32} {a b q : Nat} (h : a ≤ q ∧ q < b) : zer f a b q = nI 0 := if_pos h
theorem glay_lo {g : Nat → Int32} {n q : Nat} {c s r : Int32} (h : q < 30 + 7 * n) : glay g n c s r q = g q := by
  unfold glay
  rw [upd_ne (by omega), upd_ne (by omega), upd_ne (by omega), upd_ne (by omega), upd_ne (by omega), upd_ne (by omega), upd_ne (by omega)]
theorem gcnt_ot {f : Nat → Int32} {n q : Nat} {t : Int32} (h : q ≠ 0 ∧ q ≠ 1 ∧ q ≠ 4 ∧ q ≠ 9) : gcnt f n t q = f q := by
  unfold gcnt
  rw [upd_ne (by omega), upd_ne (by omega), upd_ne (by omega), upd_ne (by omega)]
theorem pou_lo {f : Nat → Int32} {n q : Nat} {c s r : Int32} (h : q < n * 8) : pou f n c s r q = f q := by
  unfold pou
  rw [upd_ne (by omega), upd_ne (by omega), upd_ne (by omega), upd_ne (by omega), upd_ne (by omega), upd_ne (by omega), zer_out (by omega)]
theorem pou_glay {f g : Nat → Int32} {n j : Nat} {c s r : Int32} (hj : j < 7) : glay g n c s r (30 + 7 * n + j) = pou f n c s r (n * 8 + j) := by
  unfold glay pou
  rcases (show j = 0 ∨ j = 1 ∨ j = 2 ∨ j = 3 ∨ j = 4 ∨ j = 5 ∨ j = 6 by omega) with rfl | rfl | rfl | rfl | rfl | rfl | rfl
  all_goals simp (discharger := omega) only [upd_ne, upd_eq, zer_in]
theorem pou_row {f : Nat → Int32} {n c s r R : Nat} (hc : 10 ≤ c) (hc2 : c ≤ 60) (hs : s ≤ 4) (hr : r < R) : bOK R (fun j => pou f n (nI c) (nI s) (nI r) (n * 8 + j)) := by
  refine ⟨c, s, 2 * c, 0, 0, hc, hc2, hs, by omega, by omega, by omega, ?_, ?_, ?_, ?_, ?_, ?_, ?_, Or.inr ⟨r, hr, ?_⟩⟩
  all_goals (show pou _ _ _ _ _ _ = _; unfold pou; simp (discharger := omega) only [upd_ne, upd_eq, zer_in, pk_mul, nI_add, pk_sub])
  all_goals (congr 1)
section LC
variable {F : fT} {g : Nat → Int32}
theorem lc_pour (h : cpl F g) (i : fI F) {m r : Nat} (hm : m < F.M.1) (hr : r < F.R.1) (hB : F.B.1 < 12) (h3 : ¬ onB F.B (nI r) = 3) (hp : nI 5 * F.m m 0 + nI 10 ≤ F.p) (hh : nI 700 + nI 8 * F.m m 0 ≤ F.h) :
    cpl (fmk (fMd F m) F.R (F.B.1 + 1, pou F.B.2 F.B.1 (F.m m 0) (F.m m 1) (nI r)) (hap F.h (F.m m 0)) (F.p - (nI 5 * F.m m 0 + nI 10)) F.br F.lo F.ld F.hr (F.po + nI 1)) (gpou g F.B.1 m F.M.1 (nI r)) ∧
    fI (fmk (fMd F m) F.R (F.B.1 + 1, pou F.B.2 F.B.1 (F.m m 0) (F.m m 1) (nI r)) (hap F.h (F.m m 0)) (F.p - (nI 5 * F.m m 0 + nI 10)) F.br F.lo F.ld F.hr (F.po + nI 1)) := by
  obtain ⟨⟨a0, a1, a2, a3, a4, a5, a6, a7, a8, a9⟩, b1, b2, b3⟩ := h
  obtain ⟨⟨k, k1, k2, k3⟩, ⟨p, p1, p2⟩, i3, i4, i5⟩ := i
  obtain ⟨c, s, c1, c2, s1, ec, es⟩ := i3.2 m hm
  have h8 := i3.1
  have hec : F.m m 0 = nI c := ec
  have hes : F.m m 1 = nI s := es
  have egc : g (10 + 2 * m) = nI c := (b1 m 0 hm (by omega)).trans ec
  have egs : g (10 + 2 * m + 1) = nI s := (b1 m 1 hm (by omega)).trans es
  rw [hec] at hp hh
  rw [p2, pk_mul, nI_add, nI_leI (by omega) (by omega)] at hp
  rw [k3, pk_mul, nI_add, nI_leI (by omega) (by omega)] at hh
  have eh : hap (nI k) (nI c) = nI (max 20 (k - (c + 2))) := hap_nI (by omega) (by omega)
  have e1 : gpou g F.B.1 m F.M.1 (nI r) = gbrk (gcnt (glay g F.B.1 (nI c) (nI s) (nI r)) F.B.1 (nI (5 * c + 10))) m F.M.1 := by
    unfold gpou
    rw [egc, egs, pk_mul, nI_add]
  rw [e1, hec, hes]
  have eo : ∀ q, (q < 10 ∨ 26 ≤ q) → q ≠ 2 → q ≠ 0 ∧ q ≠ 1 ∧ q ≠ 4 ∧ q ≠ 9 → gbrk (gcnt (glay g F.B.1 (nI c) (nI s) (nI r)) F.B.1 (nI (5 * c + 10))) m F.M.1 q = glay g F.B.1 (nI c) (nI s) (nI r) q := fun q h1 h2 h3 => by
    rw [gbrk_lo hm h8 h1 h2, gcnt_ot h3]
  have el : ∀ q, q < 30 → glay g F.B.1 (nI c) (nI s) (nI r) q = g q := fun q h => glay_lo (by omega)
  refine ⟨⟨⟨?_, ?_, ?_, ?_, ?_, ?_, ?_, ?_, ?_, ?_⟩, ?_, b2.cg (fun q h1 h2 => by rw [eo q (by omega) (by omega) (by omega), el q h2]) i4.1, ?_⟩, ⟨max 20 (k - (c + 2)), by omega, by omega, ?_⟩, ⟨p - (5 * c + 10), by omega, ?_⟩, inM_drop i3 hm, i4, ?_, ?_, ?_⟩
  case refine_1 =>
    rw [gbrk_lo hm h8 (by omega) (by omega)]
    unfold gcnt
    rw [upd_ne (by omega), upd_ne (by omega), upd_eq, el 0 (by omega), a0, k3]
    show mxi (nI 20) (nI k - nI (5 * c + 10) / nI 5) = hap (nI k) (nI c)
    unfold hap mxi
    rw [pk_mul, nI_add]
  case refine_2 =>
    rw [gbrk_lo hm h8 (by omega) (by omega)]
    unfold gcnt
    rw [upd_ne (by omega), upd_ne (by omega), upd_ne (by omega), upd_eq, el 1 (by omega), a1, pk_mul, nI_add]
  case refine_3 => exact upd_eq
  case refine_5 =>
    rw [gbrk_lo hm h8 (by omega) (by omega)]
    unfold gcnt
    rw [upd_ne (by omega), upd_eq]
  case refine_10 =>
    rw [gbrk_lo hm h8 (by omega) (by omega)]
    unfold gcnt
    rw [upd_eq, el 9 (by omega), a9]
  case refine_11 =>
    have q1 : cplM F.M (gcnt (glay g F.B.1 (nI c) (nI s) (nI r)) F.B.1 (nI (5 * c + 10))) := b1.cg (fun q h1 h2 => by rw [gcnt_ot (by omega), el q (by omega)]) h8
    exact (cplM_drop q1 hm).cg (fun q h1 h2 => upd_ne (by omega)) (by show F.M.1 - 1 ≤ 8; omega)
  case refine_12 =>
    intro u j hu hj
    replace hu : u < F.B.1 + 1 := hu
    rw [eo _ (by omega) (by omega) (by omega)]
    show _ = pou _ _ _ _ _ _
    by_cases q : u = F.B.1
    · subst q
      exact pou_glay hj
    · rw [glay_lo (by omega), pou_lo (by omega)]
      exact b3 u j (by omega) hj
  case refine_13 =>
    show hap F.h (nI c) = _
    rw [k3, eh]
  case refine_14 =>
    show F.p - (nI 5 * nI c + nI 10) = _
    rw [p2, pk_mul, nI_add, pk_sub (by omega)]
  case refine_15 =>
    show F.B.1 + 1 ≤ 12
    omega
  case refine_16 =>
    intro u hu
    replace hu : u < F.B.1 + 1 := hu
    by_cases q : u = F.B.1
    · subst q
      exact pou_row c1 c2 s1 hr
    · exact (i5.2.1 u (by omega)).cg fun j hj => pou_lo (by omega)
  case refine_17 =>
    intro x hx
    replace hx : x < F.R.1 := hx
    have q1 : cnt (fun i => decide (pou F.B.2 F.B.1 (nI c) (nI s) (nI r) (i * 8 + 3) = nI x)) F.B.1 = onB F.B (nI x) := cnt_cg fun u hu => by
      show decide _ = decide _
      rw [pou_lo (by omega)]
    have q2 := i5.2.2 x hx
    show cnt (fun i => decide (pou F.B.2 F.B.1 (nI c) (nI s) (nI r) (i * 8 + 3) = nI x)) (F.B.1 + 1) ≤ 3
    by_cases z : x = r
    · subst z
      have : cnt (fun i => decide (pou F.B.2 F.B.1 (nI c) (nI s) (nI x) (i * 8 + 3) = nI x)) (F.B.1 + 1) ≤ cnt (fun i => decide (pou F.B.2 F.B.1 (nI c) (nI s) (nI x) (i * 8 + 3) = nI x)) F.B.1 + 1 := by
        show cnt _ F.B.1 + (if _ then _ else _) ≤ _
        split <;> omega
      omega
    · have q3 : pou F.B.2 F.B.1 (nI c) (nI s) (nI r) (F.B.1 * 8 + 3) = nI r := by
        unfold pou
        simp (discharger := omega) only [upd_ne, upd_eq]
      rw [cnt_f, q1]
      · exact q2
      · intro w
        have w := of_decide_eq_true w
        rw [q3, nI_eq (by have := i4.1; omega) (by have := i4.1; omega)] at w
        exact z w.symm
  all_goals (rw [eo _ (by omega) (by omega) (by omega), el _ (by omega)]; assumption)
end LC
