/-! ===== the changes, on both sides ===== -/
theorem shf_in {f : Nat → Int32} {a b s q : Nat} (h : a ≤ q ∧ q < b) : shf f a b s q = f (q + s) := if_pos h
theorem cnt_cg {p q : Nat → Bool} : ∀ {n : Nat}, (∀ i, i < n → p i = q i) → cnt p n = cnt q n
  | 0, _ => rfl
  | n + 1, h => by
    unfold cnt
    rw [cnt_cg (n := n) fun i hi => h i (by omega), h n (by omega)]
theorem cnt_imp {p q : Nat → Bool} : ∀ {n : Nat}, (∀ i, i < n → p i = true → q i = true) → cnt p n ≤ cnt q n
  | 0, _ => Nat.le_refl _
  | n + 1, h => by
    have h1 := cnt_imp (n := n) fun i hi => h i (by omega)
    by_cases e : p n = true
    · rw [cnt_t e, cnt_t (h n (by omega) e)]
      omega
    · rw [cnt_f e]
      by_cases e2 : q n = true
      · rw [cnt_t e2]; omega
      · rw [cnt_f e2]; exact h1
theorem cnt_drop {p : Nat → Bool} {i : Nat} : ∀ m, cnt (fun u => p (if i ≤ u then u + 1 else u)) m ≤ cnt p (m + 1)
  | 0 => Nat.zero_le _
  | m + 1 => by
    have h1 := cnt_drop (p := p) (i := i) m
    by_cases q : i ≤ m
    · by_cases e : p (m + 1) = true
      · rw [cnt_t (p := p) e, cnt_t (p := fun u => p (if i ≤ u then u + 1 else u)) (by rw [if_pos q]; exact e)]
        omega
      · rw [cnt_f (p := p) e, cnt_f (p := fun u => p (if i ≤ u then u + 1 else u)) (by rw [if_pos q]; exact e)]
        exact h1
    · have h2 : cnt (fun u => p (if i ≤ u then u + 1 else u)) (m + 1) = cnt p (m + 1) := cnt_cg fun u hu => by rw [if_neg (by omega)]
      rw [h2]
      by_cases e : p (m + 1) = true
      · rw [cnt_t (p := p) e]; omega
      · rw [cnt_f (p := p) e]; omega
theorem cnt_zero {p : Nat → Bool} : ∀ {n : Nat}, cnt p n = 0 → ∀ i, i < n → ¬ p i = true
  | 0, _, i, hi, _ => by omega
  | n + 1, h, i, hi, e => by
    by_cases z : p n = true
    · rw [cnt_t z] at h; omega
    · rw [cnt_f z] at h
      by_cases q : i = n
      · subst q; exact z e
      · exact cnt_zero h i (by omega) e
theorem bOK.cg {R : Nat} {f f' : Nat → Int32} (h : bOK R f) (e : ∀ j, j < 8 → f' j = f j) : bOK R f' := by
  obtain ⟨c, s, w, k, m, c1, c2, s1, w1, k1, m1, f0, f1, f2, f4, f5, f6, f7, f3⟩ := h
  refine ⟨c, s, w, k, m, c1, c2, s1, w1, k1, m1, ?_, ?_, ?_, ?_, ?_, ?_, ?_, ?_⟩
  all_goals rw [e _ (by omega)]
  all_goals assumption
theorem cplM_drop {M : tT} {g : Nat → Int32} {i : Nat} (h : cplM M g) (hi : i < M.1) : cplM (M.1 - 1, shf M.2 (i * 2) ((M.1 - 1) * 2) 2) (zer (shf g (10 + 2 * i) (10 + 2 * (M.1 - 1)) 2) (10 + 2 * (M.1 - 1)) (10 + 2 * (M.1 - 1) + 2)) := fun u v hu hv => by
  replace hu : u < M.1 - 1 := hu
  show zer _ _ _ _ = shf _ _ _ _ _
  rw [zer_out (by omega)]
  by_cases q : i ≤ u
  · rw [shf_in (by omega), shf_in (by omega)]
    rw [show 10 + 2 * u + v + 2 = 10 + 2 * (u + 1) + v by omega, show u * 2 + v + 2 = (u + 1) * 2 + v by omega]
    exact h (u + 1) v (by omega) hv
  · rw [shf_out (by omega), shf_out (by omega)]
    exact h u v (by omega) hv
theorem inM_drop {M : tT} {i : Nat} (h : inM M) (hi : i < M.1) : inM (M.1 - 1, shf M.2 (i * 2) ((M.1 - 1) * 2) 2) := by
  refine ⟨by have := h.1; show M.1 - 1 ≤ 8; omega, fun u hu => ?_⟩
  replace hu : u < M.1 - 1 := hu
  show ∃ c s, _ ∧ _ ∧ _ ∧ shf _ _ _ _ _ = _ ∧ shf _ _ _ _ _ = _
  by_cases q : i ≤ u
  · rw [shf_in (by omega), shf_in (by omega)]
    rw [show u * 2 + 0 + 2 = (u + 1) * 2 + 0 by omega, show u * 2 + 1 + 2 = (u + 1) * 2 + 1 by omega]
    exact h.2 (u + 1) (by omega)
  · rw [shf_out (by omega), shf_out (by omega)]
    exact h.2 u (by omega)
theorem cplR_drop {R : tT} {g : Nat → Int32} {i : Nat} (h : cplR R g) (hi : i < R.1) : cplR (R.1 - 1, shf R.2 (i * 1) ((R.1 - 1) * 1) 1) (zer (shf g (26 + 1 * i) (26 + 1 * (R.1 - 1)) 1) (26 + 1 * (R.1 - 1)) (26 + 1 * (R.1 - 1) + 1)) := fun u hu => by
  replace hu : u < R.1 - 1 := hu
  show zer _ _ _ _ = shf _ _ _ _ _
  rw [zer_out (by omega)]
  by_cases q : i ≤ u
  · rw [shf_in (by omega), shf_in (by omega)]
    rw [show 26 + u + 1 = 26 + (u + 1) by omega, show u * 1 + 0 + 1 = (u + 1) * 1 + 0 by omega]
    exact h (u + 1) (by omega)
  · rw [shf_out (by omega), shf_out (by omega)]
    exact h u (by omega)
theorem inR_drop {R : tT} {i : Nat} (h : inR R) (hi : i < R.1) : inR (R.1 - 1, shf R.2 (i * 1) ((R.1 - 1) * 1) 1) := by
  refine ⟨by have := h.1; show R.1 - 1 ≤ 4; omega, fun u hu => ?_⟩
  replace hu : u < R.1 - 1 := hu
  show ∃ d, _ ∧ _ ∧ shf _ _ _ _ _ = _
  by_cases q : i ≤ u
  · rw [shf_in (by omega)]
    rw [show u * 1 + 0 + 1 = (u + 1) * 1 + 0 by omega]
    exact h.2 (u + 1) (by omega)
  · rw [shf_out (by omega)]
    exact h.2 u (by omega)
theorem cplB_drop {B : tT} {g : Nat → Int32} {i : Nat} (h : cplB B g) (hi : i < B.1) : cplB (B.1 - 1, shf B.2 (i * 8) ((B.1 - 1) * 8) 8) (zer (shf g (30 + 7 * i) (30 + 7 * (B.1 - 1)) 7) (30 + 7 * (B.1 - 1)) (30 + 7 * (B.1 - 1) + 7)) := fun u v hu hv => by
  replace hu : u < B.1 - 1 := hu
  show zer _ _ _ _ = shf _ _ _ _ _
  rw [zer_out (by omega)]
  by_cases q : i ≤ u
  · rw [shf_in (by omega), shf_in (by omega)]
    rw [show 30 + 7 * u + v + 7 = 30 + 7 * (u + 1) + v by omega, show u * 8 + v + 8 = (u + 1) * 8 + v by omega]
    exact h (u + 1) v (by omega) hv
  · rw [shf_out (by omega), shf_out (by omega)]
    exact h u v (by omega) hv
theorem row_drop {f : Nat → Int32} {i n u j : Nat} (hu : u < n - 1) (hj : j < 8) : shf f (i * 8) ((n - 1) * 8) 8 (u * 8 + j) = f ((if i ≤ u then u + 1 else u) * 8 + j) := by
  by_cases q : i ≤ u
  · rw [if_pos q, shf_in (by omega)]
    congr 1
    omega
  · rw [if_neg q, shf_out (by omega)]
theorem inB_drop {R : Nat} {B : tT} {i : Nat} (h : inB R B) (hi : i < B.1) : inB R (B.1 - 1, shf B.2 (i * 8) ((B.1 - 1) * 8) 8) := by
  obtain ⟨h1, h2, h3⟩ := h
  refine ⟨by show B.1 - 1 ≤ 12; omega, fun u hu => ?_, fun r hr => ?_⟩
  · replace hu : u < B.1 - 1 := hu
    refine (h2 (if i ≤ u then u + 1 else u) (by split <;> omega)).cg fun j hj => row_drop hu hj
  · refine Nat.le_trans ?_ (h3 r hr)
    show cnt (fun u => decide (shf B.2 (i * 8) ((B.1 - 1) * 8) 8 (u * 8 + 3) = nI r)) (B.1 - 1) ≤ _
    rw [cnt_cg (q := fun u => (fun v => decide (B.2 (v * 8 + 3) = nI r)) (if i ≤ u then u + 1 else u)) fun u hu => by
      show decide _ = decide _
      rw [row_drop hu (by omega)]]
    have := cnt_drop (p := fun v => decide (B.2 (v * 8 + 3) = nI r)) (i := i) (B.1 - 1)
    rw [Nat.sub_add_cancel (by omega)] at this
    exact this
section LC
variable {F : fT} {g : Nat → Int32}
abbrev fMd (F : fT) (i : Nat) : tT := (F.M.1 - 1, shf F.M.2 (i * 2) ((F.M.1 - 1) * 2) 2)
theorem gbrk_lo {f : Nat → Int32} {i m q : Nat} (hi : i < m) (h8 : m ≤ 8) (h : q < 10 ∨ 26 ≤ q) (h2 : q ≠ 2) : gbrk f i m q = f q := by
  unfold gbrk
  rw [upd_ne h2, zer_out (by omega), shf_out (by omega)]
theorem lc_smash (h : cpl F g) (i : fI F) {k : Nat} (hk : k < F.M.1) :
    cpl (fmk (fMd F k) F.R F.B F.h F.p F.br F.lo F.ld F.hr F.po) (gbrk g k F.M.1) ∧ fI (fmk (fMd F k) F.R F.B F.h F.p F.br F.lo F.ld F.hr F.po) := by
  obtain ⟨⟨a0, a1, a2, a3, a4, a5, a6, a7, a8, a9⟩, b1, b2, b3⟩ := h
  obtain ⟨i1, i0, i3, i2⟩ := i
  have h8 := i3.1
  have e : ∀ q, (q < 10 ∨ 26 ≤ q) → q ≠ 2 → gbrk g k F.M.1 q = g q := fun q h h2 => gbrk_lo hk h8 h h2
  refine ⟨⟨⟨?_, ?_, ?_, ?_, ?_, ?_, ?_, ?_, ?_, ?_⟩, (cplM_drop b1 hk).cg (fun q h1 h2 => upd_ne (by omega)) (by show F.M.1 - 1 ≤ 8; omega), b2.cg (fun q h1 h2 => e q (by omega) (by omega)) i2.1.1, b3.cg (fun q h1 => e q (by omega) (by omega))⟩, i1, i0, inM_drop i3 hk, i2⟩
  case refine_3 => exact upd_eq
  all_goals (rw [e _ (by omega) (by omega)]; assumption)
theorem lc_rack (h : cpl F g) (i : fI F) {x : Int32} (hx : nI 1 ≤ x ∧ x ≤ nI 9) (hn : F.R.1 < 4) :
    cpl (fmk F.M (F.R.1 + 1, upd (zer F.R.2 (F.R.1 * 1) ((F.R.1 + 1) * 1)) (F.R.1 * 1 + 0) x) F.B F.h F.p F.br F.lo F.ld F.hr F.po) (upd (upd g (26 + F.R.1) x) 3 (nI (F.R.1 + 1))) ∧
    fI (fmk F.M (F.R.1 + 1, upd (zer F.R.2 (F.R.1 * 1) ((F.R.1 + 1) * 1)) (F.R.1 * 1 + 0) x) F.B F.h F.p F.br F.lo F.ld F.hr F.po) := by
  obtain ⟨⟨a0, a1, a2, a3, a4, a5, a6, a7, a8, a9⟩, b1, b2, b3⟩ := h
  obtain ⟨i1, i0, i3, ⟨r1, r2⟩, i2⟩ := i
  obtain ⟨d, d1, d2, rfl⟩ := btw (by omega) (by omega) hx
  refine ⟨⟨⟨?_, ?_, ?_, ?_, ?_, ?_, ?_, ?_, ?_, ?_⟩, b1.cg ?_ i3.1, ?_, b3.cg ?_⟩, i1, i0, i3, ⟨?_, ?_⟩, ?_⟩
  case refine_12 =>
    intro u hu
    show upd _ _ _ _ = upd _ _ _ _
    replace hu : u < F.R.1 + 1 := hu
    by_cases hn : u = F.R.1
    · subst hn
      simp (discharger := omega) only [upd_ne, upd_eq]
    · simp (discharger := omega) only [upd_ne, upd_eq, zer_out]
      exact b2 u (by omega)
  case refine_14 =>
    show F.R.1 + 1 ≤ 4
    omega
  case refine_15 =>
    intro u hu
    replace hu : u < F.R.1 + 1 := hu
    show ∃ d, _ ∧ _ ∧ upd _ _ _ _ = _
    by_cases hn : u = F.R.1
    · subst hn
      refine ⟨d, d1, d2, ?_⟩
      simp (discharger := omega) only [upd_ne, upd_eq]
    · simp (discharger := omega) only [upd_ne, upd_eq, zer_out]
      exact r2 u (by omega)
  case refine_16 =>
    obtain ⟨j1, j2, j3⟩ := i2
    refine ⟨j1, fun u hu => ?_, fun r hr => ?_⟩
    · obtain ⟨c, s, w, k, m, c1, c2, s1, w1, k1, m1, f0, f1, f2, f4, f5, f6, f7, f3⟩ := j2 u hu
      exact ⟨c, s, w, k, m, c1, c2, s1, w1, k1, m1, f0, f1, f2, f4, f5, f6, f7, f3.imp_right fun ⟨r, hr, e⟩ => ⟨r, Nat.lt_succ_of_lt hr, e⟩⟩
    · replace hr : r < F.R.1 + 1 := hr
      by_cases hn : r = F.R.1
      · subst hn
        refine Nat.le_trans (Nat.le_of_eq ?_) (Nat.zero_le 3)
        show cnt (fun i => decide (F.B.2 (i * 8 + 3) = nI F.R.1)) F.B.1 = 0
        rw [cnt_cg (q := fun _ => false) fun u hu => ?_]
        · clear j2 j3 b3
          generalize F.B.1 = n
          induction n with
          | zero => rfl
          | succ n ih => rw [cnt_f (by decide)]; exact ih
        · obtain ⟨c, s, w, k, m, c1, c2, s1, w1, k1, m1, f0, f1, f2, f4, f5, f6, f7, f3⟩ := j2 u hu
          refine decide_eq_false fun e => ?_
          rcases f3 with ⟨f3, _⟩ | ⟨r, hr, f3⟩
          · rw [show F.B.2 (u * 8 + 3) = -1 from f3] at e
            have : (-1 : Int32) < 0 := by decide
            rw [e] at this
            exact nI_pos (by omega) this
          · rw [show F.B.2 (u * 8 + 3) = nI r from f3, nI_eq (by omega) (by omega)] at e
            omega
      · exact j3 r (by omega)
  all_goals first | (intros; simp (discharger := omega) only [upd_ne, upd_eq]; done) | (simp (discharger := omega) only [upd_ne, upd_eq]; first | assumption | done)
end LC
