/-! ===== the class's foundry and the reference's row ===== -/
def cplW (F : fT) (g : Nat → Int32) : Prop :=
  g 0 = F.h ∧ g 1 = F.p ∧ g 2 = nI F.M.1 ∧ g 3 = nI F.R.1 ∧ g 4 = nI F.B.1 ∧ g 5 = F.br ∧ g 6 = F.lo ∧ g 7 = F.ld ∧ g 8 = F.hr ∧ g 9 = F.po
def cplM (M : tT) (g : Nat → Int32) : Prop := ∀ i j, i < M.1 → j < 2 → g (10 + 2 * i + j) = M.2 (i * 2 + j)
def cplR (R : tT) (g : Nat → Int32) : Prop := ∀ i, i < R.1 → g (26 + i) = R.2 (i * 1 + 0)
def cplB (B : tT) (g : Nat → Int32) : Prop := ∀ i j, i < B.1 → j < 7 → g (30 + 7 * i + j) = B.2 (i * 8 + j)
def cpl (F : fT) (g : Nat → Int32) : Prop := cplW F g ∧ cplM F.M g ∧ cplR F.R g ∧ cplB F.B g
/-- a bell's numbers -/
def bOK (R : Nat) (f : Nat → Int32) : Prop := ∃ c s w k m, 10 ≤ c ∧ c ≤ 60 ∧ s ≤ 4 ∧ w ≤ 120 ∧ k ≤ 9 ∧ m ≤ 6 ∧ f 0 = nI c ∧ f 1 = nI s ∧ f 2 = nI (5 * c + 10) ∧ f 4 = nI w ∧ f 5 = nI k ∧ f 6 = nI m ∧ f 7 = nI (100 + m - c - k) ∧ ((f 3 = -1 ∧ w = 0) ∨ ∃ r, r < R ∧ f 3 = nI r)
def inM (M : tT) : Prop := M.1 ≤ 8 ∧ ∀ i, i < M.1 → ∃ c s, 10 ≤ c ∧ c ≤ 60 ∧ s ≤ 4 ∧ M.2 (i * 2 + 0) = nI c ∧ M.2 (i * 2 + 1) = nI s
def inR (R : tT) : Prop := R.1 ≤ 4 ∧ ∀ i, i < R.1 → ∃ d, 1 ≤ d ∧ d ≤ 9 ∧ R.2 (i * 1 + 0) = nI d
def onB (B : tT) (x : Int32) : Nat := cnt (fun i => decide (B.2 (i * 8 + 3) = x)) B.1
def inB (R : Nat) (B : tT) : Prop := B.1 ≤ 12 ∧ (∀ i, i < B.1 → bOK R (fun j => B.2 (i * 8 + j))) ∧ ∀ r, r < R → onB B (nI r) ≤ 3
def inH (h : Int32) : Prop := ∃ k, 20 ≤ k ∧ k ≤ 1400 ∧ h = nI k
def inP (p : Int32) : Prop := ∃ k, k ≤ 2000 ∧ p = nI k
def fI (F : fT) : Prop := inH F.h ∧ inP F.p ∧ inM F.M ∧ inR F.R ∧ inB F.R.1 F.B
theorem fI.B {F : fT} (h : fI F) : fB F := ⟨h.2.2.1.1, h.2.2.2.1.1, h.2.2.2.2.1⟩
theorem fI.K {F : fT} (h : fI F) : fK F := fun i hi => by
  obtain ⟨c, s, w, k, m, _, _, _, _, _, _, _, _, _, _, _, _, _, h3⟩ := h.2.2.2.2.2.1 i hi
  exact h3.imp (fun q => q.1) (fun q => q)
/-- a number between two -/
theorem btw {x : Int32} {a b : Nat} (hb : b < 2 ^ 30) (ha : a < 2 ^ 30) (h : nI a ≤ x ∧ x ≤ nI b) : ∃ k, a ≤ k ∧ k ≤ b ∧ x = nI k := by
  have h0 : ¬ x < 0 := by
    rw [Int32.not_lt]
    have z : (0 : Int32) ≤ nI a := by
      rw [← nI_0, nI_leI (by omega) (by omega)]
      omega
    exact Int32.le_trans z h.1
  obtain ⟨k, hk, rfl⟩ := nI_of h0
  exact ⟨k, (nI_leI (by omega) hk).mp h.1, (nI_leI hk (by omega)).mp h.2, rfl⟩
theorem btw' {a b k : Nat} (hb : b < 2 ^ 30) (h1 : a ≤ k) (h2 : k ≤ b) : nI a ≤ nI k ∧ nI k ≤ nI b :=
  ⟨(nI_leI (by omega) (by omega)).mpr h1, (nI_leI (by omega) (by omega)).mpr h2⟩
theorem cplM.cg {M : tT} {g g' : Nat → Int32} (h : cplM M g) (e : ∀ q, 10 ≤ q → q < 26 → g' q = g q) (hM : M.1 ≤ 8) : cplM M g' := fun i j hi hj => by
  rw [e _ (by omega) (by omega)]
  exact h i j hi hj
theorem cplR.cg {R : tT} {g g' : Nat → Int32} (h : cplR R g) (e : ∀ q, 26 ≤ q → q < 30 → g' q = g q) (hR : R.1 ≤ 4) : cplR R g' := fun i hi => by
  rw [e _ (by omega) (by omega)]
  exact h i hi
theorem cplB.cg {B : tT} {g g' : Nat → Int32} (h : cplB B g) (e : ∀ q, 30 ≤ q → g' q = g q) : cplB B g' := fun i j hi hj => by
  rw [e _ (by omega)]
  exact h i j hi hj
section LC
variable {F : fT} {g : Nat → Int32}
theorem lc_coal (h : cpl F g) (i : fI F) {x : Int32} (hx : nI 1 ≤ x ∧ x ≤ nI 20) :
    cpl (fmk F.M F.R F.B (if F.h + nI 30 * x < nI 1400 then F.h + nI 30 * x else nI 1400) F.p F.br F.lo (F.ld + x) F.hr F.po) (upd (upd g 0 (mni (nI 1400) (g 0 + nI 30 * x))) 7 (g 7 + x)) ∧
    fI (fmk F.M F.R F.B (if F.h + nI 30 * x < nI 1400 then F.h + nI 30 * x else nI 1400) F.p F.br F.lo (F.ld + x) F.hr F.po) := by
  obtain ⟨⟨a0, a1, a2, a3, a4, a5, a6, a7, a8, a9⟩, b1, b2, b3⟩ := h
  obtain ⟨⟨k, k1, k2, k3⟩, i2⟩ := i
  obtain ⟨t, t1, t2, rfl⟩ := btw (by omega) (by omega) hx
  have e : (if F.h + nI 30 * nI t < nI 1400 then F.h + nI 30 * nI t else nI 1400) = nI (min 1400 (k + 30 * t)) := by
    rw [k3, pk_mul, nI_add]
    split
    · rename_i q
      rw [nI_ltI (by omega) (by omega)] at q
      rw [Nat.min_eq_right (by omega)]
    · rename_i q
      rw [nI_ltI (by omega) (by omega)] at q
      rw [Nat.min_eq_left (by omega)]
  have e2 : mni (nI 1400) (g 0 + nI 30 * nI t) = nI (min 1400 (k + 30 * t)) := by
    rw [a0]; exact e
  rw [e, e2]
  refine ⟨⟨⟨?_, ?_, ?_, ?_, ?_, ?_, ?_, ?_, ?_, ?_⟩, b1.cg ?_ i2.2.1.1, b2.cg ?_ i2.2.2.1.1, b3.cg ?_⟩, ⟨_, ?_, ?_, rfl⟩, i2⟩
  all_goals first | omega | (intros; simp (discharger := omega) only [upd_ne, upd_eq]; done) | (simp (discharger := omega) only [upd_ne, upd_eq]; first | assumption | rfl | (rw [a7]; done))
theorem lc_bronze (h : cpl F g) (i : fI F) {x : Int32} (hx : nI 1 ≤ x ∧ x ≤ nI 500) (hp : F.p + x ≤ nI 2000) :
    cpl (fmk F.M F.R F.B F.h (F.p + x) (F.br + x) F.lo F.ld F.hr F.po) (upd (upd g 1 (g 1 + x)) 5 (g 5 + x)) ∧ fI (fmk F.M F.R F.B F.h (F.p + x) (F.br + x) F.lo F.ld F.hr F.po) := by
  obtain ⟨⟨a0, a1, a2, a3, a4, a5, a6, a7, a8, a9⟩, b1, b2, b3⟩ := h
  obtain ⟨i1, ⟨k, k2, k3⟩, i2⟩ := i
  obtain ⟨t, t1, t2, rfl⟩ := btw (by omega) (by omega) hx
  refine ⟨⟨⟨?_, ?_, ?_, ?_, ?_, ?_, ?_, ?_, ?_, ?_⟩, b1.cg ?_ i2.1.1, b2.cg ?_ i2.2.1.1, b3.cg ?_⟩, i1, ⟨k + t, ?_, ?_⟩, i2⟩
  case refine_14 =>
    rw [k3, nI_add, nI_leI (by omega) (by omega)] at hp
    exact hp
  case refine_15 =>
    show F.p + nI t = _
    rw [k3, nI_add]
  all_goals first | (intros; simp (discharger := omega) only [upd_ne, upd_eq]; done) | (simp (discharger := omega) only [upd_ne, upd_eq]; first | assumption | (rw [a1]; done) | (rw [a5]; done))
theorem lc_mould (h : cpl F g) (i : fI F) {x y : Int32} (hx : nI 10 ≤ x ∧ x ≤ nI 60) (hy : nI 0 ≤ y ∧ y ≤ nI 4) (hn : F.M.1 < 8) :
    cpl (fmk (F.M.1 + 1, upd (upd (zer F.M.2 (F.M.1 * 2) ((F.M.1 + 1) * 2)) (F.M.1 * 2 + 0) x) (F.M.1 * 2 + 1) y) F.R F.B F.h F.p F.br F.lo F.ld F.hr F.po) (upd (upd (upd g (10 + 2 * F.M.1) x) (10 + 2 * F.M.1 + 1) y) 2 (nI (F.M.1 + 1))) ∧
    fI (fmk (F.M.1 + 1, upd (upd (zer F.M.2 (F.M.1 * 2) ((F.M.1 + 1) * 2)) (F.M.1 * 2 + 0) x) (F.M.1 * 2 + 1) y) F.R F.B F.h F.p F.br F.lo F.ld F.hr F.po) := by
  obtain ⟨⟨a0, a1, a2, a3, a4, a5, a6, a7, a8, a9⟩, b1, b2, b3⟩ := h
  obtain ⟨i1, i0, ⟨m1, m2⟩, i2⟩ := i
  obtain ⟨c, c1, c2, rfl⟩ := btw (by omega) (by omega) hx
  obtain ⟨s, s1, s2, rfl⟩ := btw (by omega) (by omega) hy
  refine ⟨⟨⟨?_, ?_, ?_, ?_, ?_, ?_, ?_, ?_, ?_, ?_⟩, ?_, b2.cg ?_ i2.1.1, b3.cg ?_⟩, i1, i0, ⟨?_, ?_⟩, i2⟩
  case refine_11 =>
    intro u v hu hv
    show upd _ _ _ _ = upd _ _ _ _
    replace hu : u < F.M.1 + 1 := hu
    by_cases hn : u = F.M.1
    · subst hn
      rcases (show v = 0 ∨ v = 1 by omega) with rfl | rfl
      · simp (discharger := omega) only [upd_ne, upd_eq, Nat.add_zero]
      · simp (discharger := omega) only [upd_ne, upd_eq]
    · simp (discharger := omega) only [upd_ne, upd_eq, zer_out]
      exact b1 u v (by omega) hv
  case refine_14 =>
    show F.M.1 + 1 ≤ 8
    omega
  case refine_15 =>
    intro u hu
    replace hu : u < F.M.1 + 1 := hu
    show ∃ c s, _ ∧ _ ∧ _ ∧ upd _ _ _ _ = _ ∧ upd _ _ _ _ = _
    by_cases hn : u = F.M.1
    · subst hn
      refine ⟨c, s, c1, c2, s2, ?_, ?_⟩ <;> simp (discharger := omega) only [upd_ne, upd_eq]
    · simp (discharger := omega) only [upd_ne, upd_eq, zer_out]
      exact m2 u (by omega)
  all_goals first | (intros; simp (discharger := omega) only [upd_ne, upd_eq]; done) | (simp (discharger := omega) only [upd_ne, upd_eq]; first | assumption | done)
end LC
