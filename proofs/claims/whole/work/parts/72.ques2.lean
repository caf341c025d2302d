/-! ===== sums, ways of pouring, peals: on both sides ===== -/
theorem isum_cg {p q : Nat → Int32} : ∀ {n : Nat}, (∀ i, i < n → p i = q i) → isum p n = isum q n
  | 0, _ => rfl
  | n + 1, h => by
    show isum p n + p n = isum q n + q n
    rw [isum_cg (n := n) fun i hi => h i (by omega), h n (by omega)]
theorem bsum_cg {p q : Nat → Int32} : ∀ {n : Nat}, (∀ i, i < n → p i = q i) → bsum p n = bsum q n
  | 0, _ => rfl
  | n + 1, h => by
    show bsum p n + p n = bsum q n + q n
    rw [bsum_cg (n := n) fun i hi => h i (by omega), h n (by omega)]
section QQ
variable {F : fT} {g : Nat → Int32}
theorem isum_F (h : cpl F g) {j : Nat} (hj : j < 7) : isum (fun i => g (30 + 7 * i + j)) F.B.1 = isum (fun i => F.b i j) F.B.1 := isum_cg fun u hu => b_of h hu hj
theorem bsum_F (h : cpl F g) : bsum (gnote g) F.B.1 = bsum F.note F.B.1 := bsum_cg fun u hu => gnote_F h hu
theorem ghal_F (h : cpl F g) (i : fI F) : cnt (ghal g) F.B.1 = F.on (-1) := cnt_cg fun u hu => by
  unfold ghal
  show decide _ = decide _
  exact decide_eq_decide.mpr (hall_F h i hu)
theorem gsnd1_F (h : cpl F g) (i : fI F) : cnt (gsnd g 1) F.B.1 = cnt (sndP F) F.B.1 := cnt_cg fun u hu => by
  unfold gsnd sndP
  refine decide_eq_decide.mpr ?_
  rw [b_of h hu (by omega), hall_F h i hu]
  constructor
  · rintro ⟨a, b | b⟩
    · omega
    · exact ⟨b, a⟩
  · rintro ⟨a, b⟩
    exact ⟨b, Or.inr a⟩
theorem gsnd0_F (h : cpl F g) : cnt (gsnd g 0) F.B.1 = cnt (fun i => decide (F.B.2 (i * 8 + 5) = nI 0)) F.B.1 := cnt_cg fun u hu => by
  unfold gsnd
  refine decide_eq_decide.mpr ?_
  rw [b_of h hu (by omega)]
  exact ⟨fun q => q.1, fun q => ⟨q, Or.inl rfl⟩⟩
/-- the moulds in numbers -/
def dF (F : fT) : pT := (fun k => if k < F.M.1 then (F.m k 0).toNatClampNeg else 10, F.M.1, F.h.toNatClampNeg, F.p.toNatClampNeg)
theorem dF_ok (i : fI F) : (dF F).2.1 ≤ 8 ∧ (dF F).2.2.1 ≤ 1400 ∧ 20 ≤ (dF F).2.2.1 ∧ (dF F).2.2.2 ≤ 2000 ∧ (∀ k, 10 ≤ (dF F).1 k ∧ (dF F).1 k ≤ 60) ∧ (∀ k, k < F.M.1 → F.m k 0 = nI ((dF F).1 k)) ∧ nI (dF F).2.2.1 = F.h ∧ nI (dF F).2.2.2 = F.p := by
  obtain ⟨⟨h, h1, h2, h3⟩, ⟨p, p1, p2⟩, ⟨m1, m2⟩, _⟩ := i
  have eh : (dF F).2.2.1 = h := by
    show F.h.toNatClampNeg = h
    rw [h3, nI_clamp (by omega)]
  have ep : (dF F).2.2.2 = p := by
    show F.p.toNatClampNeg = p
    rw [p2, nI_clamp (by omega)]
  have em : ∀ k, k < F.M.1 → ∃ c, 10 ≤ c ∧ c ≤ 60 ∧ F.m k 0 = nI c ∧ (dF F).1 k = c := fun k hk => by
    obtain ⟨c, s, c1, c2, s1, ec, es⟩ := m2 k hk
    refine ⟨c, c1, c2, ec, ?_⟩
    show (if k < F.M.1 then (F.m k 0).toNatClampNeg else 10) = c
    rw [if_pos hk, show F.m k 0 = nI c from ec, nI_clamp (by omega)]
  refine ⟨m1, by omega, by omega, by omega, fun k => ?_, fun k hk => ?_, by rw [eh, h3], by rw [ep, p2]⟩
  · by_cases q : k < F.M.1
    · obtain ⟨c, c1, c2, _, e⟩ := em k q
      rw [e]
      exact ⟨c1, c2⟩
    · show 10 ≤ (if k < F.M.1 then (F.m k 0).toNatClampNeg else 10) ∧ _
      rw [if_neg q]
      refine ⟨by omega, ?_⟩
      show (if k < F.M.1 then (F.m k 0).toNatClampNeg else 10) ≤ 60
      rw [if_neg q]
      omega
  · obtain ⟨c, c1, c2, ec, e⟩ := em k hk
    rw [e]
    exact ec
theorem gD_F (h : cpl F g) (i : fI F) : gD (dF F) g := by
  obtain ⟨d1, d2, d3, d4, d5, d6, d7, d8⟩ := dF_ok i
  obtain ⟨⟨a0, a1, a2, a3, a4, a5, a6, a7, a8, a9⟩, b1, b2, b3⟩ := h
  exact ⟨d1, d2, d3, d4, d5, fun k hk => (b1 k 0 hk (by omega)).trans (d6 k hk), a0.trans d7.symm, a1.trans d8.symm, a2⟩
theorem pOK_F (i : fI F) {co : Nat → Int32} (hc : ∀ k, k < F.M.1 → co k = F.m k 0) : pOK (dF F) co := by
  obtain ⟨d1, d2, d3, d4, d5, d6, d7, d8⟩ := dF_ok i
  exact ⟨d1, d2, d3, d4, d5, fun k hk => (hc k hk).trans (d6 k hk)⟩
theorem isBst_cg {p q : Nat → Nat → Prop} {k b : Nat} (h : isBst p k b) (e : ∀ x, x ≤ k → ∀ s, p x s ↔ q x s) : isBst q k b := by
  obtain ⟨h1, m, h2, h3⟩ := h
  exact ⟨h1, m, (e b h1 m).mp h2, fun x hx s hs => h3 x hx s ((e x hx s).mpr hs)⟩
theorem isBst_u {p : Nat → Nat → Prop} {k a b : Nat} (h1 : isBst p k a) (h2 : isBst p k b) : a = b := by
  obtain ⟨a1, m, a2, a3⟩ := h1
  obtain ⟨b1, n, b2, b3⟩ := h2
  have q1 := a3 b b1 n b2
  have q2 := b3 a a1 m a2
  have e : m = n := by omega
  have := q1.2 e.symm
  have := q2.2 e
  omega
theorem long_F (h : cpl F g) (i : fI F) {t : Nat → Int32} (ht : tld F t F.B.1) {b : Nat} (hb : isBst (fun x s => isLd (fun j => tolds t (nI x + stepsF j)) s) 100 b) : isBst (fun x s => isLd (fun j => ghrd g F.B.1 (nI x + stepsF j)) s) 100 b :=
  isBst_cg hb fun x hx s => ⟨fun q => isLd_cg q fun j hj => (told_F ht hx hj).trans (hrd_F h i _), fun q => isLd_cg q fun j hj => ((told_F ht hx hj).trans (hrd_F h i _)).symm⟩
theorem facc_F {N : nT} (h : cpl F N.g) (i : fI F) {j : Nat} (hj : j < 14) : facc F j = gacc N F.B.1 j := by
  obtain ⟨a0, a1, a2, a3, a4, a5, a6, a7, a8, a9⟩ := h.1
  rcases (show j = 0 ∨ j = 1 ∨ j = 2 ∨ j = 3 ∨ j = 4 ∨ j = 5 ∨ j = 6 ∨ j = 7 ∨ j = 8 ∨ j = 9 ∨ j = 10 ∨ j = 11 ∨ j = 12 ∨ j = 13 by omega) with rfl | rfl | rfl | rfl | rfl | rfl | rfl | rfl | rfl | rfl | rfl | rfl | rfl | rfl
  · exact a0.symm
  · exact a1.symm
  · exact a2.symm
  · exact a3.symm
  · exact a4.symm
  · exact congrArg nI (ghal_F h i).symm
  · exact (isum_F h (by omega)).symm
  · exact a5.symm
  · exact a6.symm
  · exact a7.symm
  · exact a8.symm
  · exact (isum_F h (by omega)).symm
  · exact a9.symm
  · exact congrArg nI (gsnd1_F h i).symm
end QQ
