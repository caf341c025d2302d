/-! ===== the history's calls, by what the reference keeps ===== -/
section HR
variable {G : gT} {F E : fT} {H : hT} {r : Int32 × Int32} {X : xT} {ht : Nat → Int32} {P : pT7} {S : sT4} {sd : Value} {er : Int32} {t : xW} {N : nT}
set_option maxRecDepth 20000 in
theorem hi_rem (hg : gOK G) (hC0 : hC H sd t N) (hw : N.iW = nI 0) {g : Nat → Int32} (hF : cpl F g) (iF : fI F) (h11 : 11 ≤ lenL t) : Spec G 4 7 138 m_X2_remember [.ref 15, .ref 1] (ww F E H r X ht P S sd er t) (fun v w' => v = none ∧ ∃ H' t', w' = ww F E H' r X ht P S sd er t' ∧ hC H' sd t' (N.kps g) ∧ tq t t') NX := by
  obtain ⟨c, kf, DF, b, hs⟩ := hC0
  obtain ⟨⟨a0, a1, a2, a3, a4⟩, ⟨b1, b2⟩, _, d1, _⟩ := hs.1
  by_cases z : H.1 < c
  · have dz := d1 H.1 (Or.inl z)
    refine Spec.mono (hi_rem1 hg iF.B (kf H.1) (DF H.1) a0 a1 (b1 H.1 z) dz.2.1) ?_ (fun _ _ h => h)
    rintro _ _ ⟨rfl, rfl⟩
    have hp := hInv_put hs.1 (z := H.1) (Or.inl z) iF (nxt H.1, min 8 (H.2.1 + 1), H.2.2) ⟨by simp only [nxt]; split <;> omega, by show min 8 (H.2.1 + 1) ≤ 8; omega, a2, by simp only [nxt]; split <;> omega, by simp only [nxt]; split <;> omega⟩ rfl (DF H.1)
    exact ⟨rfl, _, _, rfl, ⟨c, kf, _, b, hC_rows hs hw hF iF H.2.2 hp.1⟩, hp.2⟩
  · have hz : H.1 = c := by omega
    refine Spec.mono (hi_rem0 hg iF.B a0 a1 (b2 H.1 (by omega))) ?_ (fun _ _ h => h)
    rintro _ _ ⟨rfl, rfl⟩
    have hp := hInv_new hs.1 hz h11 iF (va_up H.2.2 H.1 (some (lenL t + 31))) (by rw [hz, va_eq]) (fun i hi => by rw [hz, va_ne hi])
    rw [← hz] at hp
    exact ⟨rfl, _, _, rfl, ⟨_, _, _, b, hC_rows hs hw hF iF _ hp.1⟩, hp.2⟩
set_option maxRecDepth 20000 in
theorem hi_back (hg : gOK G) (hC0 : hC H sd t N) (h0 : 0 < H.2.1) : Spec G 3 0 0 m_X2_goBack [.ref 15, .ref 1] (ww F E H r X ht P S sd er t) (fun v w' => v = none ∧ ∃ F' H', w' = ww F' E H' r X ht P S sd er t ∧ H'.2.1 = H.2.1 - 1 ∧ cpl F' (cpo N.g N.kp (114 * (H.2.1 - 1)) 0 114) ∧ fI F' ∧ ∀ N' : nT, N'.ch = nI (H.2.1 - 1) → N'.kp = N.kp → N'.iS = N.iS → N'.sv = N.sv → hC H' sd t N') NX := by
  obtain ⟨c, kf, DF, b, hs, hc, hk, hv⟩ := hC0
  have hs0 := hs
  obtain ⟨⟨a0, a1, a2, a3, a4⟩, ⟨b1, b2⟩, e1, d1, e2⟩ := hs
  have hl : lst H.1 < c := by
    simp only [lst]
    split <;> omega
  have esl : sl H (H.2.1 - 1) = lst H.1 := by
    simp only [lst]
    unfold sl
    split <;> omega
  have dz := d1 (lst H.1) (Or.inl hl)
  have hkl := hk (H.2.1 - 1) (by omega)
  rw [esl] at hkl
  refine Spec.mono (hi_back1 hg (kf (lst H.1)) (DF (lst H.1)) a0 a1 h0 (b1 _ hl) dz.2.1 dz.2.2.B) ?_ (fun _ _ h => h)
  rintro _ _ ⟨rfl, rfl⟩
  refine ⟨rfl, _, _, rfl, rfl, (fcp_cpl hkl).cg (fcp_fI dz.2.2) (fun q hq => ?_), fcp_fI dz.2.2, fun N' n1 n2 n3 n4 => ⟨c, kf, DF, b, ⟨⟨?_, ?_, a2, ?_, ?_⟩, ⟨b1, b2⟩, e1, d1, e2⟩, n1, fun j hj => ?_, ?_⟩⟩
  · rw [cpo_in (by omega)]
    exact congrArg N.kp (by omega)
  · simp only [lst]
    split <;> omega
  · show H.2.1 - 1 ≤ 8
    omega
  · show lst H.1 ≤ c
    omega
  · show H.2.1 - 1 ≤ lst H.1 ∨ c = 8
    simp only [lst]
    split <;> omega
  · replace hj : j < H.2.1 - 1 := hj
    have e : sl (lst H.1, H.2.1 - 1, H.2.2) j = sl H j := by
      show (lst H.1 + 8 - (H.2.1 - 1) + j) % 8 = (H.1 + 8 - H.2.1 + j) % 8
      simp only [lst]
      split <;> omega
    rw [e, n2]
    exact hk j (by omega)
  · rw [n3, n4]
    exact hv
theorem hC_cg {N' : nT} (h : hC H sd t N) (h1 : N'.ch = N.ch) (h2 : N'.kp = N.kp) (h3 : N'.iS = N.iS) (h4 : N'.sv = N.sv) : hC H sd t N' := by
  obtain ⟨c, kf, DF, b, hs, hc, hk, hv⟩ := h
  exact ⟨c, kf, DF, b, hs, h1.trans hc, by rw [h2]; exact hk, by rw [h3, h4]; exact hv⟩
theorem hC_0 {N' : nT} (h : hC H sd t N) (h1 : N'.ch = nI 0) (h3 : N'.iS = N.iS) (h4 : N'.sv = N.sv) : hC (H.1, 0, H.2.2) sd t N' := by
  obtain ⟨c, kf, DF, b, hs, hc, hk, hv⟩ := h
  obtain ⟨⟨a0, a1, a2, a3, a4⟩, hr⟩ := hs
  exact ⟨c, kf, DF, b, ⟨⟨a0, Nat.zero_le 8, a2, a3, Or.inl (Nat.zero_le _)⟩, hr⟩, h1, fun j hj => absurd hj (Nat.not_lt_zero j), by rw [h3, h4]; exact hv⟩
/-- the snapshot: none, or a foundry that stands for the reference's -/
theorem hC_sd (h : hC H sd t N) : (sd = .null ∧ N.iS = nI 0) ∨ ∃ k D, sd = .ref (k + 31) ∧ N.iS = nI 1 ∧ 11 ≤ k ∧ hblk t k D ∧ fI D ∧ cpl D N.sv := by
  obtain ⟨c, kf, DF, b, hs, hc, hk, hv⟩ := h
  obtain ⟨a, b1, ⟨c1, c2⟩, d1, _⟩ := hs
  rcases hv with ⟨rfl, h1⟩ | ⟨rfl, h1, h2⟩
  · exact Or.inl ⟨c1 rfl, h1⟩
  · have d := d1 8 (Or.inr ⟨rfl, rfl⟩)
    exact Or.inr ⟨kf 8, DF 8, c2 rfl, h1, d.1, d.2.1, d.2.2, h2⟩
theorem hC_save0 {N' : nT} (h : hC H .null t N) (h0 : N.iS = nI 0) (iF : fI F) (h11 : 11 ≤ lenL t) (h1 : N'.ch = N.ch) (h2 : N'.kp = N.kp) (h3 : N'.iS = nI 1) (h4 : cpl F N'.sv) : hC H (.ref (lenL t + 31)) (hput (hnew t f00) (lenL t) (fcp f00 F)) N' ∧ tq t (hput (hnew t f00) (lenL t) (fcp f00 F)) := by
  obtain ⟨c, kf, DF, b, hs, hc, hk, hv⟩ := h
  have e : b = false := by
    rcases hv with ⟨z, _⟩ | ⟨_, z, _⟩
    · exact z
    · rw [z, nI_eq (by omega) (by omega)] at h0
      omega
  subst e
  have hp := hInv_save hs h11 iF
  have h8 := hs.1.2.2.1
  refine ⟨⟨c, _, _, true, hp.1, h1.trans hc, fun j hj => ?_, Or.inr ⟨rfl, h3, ?_⟩⟩, hp.2⟩
  · have := sl_lt hs hj
    rw [h2, va_ne (by omega)]
    exact hk j hj
  · rw [va_eq]
    exact fcp_cpl h4
theorem hC_save1 {N' : nT} {k : Nat} {D : fT} (h : hC H (.ref (k + 31)) t N) (hD : hblk t k D) (iF : fI F) (h1 : N'.ch = N.ch) (h2 : N'.kp = N.kp) (h3 : N'.iS = nI 1) (h4 : cpl F N'.sv) : hC H (.ref (k + 31)) (hput t k (fcp D F)) N' ∧ tq t (hput t k (fcp D F)) := by
  obtain ⟨c, kf, DF, b, hs, hc, hk, hv⟩ := h
  have e : b = true := by
    cases b with
    | true => rfl
    | false => exact absurd (hs.2.2.1.1 rfl) (by intro z; cases z)
  subst e
  have ek : kf 8 = k := by
    have q : k + 31 = kf 8 + 31 := Value.ref.inj (hs.2.2.1.2 rfl)
    omega
  subst ek
  have hp := hInv_put hs (z := 8) (Or.inr ⟨rfl, rfl⟩) iF H hs.1 rfl D
  have h8 := hs.1.2.2.1
  refine ⟨⟨c, kf, _, true, hp.1, h1.trans hc, fun j hj => ?_, Or.inr ⟨rfl, h3, ?_⟩⟩, hp.2⟩
  · have := sl_lt hs hj
    rw [h2, va_ne (by omega)]
    exact hk j hj
  · rw [va_eq]
    exact fcp_cpl h4
end HR
