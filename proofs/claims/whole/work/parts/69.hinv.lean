/-! ===== the history and the snapshot, on both sides ===== -/
theorem cpf_lo {f f2 : Nat → Int32} {b q : Nat} (h : q < b) : cpf f f2 b q = f2 q := if_pos h
theorem fcp_cpl {D F : fT} {g : Nat → Int32} (h : cpl F g) : cpl (fcp D F) g := by
  obtain ⟨a, b1, b2, b3⟩ := h
  refine ⟨a, fun i j hi hj => ?_, fun i hi => ?_, fun i j hi hj => ?_⟩
  · replace hi : i < F.M.1 := hi
    show _ = cpf _ _ _ _
    rw [cpf_lo (by omega)]
    exact b1 i j hi hj
  · replace hi : i < F.R.1 := hi
    show _ = cpf _ _ _ _
    rw [cpf_lo (by omega)]
    exact b2 i hi
  · replace hi : i < F.B.1 := hi
    show _ = cpf _ _ _ _
    rw [cpf_lo (by omega)]
    exact b3 i j hi hj
theorem fcp_fI {D F : fT} (h : fI F) : fI (fcp D F) := by
  obtain ⟨i1, i2, ⟨m1, m2⟩, ⟨r1, r2⟩, ⟨b1, b2, b3⟩⟩ := h
  refine ⟨i1, i2, ⟨m1, fun i hi => ?_⟩, ⟨r1, fun i hi => ?_⟩, ⟨b1, fun i hi => ?_, fun r hr => ?_⟩⟩
  · replace hi : i < F.M.1 := hi
    show ∃ c s, _ ∧ _ ∧ _ ∧ cpf _ _ _ _ = _ ∧ cpf _ _ _ _ = _
    rw [cpf_lo (by omega), cpf_lo (by omega)]
    exact m2 i hi
  · replace hi : i < F.R.1 := hi
    show ∃ d, _ ∧ _ ∧ cpf _ _ _ _ = _
    rw [cpf_lo (by omega)]
    exact r2 i hi
  · replace hi : i < F.B.1 := hi
    exact (b2 i hi).cg fun j hj => cpf_lo (by omega)
  · refine Nat.le_trans (Nat.le_of_eq (cnt_cg fun u hu => ?_)) (b3 r hr)
    replace hu : u < F.B.1 := hu
    show decide (cpf _ _ _ _ = _) = decide _
    rw [cpf_lo (by omega)]
theorem cpl.cg {F : fT} {g g' : Nat → Int32} (h : cpl F g) (i : fI F) (e : ∀ q, q < 114 → g' q = g q) : cpl F g' := by
  obtain ⟨⟨a0, a1, a2, a3, a4, a5, a6, a7, a8, a9⟩, b1, b2, b3⟩ := h
  have h1 := i.2.2.1.1
  have h2 := i.2.2.2.1.1
  have h3 := i.2.2.2.2.1
  refine ⟨⟨?_, ?_, ?_, ?_, ?_, ?_, ?_, ?_, ?_, ?_⟩, b1.cg (fun q q1 q2 => e q (by omega)) h1, b2.cg (fun q q1 q2 => e q (by omega)) h2, fun u j hu hj => ?_⟩
  case refine_11 =>
    rw [e _ (by omega)]
    exact b3 u j hu hj
  all_goals (rw [e _ (by omega)]; assumption)
def act (c : Nat) (b : Bool) (i : Nat) : Prop := i < c ∨ (i = 8 ∧ b = true)
def hInv (H : hT) (sd : Value) (t : xW) (c : Nat) (kf : Nat → Nat) (DF : Nat → fT) (b : Bool) : Prop :=
  (H.1 < 8 ∧ H.2.1 ≤ 8 ∧ c ≤ 8 ∧ H.1 ≤ c ∧ (H.2.1 ≤ H.1 ∨ c = 8)) ∧
  ((∀ i, i < c → H.2.2 i = some (kf i + 31)) ∧ ∀ i, c ≤ i → H.2.2 i = none) ∧
  ((b = false → sd = .null) ∧ (b = true → sd = .ref (kf 8 + 31))) ∧
  (∀ i, act c b i → 11 ≤ kf i ∧ hblk t (kf i) (DF i) ∧ fI (DF i)) ∧
  ∀ i j, act c b i → act c b j → i ≠ j → kf i + 7 ≤ kf j ∨ kf j + 7 ≤ kf i
/-- what is no foundry of the history stays -/
def tq (t t' : xW) : Prop := ∀ j e, nth t j = some e → (j < 11 ∨ ∃ f, e = .inl (3, 34, .inl f)) → nth t' j = some e
theorem tq.rf {t : xW} : tq t t := fun _ _ h _ => h
theorem tq.tr {a b c : xW} (h : tq a b) (h2 : tq b c) : tq a c := fun j e q n => h2 j e (h j e q n) n
theorem tq_put {t : xW} {k : Nat} {C D : fT} (hk : 11 ≤ k) (h : hblk t k C) : tq t (hput t k D) := fun j e q n => by
  rcases (show (j < k ∨ k + 7 ≤ j) ∨ j = k ∨ j = k + 1 ∨ j = k + 2 ∨ j = k + 3 ∨ j = k + 4 ∨ j = k + 5 ∨ j = k + 6 by omega) with z | z
  · rw [nth_put z]; exact q
  · exfalso
    rcases n with n | ⟨f, rfl⟩
    · omega
    · obtain ⟨h0, h1, h2, h3, h4, h5, h6⟩ := h
      rcases z with rfl | rfl | rfl | rfl | rfl | rfl | rfl
      · rw [h0] at q; cases q
      · rw [h1] at q; cases q
      · rw [h2] at q; cases q
      · rw [h3] at q; cases q
      · rw [h4] at q; cases q
      · rw [h5] at q; cases q
      · rw [h6] at q; cases q
theorem tq_new {t : xW} {D : fT} : tq t (hnew t D) := fun _ _ q _ => nth_app q
theorem sbS_tq {S : sT4} {t t' : xW} {n : Nat} {f : Nat → Int32} (h : sbS S t n f) (q : tq t t') : sbS S t' n f := by
  obtain ⟨h1, h2, h3, h4⟩ := h
  refine ⟨h1, h2, h3, h4.imp_right fun ⟨k, k1, k2, k3⟩ => ⟨k, k1, q _ _ k2 (Or.inr ⟨f, rfl⟩), k3⟩⟩
section HI
variable {H : hT} {sd : Value} {t : xW} {c : Nat} {kf : Nat → Nat} {DF : Nat → fT} {b : Bool} {F : fT}
theorem hInv_put (h : hInv H sd t c kf DF b) {z : Nat} (hz : act c b z) (iF : fI F) (H' : hT) (h1 : H'.1 < 8 ∧ H'.2.1 ≤ 8 ∧ c ≤ 8 ∧ H'.1 ≤ c ∧ (H'.2.1 ≤ H'.1 ∨ c = 8)) (h2 : H'.2.2 = H.2.2) (D : fT) :
    hInv H' sd (hput t (kf z) (fcp D F)) c kf (va_up DF z (fcp D F)) b ∧ tq t (hput t (kf z) (fcp D F)) := by
  obtain ⟨a1, a2, a3, a4, a5⟩ := h
  refine ⟨⟨h1, by rw [h2]; exact a2, a3, fun i hi => ⟨(a4 i hi).1, ?_⟩, a5⟩, tq_put (a4 z hz).1 (a4 z hz).2.1⟩
  by_cases q : i = z
  · subst q
    rw [va_eq]
    exact ⟨hblk_put (a4 i hi).2.1, fcp_fI iF⟩
  · rw [va_ne q]
    exact ⟨hblk_o (a4 i hi).2.1 (a5 i z hi hz q), (a4 i hi).2.2⟩
theorem hInv_lt (h : hInv H sd t c kf DF b) {i : Nat} (hi : act c b i) : kf i + 7 ≤ lenL t := hblk_len (h.2.2.2.1 i hi).2.1
/-- a new block for the slot H.1, that had none -/
theorem hInv_new (h : hInv H sd t c kf DF b) (hc : H.1 = c) (h11 : 11 ≤ lenL t) (iF : fI F) (q' : Nat → Option Nat) (h1 : q' c = some (lenL t + 31)) (h2 : ∀ i, i ≠ c → q' i = H.2.2 i) :
    hInv (nxt H.1, min 8 (H.2.1 + 1), q') sd (hput (hnew t f00) (lenL t) (fcp f00 F)) (c + 1) (va_up kf c (lenL t)) (va_up DF c (fcp f00 F)) b ∧ tq t (hput (hnew t f00) (lenL t) (fcp f00 F)) := by
  have hl := @hInv_lt _ _ _ _ _ _ _ h
  obtain ⟨⟨a0, a1, a2, a3, a4⟩, ⟨b1, b2⟩, ⟨c1, c2⟩, d1, e1⟩ := h
  have ac : ∀ i, act (c + 1) b i → i ≠ c → act c b i := fun i hi hn => hi.imp_left fun z => by omega
  refine ⟨⟨⟨?_, ?_, by omega, ?_, ?_⟩, ⟨fun i hi => ?_, fun i hi => ?_⟩, ⟨c1, fun hb => ?_⟩, fun i hi => ?_, fun i j hi hj hn => ?_⟩, tq.tr tq_new (tq_put h11 hblk_new)⟩
  · show nxt H.1 < 8
    unfold nxt
    split <;> omega
  · show min 8 (H.2.1 + 1) ≤ 8
    omega
  · show nxt H.1 ≤ c + 1
    unfold nxt
    split <;> omega
  · show min 8 (H.2.1 + 1) ≤ nxt H.1 ∨ c + 1 = 8
    unfold nxt
    split <;> omega
  · by_cases q : i = c
    · subst q; rw [va_eq]; exact h1
    · rw [va_ne q]
      exact (h2 i q).trans (b1 i (by omega))
  · exact (h2 i (by omega)).trans (b2 i (by omega))
  · rw [va_ne (by omega)]
    exact c2 hb
  · by_cases q : i = c
    · rw [q, va_eq, va_eq]
      exact ⟨h11, hblk_put hblk_new, fcp_fI iF⟩
    · rw [va_ne q, va_ne q]
      have hi := ac i hi q
      have := hl hi
      exact ⟨(d1 i hi).1, hblk_o (hblk_n (d1 i hi).2.1) (by omega), (d1 i hi).2.2⟩
  · by_cases q : i = c
    · rw [q, va_eq, va_ne (by omega)]
      have := hl (ac j hj (by omega))
      omega
    · rw [va_ne q]
      have := hl (ac i hi q)
      by_cases q2 : j = c
      · rw [q2, va_eq]; omega
      · rw [va_ne q2]
        exact e1 i j (ac i hi q) (ac j hj q2) hn
/-- a first snapshot -/
theorem hInv_save (h : hInv H sd t c kf DF false) (h11 : 11 ≤ lenL t) (iF : fI F) :
    hInv H (.ref (lenL t + 31)) (hput (hnew t f00) (lenL t) (fcp f00 F)) c (va_up kf 8 (lenL t)) (va_up DF 8 (fcp f00 F)) true ∧ tq t (hput (hnew t f00) (lenL t) (fcp f00 F)) := by
  have hl := @hInv_lt _ _ _ _ _ _ _ h
  obtain ⟨⟨a0, a1, a2, a3, a4⟩, ⟨b1, b2⟩, ⟨c1, c2⟩, d1, e1⟩ := h
  have ac : ∀ i, act c true i → i ≠ 8 → act c false i := fun i hi hn => hi.elim Or.inl fun z => absurd z.1 hn
  refine ⟨⟨⟨a0, a1, a2, a3, a4⟩, ⟨fun i hi => ?_, b2⟩, ⟨fun z => (by cases z), fun _ => by rw [va_eq]⟩, fun i hi => ?_, fun i j hi hj hn => ?_⟩, tq.tr tq_new (tq_put h11 hblk_new)⟩
  · rw [va_ne (by omega)]
    exact b1 i hi
  · by_cases q : i = 8
    · rw [q, va_eq, va_eq]
      exact ⟨h11, hblk_put hblk_new, fcp_fI iF⟩
    · rw [va_ne q, va_ne q]
      have hi := ac i hi q
      have := hl hi
      exact ⟨(d1 i hi).1, hblk_o (hblk_n (d1 i hi).2.1) (by omega), (d1 i hi).2.2⟩
  · by_cases q : i = 8
    · rw [q, va_eq, va_ne (by omega)]
      have := hl (ac j hj (by omega))
      omega
    · rw [va_ne q]
      have := hl (ac i hi q)
      by_cases q2 : j = 8
      · rw [q2, va_eq]; omega
      · rw [va_ne q2]
        exact e1 i j (ac i hi q) (ac j hj q2) hn
def sl (H : hT) (j : Nat) : Nat := (H.1 + 8 - H.2.1 + j) % 8
theorem sl_lt (h : hInv H sd t c kf DF b) {j : Nat} (hj : j < H.2.1) : sl H j < c := by
  obtain ⟨⟨a0, a1, a2, a3, a4⟩, _⟩ := h
  unfold sl
  omega
/-- the history and the snapshot stand for the reference's -/
def hCs (H : hT) (sd : Value) (t : xW) (N : nT) (c : Nat) (kf : Nat → Nat) (DF : Nat → fT) (b : Bool) : Prop :=
  hInv H sd t c kf DF b ∧ N.ch = nI H.2.1 ∧ (∀ j, j < H.2.1 → cpl (DF (sl H j)) (fun q => N.kp (114 * j + q))) ∧ ((b = false ∧ N.iS = nI 0) ∨ (b = true ∧ N.iS = nI 1 ∧ cpl (DF 8) N.sv))
def hC (H : hT) (sd : Value) (t : xW) (N : nT) : Prop := ∃ c kf DF b, hCs H sd t N c kf DF b
theorem cpo_in {f2 f : Nat → Int32} {a b k q : Nat} (h : b ≤ q ∧ q < b + k) : cpo f2 f a b k q = f (a + (q - b)) := if_pos h
theorem cpo_out {f2 f : Nat → Int32} {a b k q : Nat} (h : q < b ∨ b + k ≤ q) : cpo f2 f a b k q = f2 q := if_neg (by omega)
/-- the reference keeps a row -/
theorem hC_rows {N : nT} {g : Nat → Int32} {D : fT} (h : hCs H sd t N c kf DF b) (hw : N.iW = nI 0) (hF : cpl F g) (iF : fI F) (q' : Nat → Option Nat) {t' : xW} {c' : Nat} {kf' : Nat → Nat} (h2 : hInv (nxt H.1, min 8 (H.2.1 + 1), q') sd t' c' kf' (va_up DF H.1 (fcp D F)) b) :
    hCs (nxt H.1, min 8 (H.2.1 + 1), q') sd t' (N.kps g) c' kf' (va_up DF H.1 (fcp D F)) b := by
  obtain ⟨h0, hc, hk, hs⟩ := h
  have h00 := h0
  obtain ⟨⟨a0, a1, a2, a3, a4⟩, _, _, d1, _⟩ := h0
  have fr : ∀ j, j < H.2.1 → fI (DF (sl H j)) := fun j hj => (d1 _ (Or.inl (sl_lt h00 hj))).2.2
  refine ⟨h2, ?_, fun j hj => ?_, ?_⟩
  · show chX N = nI (min 8 (H.2.1 + 1))
    unfold chX
    rw [if_pos hw, hc, nI_add]
    by_cases q8 : H.2.1 = 8
    · rw [if_pos (by rw [q8])]
      congr 1; omega
    · rw [if_neg (fun z => q8 ((nI_eq (by omega) (by omega)).mp z))]
      congr 1; omega
  · replace hj : j < min 8 (H.2.1 + 1) := hj
    show cpl (va_up DF H.1 (fcp D F) (sl (nxt H.1, min 8 (H.2.1 + 1), q') j)) (fun q => kpX N g (114 * j + q))
    unfold kpX
    rw [if_pos hw, hc]
    by_cases q8 : H.2.1 = 8
    · rw [if_pos (by rw [q8])]
      by_cases qj : j = 7
      · have e : sl (nxt H.1, min 8 (H.2.1 + 1), q') j = H.1 := by
          show (nxt H.1 + 8 - min 8 (H.2.1 + 1) + j) % 8 = H.1
          unfold nxt
          split <;> omega
        rw [e, va_eq]
        refine (fcp_cpl hF).cg (fcp_fI iF) fun q hq => ?_
        subst qj
        rw [cpo_in (by omega)]
        exact congrArg g (by omega)
      · have e : sl (nxt H.1, min 8 (H.2.1 + 1), q') j = sl H (j + 1) := by
          show (nxt H.1 + 8 - min 8 (H.2.1 + 1) + j) % 8 = (H.1 + 8 - H.2.1 + (j + 1)) % 8
          unfold nxt
          split <;> omega
        have e2 : ¬ sl H (j + 1) = H.1 := by
          unfold sl
          omega
        rw [e, va_ne e2]
        refine (hk (j + 1) (by omega)).cg (fr _ (by omega)) fun q hq => ?_
        rw [cpo_out (by omega), shf_in (by omega)]
        exact congrArg N.kp (by omega)
    · rw [if_neg (fun z => q8 ((nI_eq (by omega) (by omega)).mp z)), nI_clamp (by omega)]
      by_cases qj : j = H.2.1
      · have e : sl (nxt H.1, min 8 (H.2.1 + 1), q') j = H.1 := by
          show (nxt H.1 + 8 - min 8 (H.2.1 + 1) + j) % 8 = H.1
          unfold nxt
          split <;> omega
        rw [e, va_eq]
        refine (fcp_cpl hF).cg (fcp_fI iF) fun q hq => ?_
        subst qj
        rw [cpo_in (by omega)]
        exact congrArg g (by omega)
      · have e : sl (nxt H.1, min 8 (H.2.1 + 1), q') j = sl H j := by
          show (nxt H.1 + 8 - min 8 (H.2.1 + 1) + j) % 8 = (H.1 + 8 - H.2.1 + j) % 8
          unfold nxt
          split <;> omega
        have e2 : ¬ sl H j = H.1 := by
          unfold sl
          omega
        rw [e, va_ne e2]
        refine (hk j (by omega)).cg (fr _ (by omega)) fun q hq => ?_
        rw [cpo_out (by omega)]
  · refine hs.imp_right fun ⟨s1, s2, s3⟩ => ⟨s1, s2, ?_⟩
    show cpl (va_up DF H.1 (fcp D F) 8) N.sv
    rw [va_ne (by omega)]
    exact s3
end HI
