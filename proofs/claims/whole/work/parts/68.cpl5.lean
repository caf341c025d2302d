/-! ===== hours, on both sides ===== -/
theorem mxi_nI {a b : Nat} (ha : a < 2 ^ 30) (hb : b < 2 ^ 30) : mxi (nI a) (nI b) = nI (max a b) := by
  unfold mxi
  split
  · rename_i q
    rw [nI_ltI (by omega) (by omega)] at q
    rw [Nat.max_eq_right (by omega)]
  · rename_i q
    rw [nI_ltI (by omega) (by omega)] at q
    rw [Nat.max_eq_left (by omega)]
theorem mni_nI {a b : Nat} (ha : a < 2 ^ 30) (hb : b < 2 ^ 30) : mni (nI a) (nI b) = nI (min a b) := by
  unfold mni
  split
  · rename_i q
    rw [nI_ltI (by omega) (by omega)] at q
    rw [Nat.min_eq_right (by omega)]
  · rename_i q
    rw [nI_ltI (by omega) (by omega)] at q
    rw [Nat.min_eq_left (by omega)]
theorem mxi_sub {a b c : Nat} (ha : a < 2 ^ 30) (hb : b < 2 ^ 30) (hc : c < 2 ^ 30) : mxi (nI a) (nI b - nI c) = nI (max a (b - c)) := by
  rcases Nat.lt_or_ge b c with q | q
  · have h := pk_sneg hc q
    have h2 : ¬ nI a < nI b - nI c := fun z => nI_pos (n := a) (by omega) (Int32.lt_trans z h)
    unfold mxi
    rw [if_neg h2]
    congr 1
    omega
  · rw [pk_sub q, mxi_nI ha (by omega)]
/-- the cracks that come to a bell in t hours -/
def dk (l w k s t : Nat) : Nat := if 6 + 2 * s < l then min (min t ((w + l - 1) / l)) (9 - k) else 0
theorem dk_le {l w k s t : Nat} : dk l w k s t ≤ 9 - k := by
  unfold dk
  split <;> omega
theorem dk_warm {l w t : Nat} (hl : 1 ≤ l) : l * t < w ↔ t < (w + l - 1) / l := by
  show l * t < w ↔ t + 1 ≤ (w + l - 1) / l
  rw [Nat.le_div_iff_mul_le hl, show (t + 1) * l = l * t + l by rw [Nat.mul_comm, Nat.mul_succ]]
  omega
theorem dk_step {l w k s t : Nat} (hk : k ≤ 9) : dk l w k s (t + 1) = dk l w k s t + (if l * t < w ∧ 6 + 2 * s < l ∧ ¬ k + dk l w k s t = 9 then 1 else 0) := by
  by_cases h1 : 6 + 2 * s < l
  · have hd := dk_warm (l := l) (w := w) (t := t) (by omega)
    unfold dk
    rw [if_pos h1, if_pos h1]
    generalize (w + l - 1) / l = W at hd ⊢
    by_cases h2 : t < W
    · by_cases h4 : k + min (min t W) (9 - k) = 9
      · rw [if_neg (fun z => z.2.2 h4)]
        omega
      · rw [if_pos ⟨hd.mpr h2, h1, h4⟩]
        omega
    · rw [if_neg (fun z => h2 (hd.mp z.1))]
      omega
  · rw [if_neg (fun z => h1 z.2.1)]
    unfold dk
    rw [if_neg h1, if_neg h1]
def nsum (f : Nat → Nat) : Nat → Nat
  | 0 => 0
  | n + 1 => nsum f n + f n
theorem dk_0 {l w k s : Nat} : dk l w k s 0 = 0 := by
  unfold dk
  rw [Nat.zero_min, Nat.zero_min]
  split <;> rfl
theorem nsum_cnt {f g : Nat → Nat} {p : Nat → Bool} : ∀ {n : Nat}, (∀ u, u < n → g u = f u + (if p u = true then 1 else 0)) → nsum g n = nsum f n + cnt p n
  | 0, _ => rfl
  | n + 1, h => by
    show nsum g n + g n = nsum f n + f n + (cnt p n + _)
    rw [nsum_cnt (n := n) fun u hu => h u (by omega), h n (by omega)]
    omega
theorem bsum_nI {p : Nat → Int32} {f : Nat → Nat} : ∀ {n : Nat}, (∀ u, u < n → p u = nI (f u)) → bsum p n = nI (nsum f n)
  | 0, _ => rfl
  | n + 1, h => by
    show bsum p n + p n = _
    rw [bsum_nI (n := n) fun u hu => h u (by omega), h n (by omega), nI_add]
    rfl
theorem gon_B {B : tT} {g : Nat → Int32} (h : cplB B g) (x : Int32) : gon g x B.1 = onB B x := cnt_cg fun u hu => by
  show decide _ = decide _
  rw [h u 3 hu (by omega)]
theorem mlos_F {F : fT} {g : Nat → Int32} (h2 : cplR F.R g) (h3 : cplB F.B g) {r : Nat} (hr : r < F.R.1) : mlos g F.B.1 r = F.loss r := by
  unfold mlos
  rw [gon_B h3, h2 r hr]
  rfl
theorem loss_N {F : fT} (i : fI F) {r : Nat} (hr : r < F.R.1) : ∃ l, 1 ≤ l ∧ l ≤ 15 ∧ F.loss r = nI l := by
  obtain ⟨d, d1, d2, e⟩ := i.2.2.2.1.2 r hr
  have h3 := i.2.2.2.2.2.2 r hr
  refine ⟨d + 2 * (3 - onB F.B (nI r)), by omega, by omega, ?_⟩
  show F.R.2 (r * 1 + 0) + nI 2 * (nI 3 - nI (onB F.B (nI r))) = _
  rw [e, pk_sub h3, pk_mul, nI_add]
/-- a bell in numbers: warmth, cracks, sand, loss -/
def bN (F : fT) (u w k s l : Nat) : Prop := w ≤ 120 ∧ k ≤ 9 ∧ s ≤ 4 ∧ l ≤ 15 ∧ F.b u 4 = nI w ∧ F.b u 5 = nI k ∧ F.b u 1 = nI s ∧ F.lossB u = nI l ∧ ((F.b u 3 = -1 ∧ l = 0 ∧ w = 0) ∨ ∃ r, r < F.R.1 ∧ F.b u 3 = nI r ∧ 1 ≤ l ∧ F.loss r = nI l)
theorem bN_ex {F : fT} (i : fI F) {u : Nat} (hu : u < F.B.1) : ∃ w k s l, bN F u w k s l := by
  obtain ⟨c, s, w, k, m, c1, c2, s1, w1, k1, m1, f0, f1, f2, f4, f5, f6, f7, f3⟩ := i.2.2.2.2.2.1 u hu
  rcases f3 with ⟨f3, f8⟩ | ⟨r, hr, f3⟩
  · replace f3 : F.b u 3 = -1 := f3
    exact ⟨w, k, s, 0, w1, k1, s1, by omega, f4, f5, f1, if_pos f3, Or.inl ⟨f3, rfl, f8⟩⟩
  · replace f3 : F.b u 3 = nI r := f3
    obtain ⟨l, l1, l2, e⟩ := loss_N i hr
    have h4 := i.2.2.2.1.1
    refine ⟨w, k, s, l, w1, k1, s1, l2, f4, f5, f1, ?_, Or.inr ⟨r, hr, f3, l1, e⟩⟩
    show (if F.b u 3 = -1 then nI 0 else F.loss (F.b u 3).toNatClampNeg) = nI l
    rw [f3, if_neg (nI_nm1 (by omega)), nI_clamp (by omega), e]
theorem whs_nI {w l : Nat} (hw : w ≤ 1000) (hl : l ≤ 1000) (h1 : 1 ≤ l) : whs (nI w) (nI l) = nI ((w + l - 1) / l) := by
  unfold whs
  rw [if_pos ((nI_ltI (by omega) (by omega)).mpr h1), nI_add, pk_sub (by omega), pk_div (by omega) (by omega) (by omega)]
theorem lhm_N {F : fT} {u w k s l t : Nat} (h : bN F u w k s l) (ht : t ≤ 48) : lhm F (nI t) u = nI (dk l w k s t) := by
  obtain ⟨w1, k1, s1, l1, e4, e5, e6, e7, h8⟩ := h
  show (if nI 6 + nI 2 * F.b u 1 < F.lossB u then mni (mni (nI t) (whs (F.b u 4) (F.lossB u))) (nI 9 - F.b u 5) else nI 0) = _
  rw [e4, e5, e6, e7, pk_mul, nI_add]
  unfold dk
  by_cases q : 6 + 2 * s < l
  · have hW : (w + l - 1) / l ≤ 1000 := Nat.le_trans (Nat.div_le_self _ _) (by omega)
    rw [if_pos q, if_pos ((nI_ltI (by omega) (by omega)).mpr q), whs_nI (by omega) (by omega) (by omega), pk_sub k1, mni_nI (by omega) (by omega), mni_nI (by omega) (by omega)]
  · rw [if_neg q, if_neg (fun z => q ((nI_ltI (by omega) (by omega)).mp z))]
theorem gby_v {F : fT} {t : Int32} {k u j : Nat} (hu : u < k) (hj : j < 8) : gby F t k (u * 8 + j) = if j = 5 then F.B.2 (u * 8 + j) + lhm F t u else if j = 7 then F.B.2 (u * 8 + j) + -(lhm F t u) else if j = 4 then mxi (nI 0) (F.B.2 (u * 8 + j) - F.lossB u * t) else F.B.2 (u * 8 + j) := by
  unfold gby
  have e1 : (u * 8 + j) / 8 = u := by omega
  have e2 : (u * 8 + j) % 8 = j := by omega
  rw [e1, e2, if_pos hu]
theorem hg1_v {g : Nat → Int32} {n k u j : Nat} (hu : u < k) (hj : j < 7) : hg1 g n k (30 + 7 * u + j) = if nI 0 < g (30 + 7 * u + 4) then (if j = 4 then mxi (nI 0) (g (30 + 7 * u + j) - glo g n u) else if j = 5 ∧ gck g n u = true then g (30 + 7 * u + j) + nI 1 else g (30 + 7 * u + j)) else g (30 + 7 * u + j) := by
  unfold hg1
  have e1 : (30 + 7 * u + j - 30) / 7 = u := by omega
  have e2 : (30 + 7 * u + j - 30) % 7 = j := by omega
  rw [e1, e2]
  by_cases q : nI 0 < g (30 + 7 * u + 4)
  · rw [if_pos q, if_pos ⟨by omega, hu, q⟩]
  · rw [if_neg q, if_neg (fun z => q z.2.2)]
/-- the row after t hours -/
def pst (F : fT) (g : Nat → Int32) (h t : Nat) (gt : Nat → Int32) : Prop :=
  gt 0 = nI (max 20 (h - 5 * t)) ∧ gt 8 = g 8 + nI t ∧ (∀ q, q < 30 → q ≠ 0 → q ≠ 8 → gt q = g q) ∧
  ∀ u, u < F.B.1 → ∀ w k s l, bN F u w k s l → gt (30 + 7 * u + 4) = nI (w - l * t) ∧ gt (30 + 7 * u + 5) = nI (k + dk l w k s t) ∧ ∀ j, j < 7 → j ≠ 4 → j ≠ 5 → gt (30 + 7 * u + j) = g (30 + 7 * u + j)
theorem hr0_B {g : Nat → Int32} {q : Nat} (h : 0 < q) : hr0 g q = g q := hr0_ne (by omega)
theorem pst_los {F : fT} {g gt : Nat → Int32} {h t r : Nat} (c2 : cplR F.R g) (c3 : cplB F.B g) (i : fI F) (p : pst F g h t gt) (hr : r < F.R.1) : mlos (hr0 gt) F.B.1 r = F.loss r := by
  rw [← mlos_F c2 c3 hr]
  obtain ⟨p0, p8, pq, pb⟩ := p
  have h4 := i.2.2.2.1.1
  unfold mlos
  rw [hr0_B (by omega), pq (26 + r) (by omega) (by omega) (by omega)]
  congr 4
  refine cnt_cg fun u hu => ?_
  obtain ⟨w, k, s, l, hb⟩ := bN_ex i hu
  show decide _ = decide _
  rw [hr0_B (by omega), (pb u hu w k s l hb).2.2 3 (by omega) (by omega) (by omega)]
theorem pst_ck {F : fT} {g gt : Nat → Int32} {h t u w k s l : Nat} (c2 : cplR F.R g) (c3 : cplB F.B g) (i : fI F) (p : pst F g h t gt) (hu : u < F.B.1) (hb : bN F u w k s l) (ht : t ≤ 48) :
    (nI 0 < hr0 gt (30 + 7 * u + 4) ↔ l * t < w) ∧ (l * t < w → glo (hr0 gt) F.B.1 u = nI l ∧ (gck (hr0 gt) F.B.1 u = true ↔ 6 + 2 * s < l ∧ ¬ k + dk l w k s t = 9)) := by
  have p2 := p
  obtain ⟨p0, p8, pq, pb⟩ := p
  obtain ⟨q4, q5, qj⟩ := pb u hu w k s l hb
  obtain ⟨w1, k1, s1, l1, e4, e5, e6, e7, h8⟩ := hb
  have hdk := dk_le (l := l) (w := w) (k := k) (s := s) (t := t)
  rw [hr0_B (by omega), q4, nI_ltI (by omega) (by omega)]
  refine ⟨by omega, fun hw => ?_⟩
  rcases h8 with ⟨_, rfl, rfl⟩ | ⟨r, hr, h3, hl, hlr⟩
  · omega
  · have h4 := i.2.2.2.1.1
    have eg : glo (hr0 gt) F.B.1 u = nI l := by
      show mlos (hr0 gt) F.B.1 (hr0 gt (30 + 7 * u + 3)).toNatClampNeg = nI l
      rw [hr0_B (by omega), qj 3 (by omega) (by omega) (by omega), c3 u 3 hu (by omega), show F.B.2 (u * 8 + 3) = nI r from h3, nI_clamp (by omega), pst_los c2 c3 i p2 hr, hlr]
    refine ⟨eg, ?_⟩
    unfold gck
    rw [eg, decide_eq_true_iff, hr0_B (by omega), hr0_B (by omega), qj 1 (by omega) (by omega) (by omega), c3 u 1 hu (by omega), show F.B.2 (u * 8 + 1) = nI s from e6, q5, pk_mul, nI_add, nI_leI (by omega) (by omega), nI_eq (by omega) (by omega)]
    omega
theorem pst_s {F : fT} {g gt : Nat → Int32} {h t : Nat} (c2 : cplR F.R g) (c3 : cplB F.B g) (i : fI F) (hh : h ≤ 1400) (p : pst F g h t gt) (ht : t + 1 ≤ 48) : pst F g h (t + 1) (hrG gt F.B.1) := by
  have p2 := p
  obtain ⟨p0, p8, pq, pb⟩ := p
  refine ⟨?_, ?_, fun q h1 h2 h3 => ?_, fun u hu w k s l hb => ?_⟩
  · unfold hrG
    rw [upd_ne (by omega), hg1_lo (by omega)]
    show upd _ _ _ _ = _
    rw [upd_eq, p0, mxi_sub (by omega) (by omega) (by omega)]
    congr 1
    omega
  · unfold hrG
    rw [upd_eq, p8, Int32.add_assoc, nI_add]
  · unfold hrG
    rw [upd_ne h3, hg1_lo h1, hr0_ne h2]
    exact pq q h1 h2 h3
  · obtain ⟨k1, k2⟩ := pst_ck c2 c3 i p2 hu hb (by omega)
    obtain ⟨q4, q5, qj⟩ := pb u hu w k s l hb
    obtain ⟨w1, kk1, s1, l1, e4, e5, e6, e7, h8⟩ := hb
    have hs := dk_step (l := l) (w := w) (k := k) (s := s) (t := t) kk1
    have hm : l * (t + 1) = l * t + l := Nat.mul_succ l t
    have hv : ∀ j, j < 7 → hrG gt F.B.1 (30 + 7 * u + j) = hg1 (hr0 gt) F.B.1 F.B.1 (30 + 7 * u + j) := fun j hj => by
      unfold hrG
      exact upd_ne (by omega)
    refine ⟨?_, ?_, fun j hj h4 h5 => ?_⟩
    · rw [hv 4 (by omega), hg1_v hu (by omega)]
      by_cases q : l * t < w
      · rw [if_pos (k1.mpr q), if_pos rfl, (k2 q).1, hr0_B (by omega), q4, mxi_sub (by omega) (by omega) (by omega)]
        congr 1
        omega
      · rw [if_neg (fun z => q (k1.mp z)), hr0_B (by omega), q4]
        congr 1
        omega
    · rw [hv 5 (by omega), hg1_v hu (by omega), hs]
      by_cases q : l * t < w
      · rw [if_pos (k1.mpr q), if_neg (by omega)]
        by_cases q2 : gck (hr0 gt) F.B.1 u = true
        · rw [if_pos ⟨rfl, q2⟩, if_pos ⟨q, (k2 q).2.mp q2⟩, hr0_B (by omega), q5, nI_add]
          rfl
        · rw [if_neg (fun z => q2 z.2), if_neg (fun z => q2 ((k2 q).2.mpr z.2)), hr0_B (by omega), q5]
          rfl
      · rw [if_neg (fun z => q (k1.mp z)), if_neg (fun z => q z.1), hr0_B (by omega), q5]
        rfl
    · rw [hv j hj, hg1_v hu hj]
      have := qj j hj h4 h5
      by_cases q : nI 0 < hr0 gt (30 + 7 * u + 4)
      · rw [if_pos q, if_neg h4, if_neg (fun z => h5 z.1), hr0_B (by omega)]
        exact this
      · rw [if_neg q, hr0_B (by omega)]
        exact this
theorem pst_c {F : fT} {g gt : Nat → Int32} {h t : Nat} (c2 : cplR F.R g) (c3 : cplB F.B g) (i : fI F) (p : pst F g h t gt) (ht : t + 1 ≤ 48) (W K S L : Nat → Nat) (hW : ∀ u, u < F.B.1 → bN F u (W u) (K u) (S u) (L u)) :
    nsum (fun u => dk (L u) (W u) (K u) (S u) (t + 1)) F.B.1 = nsum (fun u => dk (L u) (W u) (K u) (S u) t) F.B.1 + hrC gt F.B.1 := by
  refine nsum_cnt fun u hu => ?_
  obtain ⟨k1, k2⟩ := pst_ck c2 c3 i p hu (hW u hu) (by omega)
  have hs := dk_step (l := L u) (w := W u) (k := K u) (s := S u) (t := t) (hW u hu).2.1
  show dk (L u) (W u) (K u) (S u) (t + 1) = _
  rw [hs]
  show _ + _ = dk (L u) (W u) (K u) (S u) t + _
  congr 1
  unfold gwc
  by_cases q : L u * t < W u
  · by_cases q2 : gck (hr0 gt) F.B.1 u = true
    · rw [if_pos ⟨q, (k2 q).2.mp q2⟩, if_pos (decide_eq_true ⟨k1.mpr q, q2⟩)]
    · rw [if_neg (fun z => q2 ((k2 q).2.mpr z.2)), if_neg (fun z => q2 (of_decide_eq_true z).2)]
  · rw [if_neg (fun z => q z.1), if_neg (fun z => q (k1.mp (of_decide_eq_true z).1))]
theorem pst_0 {F : fT} {g : Nat → Int32} {h : Nat} (c1 : cplW F g) (c3 : cplB F.B g) (h1 : 20 ≤ h) (h2 : F.h = nI h) : pst F g h 0 g := by
  obtain ⟨a0, a1⟩ := c1
  refine ⟨?_, ?_, fun _ _ _ _ => rfl, fun u hu w k s l hb => ⟨?_, ?_, fun _ _ _ _ => rfl⟩⟩
  · rw [a0, h2]
    congr 1
    omega
  · rw [nI_0, Int32.add_zero]
  · rw [c3 u 4 hu (by omega), show F.B.2 (u * 8 + 4) = nI w from hb.2.2.2.2.1]
    rfl
  · rw [c3 u 5 hu (by omega), show F.B.2 (u * 8 + 5) = nI k from hb.2.2.2.2.2.1]
    rw [dk_0]
    rfl
theorem pst_t {F : fT} {g : Nat → Int32} {h : Nat} (c1 : cpl F g) (i : fI F) (h1 : 20 ≤ h) (hh : h ≤ 1400) (h2 : F.h = nI h) (W K S L : Nat → Nat) (hW : ∀ u, u < F.B.1 → bN F u (W u) (K u) (S u) (L u)) : ∀ t, t ≤ 48 → pst F g h t (psG g F.B.1 t) ∧ psC g F.B.1 t = nI (nsum (fun u => dk (L u) (W u) (K u) (S u) t) F.B.1)
  | 0, _ => ⟨pst_0 c1.1 c1.2.2.2 h1 h2, by
    show nI 0 = _
    congr 1
    have : ∀ n, nsum (fun u => dk (L u) (W u) (K u) (S u) 0) n = 0 := fun n => by
      induction n with
      | zero => rfl
      | succ n ih =>
        show nsum (fun u => dk (L u) (W u) (K u) (S u) 0) n + dk (L n) (W n) (K n) (S n) 0 = 0
        rw [ih, dk_0]
    exact (this _).symm⟩
  | t + 1, ht => by
    obtain ⟨p, c⟩ := pst_t c1 i h1 hh h2 W K S L hW t (by omega)
    refine ⟨pst_s c1.2.2.1 c1.2.2.2 i hh p ht, ?_⟩
    show psC g F.B.1 t + nI (hrC (psG g F.B.1 t) F.B.1) = _
    rw [c, nI_add, pst_c c1.2.2.1 c1.2.2.2 i p ht W K S L hW]
abbrev fHr (F : fT) (t : Int32) : fT := fmk F.M F.R (F.B.1, gby F t F.B.1) (mxi (nI 20) (F.h - nI 5 * t)) F.p F.br F.lo F.ld (F.hr + t) F.po
theorem lc_pass {F : fT} {g : Nat → Int32} (h : cpl F g) (i : fI F) {t : Nat} (ht : t ≤ 48) :
    cpl (fHr F (nI t)) (psG g F.B.1 t) ∧ fI (fHr F (nI t)) ∧ bsum (lhm F (nI t)) F.B.1 = psC g F.B.1 t := by
  obtain ⟨k, k1, k2, k3⟩ := i.1
  have hx : ∀ u, ∃ x : Nat × Nat × Nat × Nat, u < F.B.1 → bN F u x.1 x.2.1 x.2.2.1 x.2.2.2 := fun u => by
    by_cases q : u < F.B.1
    · obtain ⟨w, k, s, l, hb⟩ := bN_ex i q
      exact ⟨(w, k, s, l), fun _ => hb⟩
    · exact ⟨(0, 0, 0, 0), fun z => absurd z q⟩
  let Z : Nat → Nat × Nat × Nat × Nat := fun u => Classical.choose (hx u)
  have hZ : ∀ u, u < F.B.1 → bN F u (Z u).1 (Z u).2.1 (Z u).2.2.1 (Z u).2.2.2 := fun u => Classical.choose_spec (hx u)
  obtain ⟨⟨p0, p8, pq, pb⟩, pc⟩ := pst_t h i k1 k2 k3 (fun u => (Z u).1) (fun u => (Z u).2.1) (fun u => (Z u).2.2.1) (fun u => (Z u).2.2.2) hZ t ht
  have h2 := h
  obtain ⟨⟨a0, a1, a2, a3, a4, a5, a6, a7, a8, a9⟩, b1, b2, b3⟩ := h2
  have eh : mxi (nI 20) (F.h - nI 5 * nI t) = nI (max 20 (k - 5 * t)) := by
    rw [k3, pk_mul, mxi_sub (by omega) (by omega) (by omega)]
  have ew : ∀ u w k s l, bN F u w k s l → mxi (nI 0) (F.B.2 (u * 8 + 4) - F.lossB u * nI t) = nI (w - l * t) := fun u w k s l hb => by
    obtain ⟨w1, kk1, s1, l1, e4, e5, e6, e7, h8⟩ := hb
    have : l * t ≤ 15 * 48 := Nat.mul_le_mul l1 ht
    rw [show F.B.2 (u * 8 + 4) = nI w from e4, e7, pk_mul, mxi_sub (by omega) (by omega) (by omega)]
    congr 1
  refine ⟨⟨⟨?_, ?_, ?_, ?_, ?_, ?_, ?_, ?_, ?_, ?_⟩, b1.cg (fun q h1 h2 => pq q (by omega) (by omega) (by omega)) i.2.2.1.1, b2.cg (fun q h1 h2 => pq q (by omega) (by omega) (by omega)) i.2.2.2.1.1, ?_⟩, ⟨⟨max 20 (k - 5 * t), by omega, by omega, eh⟩, i.2.1, i.2.2.1, i.2.2.2.1, i.2.2.2.2.1, ?_, ?_⟩, ?_⟩
  case refine_1 => exact p0.trans eh.symm
  case refine_9 => exact p8.trans (congrArg (· + nI t) a8)
  case refine_11 =>
    intro u j hu hj
    replace hu : u < F.B.1 := hu
    obtain ⟨w, kk, s, l, hb⟩ := bN_ex i hu
    obtain ⟨q4, q5, qj⟩ := pb u hu w kk s l hb
    show _ = gby _ _ _ _
    rw [gby_v hu (by omega)]
    by_cases z4 : j = 4
    · subst z4
      rw [if_neg (by omega), if_neg (by omega), if_pos rfl, q4, ew u w kk s l hb]
    · by_cases z5 : j = 5
      · subst z5
        rw [if_pos rfl, q5, lhm_N hb ht, show F.B.2 (u * 8 + 5) = nI kk from hb.2.2.2.2.2.1, nI_add]
      · rw [if_neg z5, if_neg (by omega), if_neg z4, qj j hj z4 z5]
        exact b3 u j hu hj
  case refine_12 =>
    intro u hu
    replace hu : u < F.B.1 := hu
    obtain ⟨w, kk, s, l, hb⟩ := bN_ex i hu
    have hl := lhm_N hb ht
    have hdk := dk_le (l := l) (w := w) (k := kk) (s := s) (t := t)
    have ew := ew u w kk s l hb
    obtain ⟨w1, kk1, s1, l1, e4, e5, e6, e7, h8⟩ := hb
    obtain ⟨c, s', w', k', m, c1, c2, s1', w1', k1', m1, f0, f1, f2, f4, f5, f6, f7, f3⟩ := i.2.2.2.2.2.1 u hu
    have ek : k' = kk := (nI_eq (by omega) (by omega)).mp ((show F.b u 5 = nI k' from f5).symm.trans e5)
    have ew2 : w' = w := (nI_eq (by omega) (by omega)).mp ((show F.b u 4 = nI w' from f4).symm.trans e4)
    subst ek ew2
    show bOK F.R.1 fun j => gby F (nI t) F.B.1 (u * 8 + j)
    refine ⟨c, s', w' - l * t, k' + dk l w' k' s t, m, c1, c2, s1', by omega, by omega, m1, ?_, ?_, ?_, ?_, ?_, ?_, ?_, ?_⟩
    case refine_4 =>
      show gby _ _ _ _ = _
      rw [gby_v hu (by omega), if_neg (by omega), if_neg (by omega), if_pos rfl, ew]
    case refine_5 =>
      show gby _ _ _ _ = _
      rw [gby_v hu (by omega), if_pos rfl, hl, show F.B.2 (u * 8 + 5) = nI k' from f5, nI_add]
    case refine_7 =>
      show gby _ _ _ _ = _
      rw [gby_v hu (by omega), if_neg (by omega), if_pos rfl, hl, show F.B.2 (u * 8 + 7) = nI (100 + m - c - k') from f7, nI_neg (by omega)]
      congr 1
      omega
    case refine_8 =>
      show (gby _ _ _ _ = _ ∧ _) ∨ ∃ r, _ ∧ gby _ _ _ _ = _
      rw [gby_v hu (by omega), if_neg (by omega), if_neg (by omega), if_neg (by omega)]
      exact f3.imp_left fun z => ⟨z.1, by omega⟩
    all_goals (show gby _ _ _ _ = _; rw [gby_v hu (by omega), if_neg (by omega), if_neg (by omega), if_neg (by omega)]; assumption)
  case refine_13 =>
    intro r hr
    refine Nat.le_trans (Nat.le_of_eq (cnt_cg fun u hu => ?_)) (i.2.2.2.2.2.2 r hr)
    show decide (gby _ _ _ _ = _) = decide _
    rw [gby_3]
  case refine_14 =>
    rw [pc]
    exact bsum_nI fun u hu => lhm_N (hZ u hu) ht
  all_goals (rw [pq _ (by omega) (by omega) (by omega)]; assumption)
