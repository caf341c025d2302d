/-! ===== the questions, on both sides ===== -/
section QQ
variable {F : fT} {g : Nat → Int32}
theorem b_of (h : cpl F g) {u j : Nat} (hu : u < F.B.1) (hj : j < 7) : g (30 + 7 * u + j) = F.b u j := h.2.2.2 u j hu hj
theorem gnote_F (h : cpl F g) {u : Nat} (hu : u < F.B.1) : gnote g u = F.note u := by
  unfold gnote fT.note
  rw [b_of h hu (by omega), b_of h hu (by omega), b_of h hu (by omega)]
theorem note_N (i : fI F) {u : Nat} (hu : u < F.B.1) : ∃ z, 31 ≤ z ∧ z ≤ 106 ∧ F.note u = nI z ∧ F.b u 7 = nI z := by
  obtain ⟨c, s, w, k, m, c1, c2, s1, w1, k1, m1, f0, f1, f2, f4, f5, f6, f7, f3⟩ := i.2.2.2.2.2.1 u hu
  refine ⟨100 + m - c - k, by omega, by omega, ?_, f7⟩
  show nI 100 - F.b u 0 + F.b u 6 - F.b u 5 = _
  rw [show F.b u 0 = nI c from f0, show F.b u 6 = nI m from f6, show F.b u 5 = nI k from f5, pk_sub (by omega), nI_add, pk_sub (by omega)]
  congr 1
  omega
theorem rk_F (i : fI F) {u : Nat} (hu : u < F.B.1) : F.b u 3 = -1 ∨ ∃ z, z < F.R.1 ∧ F.b u 3 = nI z := (i.2.2.2.2.2.1 u hu).rk
theorem hall_lt {b : Int32} (h : b = -1 ∨ ∃ z, z < 4 ∧ b = nI z) : b < nI 0 ↔ b = -1 := by
  rcases h with rfl | ⟨z, hz, rfl⟩
  · exact ⟨fun _ => rfl, fun _ => by decide⟩
  · exact ⟨fun q => absurd q (by rw [nI_ltI (by omega) (by omega)]; omega), fun q => absurd q (nI_nm1 (by omega))⟩
theorem rk4 (i : fI F) {u : Nat} (hu : u < F.B.1) : F.b u 3 = -1 ∨ ∃ z, z < 4 ∧ F.b u 3 = nI z := (rk_F i hu).imp_right fun ⟨z, h, e⟩ => ⟨z, Nat.lt_of_lt_of_le h i.2.2.2.1.1, e⟩
theorem hall_F (h : cpl F g) (i : fI F) {u : Nat} (hu : u < F.B.1) : g (30 + 7 * u + 3) < nI 0 ↔ F.b u 3 = -1 := by
  rw [b_of h hu (by omega)]
  exact hall_lt (rk4 i hu)
theorem gK_F (h : cpl F g) (i : fI F) : gK g F.B.1 := fun u hu => by
  rw [b_of h hu (by omega)]
  exact rk4 i hu
theorem gC_F (h : cpl F g) (i : fI F) : gC g F.B.1 := fun u hu h3 => by
  rw [b_of h hu (by omega)] at h3 ⊢
  obtain ⟨w, k, s, l, w1, k1, s1, l1, e4, e5, e6, e7, h8⟩ := bN_ex i hu
  rcases h8 with ⟨_, _, rfl⟩ | ⟨r, hr, q, _⟩
  · rw [e4, nI_ltI (by omega) (by omega)]; omega
  · exact absurd (q.symm.trans h3) (nI_nm1 (by have := i.2.2.2.1.1; omega))
theorem gH_F (h : cpl F g) (i : fI F) : gH g F.B.1 := fun u hu => by
  rw [b_of h hu (by omega)]
  have h4 := i.2.2.2.1.1
  refine (rk_F i hu).imp_right fun ⟨z, hz, e⟩ => ⟨z, by omega, e, ?_⟩
  obtain ⟨l, l1, l2, el⟩ := loss_N i hz
  rw [mlos_F h.2.2.1 h.2.2.2 hz, el, ← nI_0, nI_eq (by omega) (by omega)]
  omega
theorem hrd_F (h : cpl F g) (i : fI F) (x : Int32) : hrd F x ↔ ghrd g F.B.1 x := by
  constructor
  · rintro ⟨u, hu, q1, q2⟩
    exact ⟨u, hu, (hall_F h i hu).mpr q1, (gnote_F h hu).trans q2⟩
  · rintro ⟨u, hu, q1, q2⟩
    exact ⟨u, hu, (hall_F h i hu).mp q1, (gnote_F h hu).symm.trans q2⟩
theorem isLd_cg {p q : Nat → Prop} {s : Nat} (h : isLd p s) (e : ∀ t, t < 8 → (p t ↔ q t)) : isLd q s :=
  ⟨h.1, fun t ht => (e t (by have := h.1; omega)).mp (h.2.1 t ht), fun h8 z => h.2.2 h8 ((e s h8).mpr z)⟩
theorem steps_nI {j : Nat} (hj : j < 8) : ∃ z, z ≤ 12 ∧ stepsF j = nI z := by
  rcases (show j = 0 ∨ j = 1 ∨ j = 2 ∨ j = 3 ∨ j = 4 ∨ j = 5 ∨ j = 6 ∨ j = 7 by omega) with rfl | rfl | rfl | rfl | rfl | rfl | rfl | rfl
  · exact ⟨0, by omega, rfl⟩
  · exact ⟨2, by omega, rfl⟩
  · exact ⟨4, by omega, rfl⟩
  · exact ⟨5, by omega, rfl⟩
  · exact ⟨7, by omega, rfl⟩
  · exact ⟨9, by omega, rfl⟩
  · exact ⟨11, by omega, rfl⟩
  · exact ⟨12, by omega, rfl⟩
theorem told_F {t : Nat → Int32} (h : tld F t F.B.1) {x j : Nat} (hx : x ≤ 100) (hj : j < 8) : tolds t (nI x + stepsF j) ↔ hrd F (nI x + stepsF j) := by
  obtain ⟨z, hz, e⟩ := steps_nI hj
  rw [e, nI_add]
  unfold tolds
  rw [nI_clamp (by omega), nI_ltI (by omega) (by omega), nI_ltI (by omega) (by omega)]
  rcases h (x + z) (by omega) with ⟨h1, h2⟩ | ⟨h1, h2⟩
  · exact ⟨fun _ => h2, fun _ => ⟨by omega, by omega, h1⟩⟩
  · refine ⟨fun q => ?_, fun q => absurd q h2⟩
    have := h1.symm.trans q.2.2
    rw [nI_eq (by omega) (by omega)] at this
    omega
theorem mhrs_F (h : cpl F g) (i : fI F) {u w k s l : Nat} (hu : u < F.B.1) (hb : bN F u w k s l) : mhrs g F.B.1 u = nI (if l = 0 then 0 else (w + l - 1) / l) := by
  obtain ⟨w1, k1, s1, l1, e4, e5, e6, e7, h8⟩ := hb
  unfold mhrs
  rcases h8 with ⟨q, rfl, rfl⟩ | ⟨r, hr, q, hl, hlr⟩
  · rw [if_pos ((hall_F h i hu).mpr q)]
    rfl
  · have h4 := i.2.2.2.1.1
    rw [if_neg (fun z => nI_nm1 (by omega) (q.symm.trans ((hall_F h i hu).mp z))), if_neg (by omega)]
    unfold grk
    rw [b_of h hu (by omega), b_of h hu (by omega), q, nI_clamp (by omega), mlos_F h.2.2.1 h.2.2.2 hr, hlr, e4, nI_add, pk_sub (by omega), pk_div (by omega) (by omega) (by omega)]
theorem cold_F (h : cpl F g) (i : fI F) {u : Nat} (hu : u < F.B.1) : whs (F.b u 4) (F.lossB u) = mhrs g F.B.1 u := by
  obtain ⟨w, k, s, l, hb⟩ := bN_ex i hu
  rw [mhrs_F h i hu hb]
  obtain ⟨w1, k1, s1, l1, e4, e5, e6, e7, h8⟩ := hb
  rw [e4, e7]
  by_cases q : l = 0
  · subst q
    unfold whs
    rw [if_neg (by rw [nI_ltI (by omega) (by omega)]; omega), if_pos rfl]
  · rw [if_neg q, whs_nI (by omega) (by omega) (by omega)]
theorem would_F (h : cpl F g) (i : fI F) {u t : Nat} (hu : u < F.B.1) (ht : t ≤ 48) : F.b u 5 + F.ctc u (F.lossB u) (nI t) = gwo g F.B.1 u (nI t) := by
  obtain ⟨w, k, s, l, hb⟩ := bN_ex i hu
  have e1 : F.ctc u (F.lossB u) (nI t) = nI (dk l w k s t) := lhm_N hb ht
  have e2 := mhrs_F h i hu hb
  have hdk := dk_le (l := l) (w := w) (k := k) (s := s) (t := t)
  obtain ⟨w1, k1, s1, l1, e4, e5, e6, e7, h8⟩ := hb
  rw [e1, e5, nI_add]
  unfold gwo
  rw [e2]
  rcases h8 with ⟨q, rfl, rfl⟩ | ⟨r, hr, q, hl, hlr⟩
  · rw [if_pos (Or.inl ((hall_F h i hu).mpr q)), b_of h hu (by omega), e5]
    congr 1
  · have h4 := i.2.2.2.1.1
    have eg : glo g F.B.1 u = nI l := by
      unfold glo grk
      rw [b_of h hu (by omega), q, nI_clamp (by omega), mlos_F h.2.2.1 h.2.2.2 hr, hlr]
    rw [if_neg (show ¬ l = 0 by omega)]
    have hlt : glo g F.B.1 u ≤ nI 6 + nI 2 * g (30 + 7 * u + 1) ↔ l ≤ 6 + 2 * s := by
      rw [eg, b_of h hu (by omega), e6, pk_mul, nI_add, nI_leI (by omega) (by omega)]
    have hha : ¬ g (30 + 7 * u + 3) < nI 0 := fun y => nI_nm1 (by omega) (q.symm.trans ((hall_F h i hu).mp y))
    by_cases z : 6 + 2 * s < l
    · have hW : (w + l - 1) / l ≤ 1000 := Nat.le_trans (Nat.div_le_self _ _) (by omega)
      rw [if_neg (fun y => y.elim hha (fun y => by have := hlt.mp y; omega)), b_of h hu (by omega), e5]
      have : (if nI t < nI ((w + l - 1) / l) then nI t else nI ((w + l - 1) / l)) = nI (min t ((w + l - 1) / l)) := by
        by_cases y : t < (w + l - 1) / l
        · rw [if_pos ((nI_ltI (by omega) (by omega)).mpr y)]
          congr 1; omega
        · rw [if_neg (fun x => y ((nI_ltI (by omega) (by omega)).mp x))]
          congr 1; omega
      rw [this, nI_add, mni_nI (by omega) (by omega)]
      congr 1
      unfold dk
      rw [if_pos z]
      omega
    · rw [if_pos (Or.inr (hlt.mpr (by omega))), b_of h hu (by omega), e5]
      congr 1
      unfold dk
      rw [if_neg z]
      omega
/-- a pigeonhole -/
theorem pig : ∀ {n : Nat} {f : Nat → Nat}, (∀ i, i < n → f i < n) → (∀ i j, i < n → j < n → f i = f j → i = j) → ∀ p, p < n → ∃ i, i < n ∧ f i = p
  | 0, _, _, _, p, hp => by omega
  | n + 1, f, h1, h2, p, hp => by
    have ih := @pig n (fun i => if f i = n then f n else f i) (fun i hi => by
      have a1 := h1 i (by omega)
      have a2 := h1 n (by omega)
      show (if f i = n then f n else f i) < n
      split
      · rename_i q
        have : f n ≠ n := fun z => by
          have := h2 i n (by omega) (by omega) (q.trans z.symm)
          omega
        omega
      · omega) (fun i j hi hj e => by
      replace e : (if f i = n then f n else f i) = (if f j = n then f n else f j) := e
      split at e <;> split at e
      · rename_i a b
        exact h2 i j (by omega) (by omega) (a.trans b.symm)
      · rename_i a b
        have := h2 n j (by omega) (by omega) e
        omega
      · rename_i a b
        have := h2 i n (by omega) (by omega) e
        omega
      · exact h2 i j (by omega) (by omega) e)
    by_cases hn : f n = p
    · exact ⟨n, by omega, hn⟩
    · by_cases q : p = n
      · subst q
        obtain ⟨i, hi, e⟩ := ih (f p) (by have := h1 p (by omega); omega)
        replace e : (if f i = p then f p else f i) = f p := e
        split at e
        · rename_i a
          exact ⟨i, by omega, a⟩
        · have := h2 i p (by omega) (by omega) e
          omega
      · obtain ⟨i, hi, e⟩ := ih p (by omega)
        replace e : (if f i = n then f n else f i) = p := e
        split at e
        · exact absurd e hn
        · exact ⟨i, by omega, e⟩
theorem cnt_lt {p q : Nat → Bool} : ∀ {n i : Nat}, (∀ i, i < n → p i = true → q i = true) → i < n → q i = true → ¬ p i = true → cnt p n < cnt q n
  | 0, i, _, hi, _, _ => by omega
  | n + 1, i, h, hi, h1, h2 => by
    by_cases e : i = n
    · subst e
      have := cnt_imp (n := i) fun j hj => h j (by omega)
      rw [cnt_t h1, cnt_f h2]
      omega
    · have := cnt_lt (n := n) (fun j hj => h j (by omega)) (by omega : i < n) h1 h2
      by_cases z : p n = true
      · rw [cnt_t z, cnt_t (h n (by omega) z)]
        omega
      · rw [cnt_f z]
        by_cases z2 : q n = true
        · rw [cnt_t z2]; omega
        · rw [cnt_f z2]; exact this
theorem cnt_ltn {p : Nat → Bool} {n i : Nat} (hi : i < n) (h : ¬ p i = true) : cnt p n < n := by
  have := cnt_lt (p := p) (q := fun _ => true) (n := n) (i := i) (fun _ _ _ => rfl) hi rfl h
  have h2 : ∀ m, cnt (fun _ => true) m = m := fun m => by
    induction m with
    | zero => rfl
    | succ m ih => rw [cnt_t rfl, ih]
  rw [h2] at this
  exact this
def ahN (z : Nat → Nat) (k o : Nat) : Bool := decide (z k < z o ∨ (z o = z k ∧ o < k))
theorem ahN_inj {z : Nat → Nat} {n i j : Nat} (hi : i < n) (hj : j < n) (h : cnt (ahN z i) n = cnt (ahN z j) n) : i = j := by
  have key : ∀ a b, a < n → b < n → ahN z b a = true → cnt (ahN z a) n < cnt (ahN z b) n := fun a b ha hb q => by
    refine cnt_lt (i := a) (fun o ho w => ?_) ha q ?_
    · unfold ahN at *
      have w := of_decide_eq_true w
      have q := of_decide_eq_true q
      exact decide_eq_true (by omega)
    · unfold ahN
      intro w
      have w := of_decide_eq_true w
      omega
  by_cases e : i = j
  · exact e
  · exfalso
    by_cases w : ahN z j i = true
    · have := key i j hi hj w
      omega
    · have : ahN z i j = true := by
        unfold ahN at *
        refine decide_eq_true ?_
        rw [decide_eq_true_iff] at w
        omega
      have := key j i hj hi this
      omega
theorem rank_ex (z : Nat → Nat) {n p : Nat} (hp : p < n) : ∃ i, i < n ∧ cnt (ahN z i) n = p :=
  pig (fun i hi => cnt_ltn (i := i) hi (by
    unfold ahN
    rw [decide_eq_true_iff]
    omega)) (fun _ _ hi hj h => ahN_inj hi hj h) p hp
theorem ahd_N (i : fI F) {k o : Nat} (hk : k < F.B.1) (ho : o < F.B.1) : ahd F k o = ahN (fun u => (F.note u).toNatClampNeg) k o := by
  obtain ⟨a, a1, a2, a3, _⟩ := note_N i hk
  obtain ⟨b, b1, b2, b3, _⟩ := note_N i ho
  unfold ahd ahN
  refine decide_eq_decide.mpr ?_
  show (F.note k < F.note o ∨ (F.note o = F.note k ∧ o < k)) ↔ ((F.note k).toNatClampNeg < (F.note o).toNatClampNeg ∨ ((F.note o).toNatClampNeg = (F.note k).toNatClampNeg ∧ o < k))
  rw [a3, b3, nI_clamp (by omega), nI_clamp (by omega), nI_ltI (by omega) (by omega), nI_eq (by omega) (by omega)]
theorem rank_F (i : fI F) {k : Nat} (hk : k < F.B.1) : cnt (ahd F k) F.B.1 = cnt (ahN (fun u => (F.note u).toNatClampNeg) k) F.B.1 := cnt_cg fun _ ho => ahd_N i hk ho
theorem gah_F (h : cpl F g) {k : Nat} (hk : k < F.B.1) : cnt (gah g k) F.B.1 = cnt (ahd F k) F.B.1 := cnt_cg fun o ho => by
  unfold gah ahd
  rw [gnote_F h hk, gnote_F h ho]
end QQ
