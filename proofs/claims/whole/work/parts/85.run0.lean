/-! ===== a text's orders, one after the other: pure ===== -/
theorem hre_lt {t : Nat → Int32} {n a k : Nat} (hk : k < 2 ^ 31) (h : hre t n a = nI k) : a < n := by
  rcases Nat.lt_or_ge a n with z | z
  · exact z
  · have e : hre t n a = -1 := if_neg (by omega)
    exact absurd (h.symm.trans e) (nI_nm1 hk)
theorem numR_le {t : Nat → Int32} {n a m v b : Nat} (ha : a ≤ n) (h : numR t n a m = some (v, b)) : b ≤ n := by
  unfold numR at h
  split at h
  · cases h
    exact fgc_n ha
  · cases h
theorem ord1_le {t : Nat → Int32} {n a m : Nat} {x : Int32} (ha : a < n) : (ord1 t n a m x).2 ≤ n := by
  unfold ord1
  split
  · exact ha
  · rename_i v b hb
    exact numR_le ha hb
theorem ord2_le {t : Nat → Int32} {n a m k : Nat} {x : Int32} (ha : a < n) (hk : k < 2 ^ 31) : (ord2 t n a m x (nI k)).2 ≤ n := by
  unfold ord2
  split
  · exact ha
  · rename_i v b hb
    have h1 := numR_le ha hb
    split
    · rename_i hs
      have h2 := hre_lt hk hs
      split
      · exact h2
      · rename_i w c hc
        exact numR_le h2 hc
    · exact h1
theorem ordR_le {t : Nat → Int32} {n a : Nat} (ha : a ≤ n) : (ordR t n a).2 ≤ n := by
  unfold ordR
  split
  · rename_i h
    exact ord1_le (by rcases h with h | h | h | h <;> exact hre_lt (by omega) h)
  split
  · rename_i h
    exact ord1_le (hre_lt (by omega) h)
  split
  · rename_i h
    exact ord1_le (hre_lt (by omega) h)
  split
  · rename_i h
    exact ord2_le (hre_lt (by omega) h) (by omega)
  split
  · rename_i h
    exact ord2_le (hre_lt (by omega) h) (by omega)
  · exact ha
theorem txR_le {t : Nat → Int32} {n : Nat} : ∀ {f a : Nat} {L : List orT}, a ≤ n → (txR t n f a L).2 ≤ n
  | 0, a, L, h => h
  | f + 1, a, L, h => by
    have h1 := ordR_le (t := t) h
    unfold txR
    split
    · rename_i e he
      rw [he] at h1
      exact h1
    · rename_i o e he
      rw [he] at h1
      split
      · rename_i h2
        exact txR_le (hre_lt (by omega) h2)
      · split
        · exact h1
        · exact h1
theorem if_lt {c : Prop} [Decidable c] {a b : oA3} (h1 : a.1 < 4) (h2 : b.1 < 4) : (if c then a else b).1 < 4 := by
  split
  · exact h1
  · exact h2
theorem oOrd_lt {N : nT} {nm nr nb : Nat} {o : orT} : (oOrd N nm nr nb o).1 < 4 := by
  unfold oOrd oCoal oBronze oMould oRack oPour oPass oTake oRecast
  repeat' (first | exact (by omega : (0 : Nat) < 4) | exact (by omega : (1 : Nat) < 4) | exact (by omega : (2 : Nat) < 4) | refine if_lt ?_ ?_)
section OE
variable {E : fT} {N : nT}

theorem oe_coal (hE : cpl E N.g) (iE : fI E) (v w : Nat) (h : (oCoal N (nI v)).1 = 0) : ∃ E', cpl E' (oCoal N (nI v)).2.2.g ∧ fI E' := by
  have h8 := iE.2.2.1.1
  have h4 := iE.2.2.2.1.1
  have h12 := iE.2.2.2.2.1
  have e0 : N.g 0 = E.h := hE.1.1
  have e1 : N.g 1 = E.p := hE.1.2.1
  have q := z_if h (by show ¬ (1 : Nat) = 0; omega)
  have eo9 : oCoal N (nI v) = (0, mni (nI 1400) (N.g 0 + nI 30 * nI v), (N.kps N.g).s_g (upd (upd N.g 0 (mni (nI 1400) (N.g 0 + nI 30 * nI v))) 7 (N.g 7 + nI v))) := by
    unfold oCoal
    rw [if_pos q]
  rw [eo9]
  exact ⟨_, (lc_coal hE iE q).1, (lc_coal hE iE q).2⟩

theorem oe_bronze (hE : cpl E N.g) (iE : fI E) (v w : Nat) (h : (oBronze N (nI v)).1 = 0) : ∃ E', cpl E' (oBronze N (nI v)).2.2.g ∧ fI E' := by
  have h8 := iE.2.2.1.1
  have h4 := iE.2.2.2.1.1
  have h12 := iE.2.2.2.2.1
  have e0 : N.g 0 = E.h := hE.1.1
  have e1 : N.g 1 = E.p := hE.1.2.1
  have q := z_if h (by show ¬ (1 : Nat) = 0; omega)
  have q2 : E.p + nI v ≤ nI 2000 := by
    unfold oBronze at h
    rw [if_pos q] at h
    rw [← e1]
    exact z_if h (by show ¬ (2 : Nat) = 0; omega)
  have eo9 : oBronze N (nI v) = (0, N.g 1 + nI v, (N.kps N.g).s_g (upd (upd N.g 1 (N.g 1 + nI v)) 5 (N.g 5 + nI v))) := by
    unfold oBronze
    rw [if_pos q, if_pos (by rw [e1]; exact q2)]
  rw [eo9]
  exact ⟨_, (lc_bronze hE iE q q2).1, (lc_bronze hE iE q q2).2⟩

theorem oe_mould (hE : cpl E N.g) (iE : fI E) (v w : Nat) (h : (oMould N E.M.1 (nI v) (nI w)).1 = 0) : ∃ E', cpl E' (oMould N E.M.1 (nI v) (nI w)).2.2.g ∧ fI E' := by
  have h8 := iE.2.2.1.1
  have h4 := iE.2.2.2.1.1
  have h12 := iE.2.2.2.2.1
  have e0 : N.g 0 = E.h := hE.1.1
  have e1 : N.g 1 = E.p := hE.1.2.1
  have q := z_if h (by show ¬ (1 : Nat) = 0; omega)
  have q2 : E.M.1 < 8 := by
    unfold oMould at h
    rw [if_pos q] at h
    have := z_ifn h (by show ¬ (2 : Nat) = 0; omega)
    omega
  have eo9 : oMould N E.M.1 (nI v) (nI w) = (0, nI E.M.1, (N.kps N.g).s_g (upd (upd (upd N.g (10 + 2 * E.M.1) (nI v)) (10 + 2 * E.M.1 + 1) (nI w)) 2 (nI (E.M.1 + 1)))) := by
    unfold oMould
    rw [if_pos q, if_neg (by omega)]
  rw [eo9]
  exact ⟨_, (lc_mould hE iE q.1 q.2 q2).1, (lc_mould hE iE q.1 q.2 q2).2⟩

theorem oe_rack (hE : cpl E N.g) (iE : fI E) (v w : Nat) (h : (oRack N E.R.1 (nI v)).1 = 0) : ∃ E', cpl E' (oRack N E.R.1 (nI v)).2.2.g ∧ fI E' := by
  have h8 := iE.2.2.1.1
  have h4 := iE.2.2.2.1.1
  have h12 := iE.2.2.2.2.1
  have e0 : N.g 0 = E.h := hE.1.1
  have e1 : N.g 1 = E.p := hE.1.2.1
  have q := z_if h (by show ¬ (1 : Nat) = 0; omega)
  have q2 : E.R.1 < 4 := by
    unfold oRack at h
    rw [if_pos q] at h
    have := z_ifn h (by show ¬ (2 : Nat) = 0; omega)
    omega
  have eo9 : oRack N E.R.1 (nI v) = (0, nI E.R.1, (N.kps N.g).s_g (upd (upd N.g (26 + E.R.1) (nI v)) 3 (nI (E.R.1 + 1)))) := by
    unfold oRack
    rw [if_pos q, if_neg (by omega)]
  rw [eo9]
  exact ⟨_, (lc_rack hE iE q q2).1, (lc_rack hE iE q q2).2⟩

theorem oe_pour (hE : cpl E N.g) (iE : fI E) (v w : Nat) (h : (oPour N E.M.1 E.R.1 E.B.1 (nI v) (nI w)).1 = 0) : ∃ E', cpl E' (oPour N E.M.1 E.R.1 E.B.1 (nI v) (nI w)).2.2.g ∧ fI E' := by
  have h8 := iE.2.2.1.1
  have h4 := iE.2.2.2.1.1
  have h12 := iE.2.2.2.2.1
  have e0 : N.g 0 = E.h := hE.1.1
  have e1 : N.g 1 = E.p := hE.1.2.1
  have q := z_if h (by show ¬ (1 : Nat) = 0; omega)
  obtain ⟨i, hi, ei⟩ := hasD_P q.1
  obtain ⟨j, hj, ej⟩ := hasD_P q.2
  rw [ei, ej] at q h ⊢
  have eN : (nI i).toNatClampNeg = i := nI_clamp (by omega)
  have eo : ∀ z, gon N.g z E.B.1 = E.on z := fun z => gon_B hE.2.2.2 z
  have ec : N.g (10 + 2 * i) = E.m i 0 := hE.2.1 i 0 hi (by omega)
  have h3 : E.on (nI j) ≤ 3 := iE.2.2.2.2.2.2 j hj
  unfold oPour at h
  rw [if_pos q] at h
  have q2 := z_ifn h (by show ¬ (2 : Nat) = 0; omega)
  rw [if_neg q2] at h
  have q3 := z_ifn h (by show ¬ (2 : Nat) = 0; omega)
  rw [if_neg q3] at h
  have q4 := z_if h (by show ¬ (2 : Nat) = 0; omega)
  rw [if_pos q4] at h
  have q5 := z_if h (by show ¬ (2 : Nat) = 0; omega)
  have eo9 : oPour N E.M.1 E.R.1 E.B.1 (nI i) (nI j) = (0, nI E.B.1, (N.kps N.g).s_g (gpou N.g E.B.1 i E.M.1 (nI j))) := by
    unfold oPour
    rw [if_pos q, if_neg q2, if_neg q3, if_pos q4, if_pos q5, eN]
  rw [eo] at q3
  rw [eN, ec] at q4 q5
  rw [e1] at q4
  rw [e0] at q5
  rw [eo9]
  exact ⟨_, (lc_pour hE iE hi hj (by omega) q3 q4 q5).1, (lc_pour hE iE hi hj (by omega) q3 q4 q5).2⟩

theorem oe_pass (hE : cpl E N.g) (iE : fI E) (v w : Nat) (h : (oPass N E.B.1 (nI v)).1 = 0) : ∃ E', cpl E' (oPass N E.B.1 (nI v)).2.2.g ∧ fI E' := by
  have h8 := iE.2.2.1.1
  have h4 := iE.2.2.2.1.1
  have h12 := iE.2.2.2.2.1
  have e0 : N.g 0 = E.h := hE.1.1
  have e1 : N.g 1 = E.p := hE.1.2.1
  have q := z_if h (by show ¬ (1 : Nat) = 0; omega)
  obtain ⟨k, z1, z2, ek⟩ := btw (by omega) (by omega) q
  rw [ek] at q ⊢
  have eo9 : oPass N E.B.1 (nI k) = (0, psC N.g E.B.1 k, (N.kps N.g).s_g (psG N.g E.B.1 k)) := by
    unfold oPass
    rw [if_pos q, nI_clamp (by omega)]
  have l := lc_pass hE iE z2
  rw [eo9]
  exact ⟨_, (And.intro l.1 l.2.1).1, (And.intro l.1 l.2.1).2⟩

theorem oe_take (hE : cpl E N.g) (iE : fI E) (v w : Nat) (h : (oTake N E.B.1 (nI v)).1 = 0) : ∃ E', cpl E' (oTake N E.B.1 (nI v)).2.2.g ∧ fI E' := by
  have h8 := iE.2.2.1.1
  have h4 := iE.2.2.2.1.1
  have h12 := iE.2.2.2.2.1
  have e0 : N.g 0 = E.h := hE.1.1
  have e1 : N.g 1 = E.p := hE.1.2.1
  have q := z_if h (by show ¬ (1 : Nat) = 0; omega)
  obtain ⟨i, hi, ei⟩ := hasD_P q
  rw [ei] at q h ⊢
  have eN : (nI i).toNatClampNeg = i := nI_clamp (by omega)
  have e3 : N.b i 3 = E.b i 3 := b_of hE hi (by omega)
  have e4 : N.b i 4 = E.b i 4 := b_of hE hi (by omega)
  have e5 : E.b i 3 < nI 0 ↔ E.b i 3 = -1 := hall_lt (rk4 iE hi)
  unfold oTake at h
  rw [if_pos q] at h
  have q2 := z_ifn h (by show ¬ (2 : Nat) = 0; omega)
  rw [if_neg q2] at h
  have q3 := z_if h (by show ¬ (2 : Nat) = 0; omega)
  have eo9 : oTake N E.B.1 (nI i) = (0, N.b i 3, (N.kps N.g).s_g (upd N.g (30 + 7 * i + 3) (-1))) := by
    unfold oTake
    rw [if_pos q, if_neg q2, if_pos q3, eN]
  rw [eN, e4] at q3
  rw [eo9]
  exact ⟨_, (lc_take hE iE hi q3).1, (lc_take hE iE hi q3).2⟩

theorem oe_recast (hE : cpl E N.g) (iE : fI E) (v w : Nat) (h : (oRecast N E.B.1 (nI v)).1 = 0) : ∃ E', cpl E' (oRecast N E.B.1 (nI v)).2.2.g ∧ fI E' := by
  have h8 := iE.2.2.1.1
  have h4 := iE.2.2.2.1.1
  have h12 := iE.2.2.2.2.1
  have e0 : N.g 0 = E.h := hE.1.1
  have e1 : N.g 1 = E.p := hE.1.2.1
  have q := z_if h (by show ¬ (1 : Nat) = 0; omega)
  obtain ⟨i, hi, ei⟩ := hasD_P q
  rw [ei] at q h ⊢
  have eN : (nI i).toNatClampNeg = i := nI_clamp (by omega)
  have e3 : N.b i 3 = E.b i 3 := b_of hE hi (by omega)
  have e4 : N.b i 4 = E.b i 4 := b_of hE hi (by omega)
  have e5 : E.b i 3 < nI 0 ↔ E.b i 3 = -1 := hall_lt (rk4 iE hi)
  obtain ⟨_, _, _, _, _, _, _, _, ek, ek2, _⟩ := gbk_F hE iE hi
  have e6 : gbk N.g i = E.back i := ek.trans ek2.symm
  unfold oRecast at h
  rw [if_pos q] at h
  have q2 := z_if h (by show ¬ (2 : Nat) = 0; omega)
  rw [if_pos q2] at h
  have q3 := z_if h (by show ¬ (2 : Nat) = 0; omega)
  have eo9 : oRecast N E.B.1 (nI i) = (0, gbk N.g i, (N.kps N.g).s_g (grec N.g i E.B.1)) := by
    unfold oRecast
    rw [if_pos q, if_pos q2, if_pos q3, eN]
  rw [eN, e6, e1] at q3
  rw [eo9]
  exact ⟨_, (lc_recast hE iE hi q3).1, (lc_recast hE iE hi q3).2⟩

theorem oe_ord (hE : cpl E N.g) (iE : fI E) (k : Int32) (v w : Nat) (hk : isKd k) (h : (oOrd N E.M.1 E.R.1 E.B.1 (k, v, w)).1 = 0) : ∃ E', cpl E' (oOrd N E.M.1 E.R.1 E.B.1 (k, v, w)).2.2.g ∧ fI E' := by
  rcases hk with rfl | rfl | rfl | rfl | rfl | rfl | rfl | rfl
  · rw [oOrd_coal] at h ⊢; exact oe_coal hE iE v w h
  · rw [oOrd_bronze] at h ⊢; exact oe_bronze hE iE v w h
  · rw [oOrd_mould] at h ⊢; exact oe_mould hE iE v w h
  · rw [oOrd_rack] at h ⊢; exact oe_rack hE iE v w h
  · rw [oOrd_pour] at h ⊢; exact oe_pour hE iE v w h
  · rw [oOrd_pass] at h ⊢; exact oe_pass hE iE v w h
  · rw [oOrd_take] at h ⊢; exact oe_take hE iE v w h
  · rw [oOrd_recast] at h ⊢; exact oe_recast hE iE v w h
end OE
/-- the reference's state behind the orders -/
noncomputable def rnF : nT → List orT → nT
  | N, [] => N
  | N, o :: L => if (oOrd N (N.g 2).toNatClampNeg (N.g 3).toNatClampNeg (N.g 4).toNatClampNeg o).1 = 0 then rnF (oOrd N (N.g 2).toNatClampNeg (N.g 3).toNatClampNeg (N.g 4).toNatClampNeg o).2.2 L else (oOrd N (N.g 2).toNatClampNeg (N.g 3).toNatClampNeg (N.g 4).toNatClampNeg o).2.2
theorem cpl_n {E : fT} {g : Nat → Int32} (h : cpl E g) (i : fI E) : (g 2).toNatClampNeg = E.M.1 ∧ (g 3).toNatClampNeg = E.R.1 ∧ (g 4).toNatClampNeg = E.B.1 := by
  obtain ⟨⟨a0, a1, a2, a3, a4, _⟩, _⟩ := h
  have h1 := i.2.2.1.1
  have h2 := i.2.2.2.1.1
  have h3 := i.2.2.2.2.1
  rw [a2, a3, a4]
  exact ⟨nI_clamp (by omega), nI_clamp (by omega), nI_clamp (by omega)⟩
theorem rnF_0 {E : fT} {N : nT} (h : cpl E N.g) (i : fI E) {o : orT} {L : List orT} (h0 : (oOrd N E.M.1 E.R.1 E.B.1 o).1 = 0) : rnF N (o :: L) = rnF (oOrd N E.M.1 E.R.1 E.B.1 o).2.2 L := by
  obtain ⟨e1, e2, e3⟩ := cpl_n h i
  rw [rnF, e1, e2, e3, if_pos h0]
theorem rnF_1 {E : fT} {N : nT} (h : cpl E N.g) (i : fI E) {o : orT} {L : List orT} (h0 : ¬ (oOrd N E.M.1 E.R.1 E.B.1 o).1 = 0) : rnF N (o :: L) = (oOrd N E.M.1 E.R.1 E.B.1 o).2.2 := by
  obtain ⟨e1, e2, e3⟩ := cpl_n h i
  rw [rnF, e1, e2, e3, if_neg h0]
/-- what a run keeps, order by order -/
def Jr (N : nT) (nm nr nb : Nat) : Prop := ∃ E, cpl E N.g ∧ fI E ∧ N.iW = nI 1 ∧ (∃ c, c ≤ 8 ∧ N.ch = nI c) ∧ nm = E.M.1 ∧ nr = E.R.1 ∧ nb = E.B.1
theorem Jr_ok {N : nT} {nm nr nb : Nat} (h : Jr N nm nr nb) : N.ok nm nr nb := by
  obtain ⟨E, h1, h2, h3, h4, rfl, rfl, rfl⟩ := h
  obtain ⟨a0, a1, a2, a3, a4, _⟩ := h1.1
  exact ⟨⟨Or.inl h3, h4⟩, a2, h2.2.2.1.1, a3, h2.2.2.2.1.1, ⟨a4, h2.2.2.2.2.1⟩, gK_F h1 h2, gC_F h1 h2⟩
theorem sOrd_kd {N N' : nT} {nm nr nb : Nat} {o : orT} (h : sOrd N nm nr nb o N') : isKd o.1 := by
  unfold isKd
  rcases h with ⟨e, _⟩ | ⟨e, _⟩ | ⟨e, _⟩ | ⟨e, _⟩ | ⟨e, _⟩ | ⟨e, _⟩ | ⟨e, _⟩ | ⟨e, _⟩
  · exact Or.inl e
  · exact Or.inr (Or.inl e)
  · exact Or.inr (Or.inr (Or.inl e))
  · exact Or.inr (Or.inr (Or.inr (Or.inl e)))
  · exact Or.inr (Or.inr (Or.inr (Or.inr (Or.inl e))))
  · exact Or.inr (Or.inr (Or.inr (Or.inr (Or.inr (Or.inl e)))))
  · exact Or.inr (Or.inr (Or.inr (Or.inr (Or.inr (Or.inr (Or.inl e))))))
  · exact Or.inr (Or.inr (Or.inr (Or.inr (Or.inr (Or.inr (Or.inr e))))))
theorem Jr_s {N N' : nT} {nm nr nb : Nat} {o : orT} (h : Jr N nm nr nb) (hs : sOrd N nm nr nb o N') (h0 : N'.co = nI 0) : ∃ nm nr nb, Jr N' nm nr nb := by
  obtain ⟨E, h1, h2, h3, h4, rfl, rfl, rfl⟩ := h
  have b1 := h2.2.2.1.1
  have b2 := h2.2.2.2.1.1
  have b3 := h2.2.2.2.2.1
  obtain ⟨e1, e2⟩ := sOrd_o (by omega) (by omega) (by omega) hs
  have e3 := oOrd_lt (N := N) (nm := E.M.1) (nr := E.R.1) (nb := E.B.1) (o := o)
  have e4 : (oOrd N E.M.1 E.R.1 E.B.1 o).1 = 0 := by
    rw [h0, nI_eq (by omega) (by omega)] at e2
    exact e2.symm
  have hk := sOrd_kd hs
  obtain ⟨_, _, _, k4, _, _, _, _, _, _, k5⟩ := sOrd_k hs
  obtain ⟨k, v, w⟩ := o
  obtain ⟨E', q1, q2⟩ := oe_ord h1 h2 k v w hk e4
  rw [← e1] at q1
  exact ⟨_, _, _, E', q1, q2, k4.trans h3, by rw [(k5 h3).2]; exact h4, rfl, rfl, rfl⟩
theorem mRun_f : ∀ {L : List orT} {N N' : nT}, mRun Jr N L N' → N' = rnF N L
  | [], N, N', h => h
  | o :: L, N, N', h => by
    obtain ⟨nm, nr, nb, N1, ⟨E, h1, h2, h3, h4, rfl, rfl, rfl⟩, hs, h5⟩ := h
    have b1 := h2.2.2.1.1
    have b2 := h2.2.2.2.1.1
    have b3 := h2.2.2.2.2.1
    obtain ⟨e1, e2⟩ := sOrd_o (by omega) (by omega) (by omega) hs
    have e3 := oOrd_lt (N := N) (nm := E.M.1) (nr := E.R.1) (nb := E.B.1) (o := o)
    rcases h5 with ⟨h5, h6⟩ | ⟨h5, rfl⟩
    · have e4 : (oOrd N E.M.1 E.R.1 E.B.1 o).1 = 0 := by
        rw [h5, nI_eq (by omega) (by omega)] at e2
        exact e2.symm
      rw [rnF_0 h1 h2 e4, ← e1]
      exact mRun_f h6
    · have e4 : ¬ (oOrd N E.M.1 E.R.1 E.B.1 o).1 = 0 := fun z => h5 (by rw [e2, z])
      rw [rnF_1 h1 h2 e4]
      exact e1
