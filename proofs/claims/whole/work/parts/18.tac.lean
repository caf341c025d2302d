/-! ===== contracts by computation; calls ===== -/
def cat1 : List Value → Bool
  | [] => true
  | .long _ :: _ => false
  | .double _ :: _ => false
  | _ :: l => cat1 l
theorem cat1_ok : ∀ {l : List Value}, cat1 l = true → ∀ v ∈ l, v.category = 1
  | [], _, v, h => by cases h
  | x :: l, h, v, hv => by
    rcases List.mem_cons.mp hv with rfl | hv
    · cases v <;> first | rfl | cases h
    · refine cat1_ok ?_ v hv
      cases x <;> first | exact h | cases h
abbrev NX : Nat → xW → Prop := fun _ _ => False
section TC
variable {G : gT} {M : mT} {d d' bc bs mc ms n : Nat} {as as0 : List Value} {w w0 : xW} {K K0 : Option Value → xW → Prop} {KX KX0 : Nat → xW → Prop} {Kc : Nat → Nat → Option Value → xW → Prop} {KXc : Nat → xW → Prop} {m : m0T}
theorem wp_spec (hg : gOK G) (hm : mOK M) (cut : Nat → Option (List Bool)) (n : Nat) (hcat : cat1 as = true) (hlen : Nat.ble (lenL as) M.m.nL = true) (h : wp G M cut d K KX n mc ms 0 (entL as M.m.nL) [] w) : Spec G d mc ms M.m as w K KX :=
  spec_of hg hm (cat1_ok hcat) (by rw [← lenL_eq]; exact Nat.le_of_ble_eq_true hlen) (wp_ok hg hm cut n _ _ _ _ _ _ h)
theorem cc_fr (p : List Nat) (h : Spec G d' mc ms m as0 w0 K0 KX0) (hd : d' < d) (hc : mc ≤ bc) (hs : ms ≤ bs) (hn : va_nd p = true) (hsel : selW p (lenL w) w p w0) (ha : as = renVs p (lenL w) as0)
    (hK : ∀ v w', K0 v w' → Kc (bc - mc) (bs - ms) (renO p (lenL w) v) (plg p (renW p (lenL w) w') w)) (hX : ∀ x w', KX0 x w' → KXc x (plg p (renW p (lenL w) w') w)) : CallC G d bc bs m as w Kc KXc :=
  ⟨d', mc, ms, hd, hc, hs, Spec.fr p h hn hsel ha hK hX⟩
theorem cc0 (p : List Nat) (h : Spec G d' mc ms m as0 w0 K0 NX) (hd : d' < d) (hc : mc ≤ bc) (hs : ms ≤ bs) (hn : va_nd p = true) (hsel : selW p (lenL w) w p w0) (ha : as = renVs p (lenL w) as0)
    (hK : ∀ v w', K0 v w' → Kc (bc - mc) (bs - ms) (renO p (lenL w) v) (plg p (renW p (lenL w) w') w)) : CallC G d bc bs m as w Kc KXc :=
  cc_fr p h hd hc hs hn hsel ha hK (fun _ _ h => h.elim)
theorem Spec.mono (h : Spec G d mc ms m as w K0 KX0) (hK : ∀ v w', K0 v w' → K v w') (hX : ∀ x w', KX0 x w' → KX x w') : Spec G d mc ms m as w K KX := by
  intro ad ws sz ca h1 h2 p9 e ha9 hc hk s m args below hf happ hP hKK
  obtain ⟨n, o, g1, g2, g3, g4⟩ := h ad ws sz ca h1 h2 p9 e ha9 hc hk s m args below hf happ hP hKK
  refine ⟨n, o, g1, g2, g3, ?_⟩
  rcases g4 with ⟨⟨v, c, w', ad', ho, hv, hKv, hE⟩, L, hF, hL⟩ | ⟨q, ho, E, ce, L, ⟨x, w', ad', hEx, hKx, hE⟩, t⟩
  · exact Or.inl ⟨⟨v, c, w', ad', ho, hv, hK _ _ hKv, hE⟩, L, hF, hL⟩
  · exact Or.inr ⟨q, ho, E, ce, L, ⟨x, w', ad', hEx, hX _ _ hKx, hE⟩, t⟩
/-- no cut -/
abbrev cut0 : Nat → Option (List Bool) := fun _ => none
end TC
/-! numbers -/
theorem vinI {a N : Nat} (h : a < 2 ^ 31) : vp_in (nI a) N ↔ a < N := by
  unfold vp_in
  rw [nI_clamp h]
  have := nI_pos h
  constructor
  · intro q; exact Nat.lt_of_not_le fun z => q (Or.inr z)
  · rintro q (z | z)
    · exact this z
    · omega
theorem iK0 : Int32.ofInt 0 = nI 0 := by decide
theorem iK1 : Int32.ofInt 1 = nI 1 := by decide
theorem iK2 : Int32.ofInt 2 = nI 2 := by decide
theorem iK3 : Int32.ofInt 3 = nI 3 := by decide
theorem iK4 : Int32.ofInt 4 = nI 4 := by decide
theorem iK5 : Int32.ofInt 5 = nI 5 := by decide
theorem iKm1 : Int32.ofInt (-1) = -1 := by decide
theorem bK6 : (Int8.ofInt 6).toInt32 = nI 6 := by decide
theorem bK7 : (Int8.ofInt 7).toInt32 = nI 7 := by decide
theorem bK8 : (Int8.ofInt 8).toInt32 = nI 8 := by decide
theorem bK9 : (Int8.ofInt 9).toInt32 = nI 9 := by decide
theorem bK10 : (Int8.ofInt 10).toInt32 = nI 10 := by decide
theorem bK12 : (Int8.ofInt 12).toInt32 = nI 12 := by decide
theorem bK14 : (Int8.ofInt 14).toInt32 = nI 14 := by decide
theorem bK15 : (Int8.ofInt 15).toInt32 = nI 15 := by decide
theorem bK16 : (Int8.ofInt 16).toInt32 = nI 16 := by decide
theorem bK20 : (Int8.ofInt 20).toInt32 = nI 20 := by decide
theorem bK21 : (Int8.ofInt 21).toInt32 = nI 21 := by decide
theorem bK26 : (Int8.ofInt 26).toInt32 = nI 26 := by decide
theorem bK30 : (Int8.ofInt 30).toInt32 = nI 30 := by decide
theorem bK32 : (Int8.ofInt 32).toInt32 = nI 32 := by decide
theorem bK33 : (Int8.ofInt 33).toInt32 = nI 33 := by decide
theorem bK45 : (Int8.ofInt 45).toInt32 = nI 45 := by decide
theorem bK48 : (Int8.ofInt 48).toInt32 = nI 48 := by decide
theorem bK57 : (Int8.ofInt 57).toInt32 = nI 57 := by decide
theorem bK59 : (Int8.ofInt 59).toInt32 = nI 59 := by decide
theorem bK60 : (Int8.ofInt 60).toInt32 = nI 60 := by decide
theorem bK62 : (Int8.ofInt 62).toInt32 = nI 62 := by decide
theorem bK63 : (Int8.ofInt 63).toInt32 = nI 63 := by decide
theorem bK64 : (Int8.ofInt 64).toInt32 = nI 64 := by decide
theorem bK80 : (Int8.ofInt 80).toInt32 = nI 80 := by decide
theorem bK93 : (Int8.ofInt 93).toInt32 = nI 93 := by decide
theorem bK98 : (Int8.ofInt 98).toInt32 = nI 98 := by decide
theorem bK99 : (Int8.ofInt 99).toInt32 = nI 99 := by decide
theorem bK100 : (Int8.ofInt 100).toInt32 = nI 100 := by decide
theorem bK104 : (Int8.ofInt 104).toInt32 = nI 104 := by decide
theorem bK107 : (Int8.ofInt 107).toInt32 = nI 107 := by decide
theorem bK109 : (Int8.ofInt 109).toInt32 = nI 109 := by decide
theorem bK110 : (Int8.ofInt 110).toInt32 = nI 110 := by decide
theorem bK112 : (Int8.ofInt 112).toInt32 = nI 112 := by decide
theorem bK113 : (Int8.ofInt 113).toInt32 = nI 113 := by decide
theorem bK114 : (Int8.ofInt 114).toInt32 = nI 114 := by decide
theorem bK115 : (Int8.ofInt 115).toInt32 = nI 115 := by decide
theorem bK116 : (Int8.ofInt 116).toInt32 = nI 116 := by decide
theorem bK119 : (Int8.ofInt 119).toInt32 = nI 119 := by decide
theorem sK255 : (Int16.ofInt 255).toInt32 = nI 255 := by decide
theorem sK256 : (Int16.ofInt 256).toInt32 = nI 256 := by decide
theorem sK500 : (Int16.ofInt 500).toInt32 = nI 500 := by decide
theorem sK700 : (Int16.ofInt 700).toInt32 = nI 700 := by decide
theorem sK798 : (Int16.ofInt 798).toInt32 = nI 798 := by decide
theorem sK912 : (Int16.ofInt 912).toInt32 = nI 912 := by decide
theorem sK1400 : (Int16.ofInt 1400).toInt32 = nI 1400 := by decide
theorem sK2000 : (Int16.ofInt 2000).toInt32 = nI 2000 := by decide
def hasP (x : Int32) (n : Nat) : Prop := ∃ i, i < n ∧ x = nI i
theorem hasP_of {x : Int32} {n : Nat} (h1 : ¬ x < 0) (h2 : x < nI n) (hn : n < 2 ^ 31) : hasP x n := by
  obtain ⟨j, hj, rfl⟩ := nI_of h1
  exact ⟨j, (nI_ltI hj hn).mp h2, rfl⟩
theorem hasP_no1 {x : Int32} {n : Nat} (h1 : x < 0) (hn : n < 2 ^ 31) : ¬ hasP x n := by
  rintro ⟨i, hi, rfl⟩
  exact nI_pos (by omega) h1
theorem hasP_no2 {x : Int32} {n : Nat} (h1 : nI n ≤ x) (hn : n < 2 ^ 31) : ¬ hasP x n := by
  rintro ⟨i, hi, rfl⟩
  have := (nI_leI hn (by omega)).mp h1
  omega
theorem rc_lt {i j R W : Nat} (hi : i < R) (hj : j < W) : i * W + j < R * W := by
  have : (i + 1) * W ≤ R * W := Nat.mul_le_mul_right W hi
  rw [Nat.succ_mul] at this
  omega
theorem rc_le {n R W : Nat} (h : n ≤ R) : n * W ≤ R * W := Nat.mul_le_mul_right W h
theorem AW.cg {G : gT} {M : mT} {d bc bs pc bc' bs' pc' : Nat} {ls ls' : List (Option Value)} {st st' : List Value} {w w' : xW} {K : Option Value → xW → Prop} {KX : Nat → xW → Prop} (h : AW G M d bc bs pc ls st w K KX) (h0 : bc = bc') (h1 : bs = bs') (h2 : pc = pc') (h3 : ls = ls') (h4 : st = st') (h5 : w = w') : AW G M d bc' bs' pc' ls' st' w' K KX := by
  subst h0 h1 h2 h3 h4 h5
  exact h
theorem clr_i {x : Int32} : clr (some (.int x)) = some (.int x) := rfl
theorem clr_r {x : Nat} : clr (some (.ref x)) = some (.ref x) := rfl
