/-! ===== class and reference: what stands between two calls ===== -/
def keep11 (t t' : xW) : Prop := ∀ j e, j < 11 → nth t j = some e → nB e → nth t' j = some e
theorem keep11.rf {t : xW} : keep11 t t := fun _ _ _ h _ => h
theorem keep11.tr {a b c : xW} (h : keep11 a b) (h2 : keep11 b c) : keep11 a c := fun j e q n z => h2 j e q (h j e q n z) z
theorem keep11.tq {t t' : xW} (h : tq t t') : keep11 t t' := fun j e q n _ => h j e n (Or.inl q)
theorem keep11.tp {t t' : xW} (h : tpr t t') : keep11 t t' := fun j e _ n z => h j e n z
def lnI (S : sT4) (t : xW) (N : nT) : Prop := ∃ n f, sbS S t n f ∧ N.sm = nI n ∧ n ≤ 34 ∧ ∀ i, i < n → ∃ z, z < 128 ∧ f i = nI z ∧ N.sn i = nI z
def cV (F E : fT) (H : hT) (r : Int32 × Int32) (X : xT) (S : sT4) (sd : Value) (er : Int32) (t : xW) (N : nT) : Prop :=
  (cpl F N.g ∧ fI F ∧ fB E) ∧ (hC H sd t N ∧ N.iW = nI 0) ∧ (r.1 = N.wy ∧ r.2 = N.de) ∧ (X.2.2.1 = N.ip ∧ X.2.2.2.1 ≤ 60 ∧ N.ln = nI X.2.2.2.1) ∧ er = N.er ∧ lnI S t N ∧ ∃ e, nth t 10 = some e ∧ nB e
section CI
variable {F E : fT} {H : hT} {r : Int32 × Int32} {X : xT} {S : sT4} {sd : Value} {er : Int32} {t : xW} {N : nT}
theorem cV.len (I : cV F E H r X S sd er t N) : 11 ≤ lenL t := by
  obtain ⟨_, _, _, _, _, _, e, h, _⟩ := I
  exact nth_len h
theorem lnI.tq (h : lnI S t N) {t' : xW} (q : tq t t') {N' : nT} (h1 : N'.sm = N.sm) (h2 : N'.sn = N.sn) : lnI S t' N' := by
  obtain ⟨n, f, h3, h4, h5, h6⟩ := h
  exact ⟨n, f, sbS_tq h3 q, h1.trans h4, h5, by rw [h2]; exact h6⟩
theorem cV.cK (I : cV F E H r X S sd er t N) : N.cK := by
  obtain ⟨_, ⟨⟨c, kf, DF, b, hs⟩, hw⟩, _⟩ := I
  exact ⟨Or.inr hw, H.2.1, hs.1.1.2.1, hs.2.1⟩
theorem cV.nb (I : cV F E H r X S sd er t N) : N.nb F.B.1 := ⟨I.1.1.1.2.2.2.2.1, I.1.2.1.2.2.2.2.1⟩
theorem cV.nm (I : cV F E H r X S sd er t N) : N.g 2 = nI F.M.1 ∧ F.M.1 ≤ 8 := ⟨I.1.1.1.2.2.1, I.1.2.1.2.2.1.1⟩
theorem cV.nr (I : cV F E H r X S sd er t N) : N.g 3 = nI F.R.1 ∧ F.R.1 ≤ 4 := ⟨I.1.1.1.2.2.2.1, I.1.2.1.2.2.2.1.1⟩
theorem cV_ch (I : cV F E H r X S sd er t N) {F' : fT} {g' : Nat → Int32} {H' : hT} {t' : xW} (h1 : cpl F' g' ∧ fI F') (h3 : hC H' sd t' (N.kps N.g)) (q : tq t t') : cV F' E H' r X S sd er t' ((N.kps N.g).s_g g') := by
  obtain ⟨⟨a1, a2, a3⟩, ⟨b1, b2⟩, c, d, e, f, z, z1, z2⟩ := I
  exact ⟨⟨h1.1, h1.2, a3⟩, ⟨h3, b2⟩, c, d, e, f.tq q rfl rfl, z, q _ _ z1 (Or.inl (by omega)), z2⟩
theorem cV_co (I : cV F E H r X S sd er t N) (k : Int32) : cV F E H r X S sd er t (N.s_co k) := by
  obtain ⟨⟨a1, a2, a3⟩, ⟨b1, b2⟩, c, d, e, f, z⟩ := I
  exact ⟨⟨a1, a2, a3⟩, ⟨b1, b2⟩, c, d, e, f.tq tq.rf rfl rfl, z⟩
theorem cV_ref (I : cV F E H r X S sd er t N) (k a b : Int32) : cV F E H (a, b) X S sd er t (N.ref k a b) := by
  obtain ⟨⟨a1, a2, a3⟩, ⟨b1, b2⟩, c, d, e, f, z⟩ := I
  exact ⟨⟨a1, a2, a3⟩, ⟨b1, b2⟩, ⟨rfl, rfl⟩, d, e, f.tq tq.rf rfl rfl, z⟩
end CI
/-- the world after a call of the class, if the reference then stands so -/
def cEnd (t : xW) (N : nT) (w' : xW) : Prop := ∃ F E H r X ht P S sd er t', w' = ww F E H r X ht P S sd er t' ∧ cV F E H r X S sd er t' N ∧ keep11 t t'
abbrev oA3 : Type := Nat × Int32 × nT
/-- the reference's answer -/
def ansR (o : oA3) (v : Option Value) (w' : xW) : Prop := o.2.2.co = nI o.1 ∧ w' = mw o.2.2 ∧ ∃ b, v = some (.int b) ∧ (o.1 = 0 → b = o.2.1)
/-- the class's answer -/
def ansC (t : xW) (o : oA3) (v : Option Value) (w' : xW) : Prop := ∃ y N1, o = (0, y, N1) ∧ v = some (.int y) ∧ cEnd t N1 w'
def excC (t : xW) (hs : List (Nat × Int32)) (o : oA3) (x : Nat) (w' : xW) : Prop := ∃ k y N1, o = (k + 1, y, N1) ∧ hsF hs x = some (nI (k + 1)) ∧ cEnd t N1 w'
theorem ansR_y {o : oA3} {k : Nat} {y : Int32} {N1 : nT} (h : o = (k, y, N1)) (hk : N1.co = nI k) : ansR o (some (.int y)) (mw N1) := by
  subst h
  exact ⟨hk, rfl, y, rfl, fun _ => rfl⟩
theorem ansR_n {o : oA3} {k : Nat} {y b : Int32} {N1 : nT} (h : o = (k + 1, y, N1)) (hk : N1.co = nI (k + 1)) : ansR o (some (.int b)) (mw N1) := by
  subst h
  exact ⟨hk, rfl, b, rfl, fun z => absurd z (by omega)⟩
abbrev hasD (x : Int32) (n : Nat) : Prop := x.toNatClampNeg < n ∧ x = nI x.toNatClampNeg
theorem hasD_P {x : Int32} {n : Nat} (h : hasD x n) : hasP x n := ⟨_, h.1, h.2⟩
theorem hasD_i {i n : Nat} (h : i < n) (hn : n < 2 ^ 31) : hasD (nI i) n := by
  unfold hasD
  rw [nI_clamp (by omega)]
  exact ⟨h, rfl⟩
theorem hasP_D {x : Int32} {n : Nat} (h : hasP x n) (hn : n < 2 ^ 31) : hasD x n := by
  obtain ⟨i, hi, rfl⟩ := h
  exact hasD_i hi hn
def oCoal (N : nT) (x : Int32) : oA3 := if nI 1 ≤ x ∧ x ≤ nI 20 then (0, mni (nI 1400) (N.g 0 + nI 30 * x), (N.kps N.g).s_g (upd (upd N.g 0 (mni (nI 1400) (N.g 0 + nI 30 * x))) 7 (N.g 7 + x))) else (1, 0, N.s_co (nI 1))
def oBronze (N : nT) (x : Int32) : oA3 := if nI 1 ≤ x ∧ x ≤ nI 500 then (if N.g 1 + x ≤ nI 2000 then (0, N.g 1 + x, (N.kps N.g).s_g (upd (upd N.g 1 (N.g 1 + x)) 5 (N.g 5 + x))) else (2, 0, N.ref (nI 2) (nI 1) (nI 2000))) else (1, 0, N.s_co (nI 1))
def oMould (N : nT) (n : Nat) (x y : Int32) : oA3 := if (nI 10 ≤ x ∧ x ≤ nI 60) ∧ (nI 0 ≤ y ∧ y ≤ nI 4) then (if n = 8 then (2, 0, N.ref (nI 2) (nI 1) (nI 8)) else (0, nI n, (N.kps N.g).s_g (upd (upd (upd N.g (10 + 2 * n) x) (10 + 2 * n + 1) y) 2 (nI (n + 1))))) else (1, 0, N.s_co (nI 1))
def oSmash (N : nT) (n : Nat) (x : Int32) : oA3 := if hasD x n then (0, nI (n - 1), (N.kps N.g).s_g (gbrk N.g x.toNatClampNeg n)) else (1, 0, N.s_co (nI 1))
def oRack (N : nT) (n : Nat) (x : Int32) : oA3 := if nI 1 ≤ x ∧ x ≤ nI 9 then (if n = 4 then (2, 0, N.ref (nI 2) (nI 1) (nI 4)) else (0, nI n, (N.kps N.g).s_g (upd (upd N.g (26 + n) x) 3 (nI (n + 1))))) else (1, 0, N.s_co (nI 1))
def oStrike (N : nT) (n nb : Nat) (x : Int32) : oA3 := if hasD x n then (if gon N.g x nb = 0 then (0, nI (n - 1), (N.kps N.g).s_g (gst (gstr N.g x.toNatClampNeg n) x nb)) else (2, 0, N.ref (nI 2) (nI 6) (nI (gon N.g x nb)))) else (1, 0, N.s_co (nI 1))
def oTake (N : nT) (nb : Nat) (x : Int32) : oA3 := if hasD x nb then (if N.b x.toNatClampNeg 3 < nI 0 then (2, 0, N.ref (nI 2) (nI 5) (-1)) else if N.b x.toNatClampNeg 4 ≤ nI 0 then (0, N.b x.toNatClampNeg 3, (N.kps N.g).s_g (upd N.g (30 + 7 * x.toNatClampNeg + 3) (-1))) else (2, 0, N.ref (nI 2) (nI 4) (N.b x.toNatClampNeg 4))) else (1, 0, N.s_co (nI 1))
def oRing (N : nT) (nb : Nat) (x : Int32) : oA3 := if hasD x nb then (if N.b x.toNatClampNeg 3 < nI 0 then (0, gnote N.g x.toNatClampNeg, (N.kps N.g).s_g (if nI 2 ≤ N.b x.toNatClampNeg 5 ∧ N.b x.toNatClampNeg 5 ≤ nI 8 then upd N.g (30 + 7 * x.toNatClampNeg + 5) (N.b x.toNatClampNeg 5 + nI 1) else N.g)) else (2, 0, N.ref (nI 2) (nI 5) (N.b x.toNatClampNeg 3))) else (1, 0, N.s_co (nI 1))
def oFile (N : nT) (nb : Nat) (x y : Int32) : oA3 := if hasD x nb then (if nI 1 ≤ y ∧ y ≤ nI 6 then (if N.b x.toNatClampNeg 3 < nI 0 then (if N.b x.toNatClampNeg 6 + y ≤ nI 6 then (0, gnote (upd N.g (30 + 7 * x.toNatClampNeg + 6) (N.b x.toNatClampNeg 6 + y)) x.toNatClampNeg, (N.kps N.g).s_g (upd N.g (30 + 7 * x.toNatClampNeg + 6) (N.b x.toNatClampNeg 6 + y))) else (3, 0, N.ref (nI 3) (nI 7) (N.b x.toNatClampNeg 6))) else (3, 0, N.ref (nI 3) (nI 5) (N.b x.toNatClampNeg 3))) else (2, 0, N.s_co (nI 2))) else (1, 0, N.s_co (nI 1))
def oRecast (N : nT) (nb : Nat) (x : Int32) : oA3 := if hasD x nb then (if N.b x.toNatClampNeg 3 < nI 0 then (if N.g 1 + gbk N.g x.toNatClampNeg ≤ nI 2000 then (0, gbk N.g x.toNatClampNeg, (N.kps N.g).s_g (grec N.g x.toNatClampNeg nb)) else (2, 0, N.ref (nI 2) (nI 1) (nI 2000))) else (2, 0, N.ref (nI 2) (nI 5) (N.b x.toNatClampNeg 3))) else (1, 0, N.s_co (nI 1))
def oPass (N : nT) (nb : Nat) (x : Int32) : oA3 := if nI 1 ≤ x ∧ x ≤ nI 48 then (0, psC N.g nb x.toNatClampNeg, (N.kps N.g).s_g (psG N.g nb x.toNatClampNeg)) else (1, 0, N.s_co (nI 1))
def oPour (N : nT) (nm nr nb : Nat) (x y : Int32) : oA3 := if hasD x nm ∧ hasD y nr then (if nb = 12 then (2, 0, N.ref (nI 2) (nI 1) (nI 12)) else if gon N.g y nb = 3 then (2, 0, N.ref (nI 2) (nI 1) (nI 3)) else if nI 5 * N.g (10 + 2 * x.toNatClampNeg) + nI 10 ≤ N.g 1 then (if nI 700 + nI 8 * N.g (10 + 2 * x.toNatClampNeg) ≤ N.g 0 then (0, nI nb, (N.kps N.g).s_g (gpou N.g nb x.toNatClampNeg nm y)) else (2, 0, N.ref (nI 2) (nI 3) (nI 700 + nI 8 * N.g (10 + 2 * x.toNatClampNeg) - N.g 0))) else (2, 0, N.ref (nI 2) (nI 2) (nI 5 * N.g (10 + 2 * x.toNatClampNeg) + nI 10 - N.g 1))) else (1, 0, N.s_co (nI 1))
section RR
variable {G : gT}
set_option maxRecDepth 20000 in
theorem r_coal (hg : gOK G) (N : nT) (hc : N.cK) (x : Int32) : Spec G 3 0 0 m_X9_coal [.ref 0, .int x] (mw N) (ansR (oCoal N x)) NX := by
  refine Spec.mono (mo_coal hg N hc x) ?_ (fun _ _ h => h)
  rintro v w' (⟨h, rfl, b, rfl⟩ | ⟨h, rfl, rfl⟩)
  · exact ansR_n (if_neg h) rfl
  · exact ansR_y (if_pos h) rfl
set_option maxRecDepth 20000 in
theorem r_bronze (hg : gOK G) (N : nT) (hc : N.cK) (x : Int32) : Spec G 3 0 0 m_X9_bronze [.ref 0, .int x] (mw N) (ansR (oBronze N x)) NX := by
  refine Spec.mono (mo_bronze hg N hc x) ?_ (fun _ _ h => h)
  unfold oBronze
  rintro v w' (⟨h, rfl, b, rfl⟩ | ⟨h, h2, rfl, b, rfl⟩ | ⟨h, h2, rfl, rfl⟩)
  · exact ansR_n (if_neg h) rfl
  · rw [if_pos h]
    exact ansR_n (if_neg h2) rfl
  · rw [if_pos h]
    exact ansR_y (if_pos h2) rfl
set_option maxRecDepth 20000 in
theorem r_mould (hg : gOK G) (N : nT) (hc : N.cK) (n : Nat) (hn : N.g 2 = nI n) (hn8 : n ≤ 8) (x y : Int32) : Spec G 3 0 0 m_X9_mould [.ref 0, .int x, .int y] (mw N) (ansR (oMould N n x y)) NX := by
  refine Spec.mono (mo_mould hg N hc n hn hn8 x y) ?_ (fun _ _ h => h)
  unfold oMould
  rintro v w' (⟨h, rfl, b, rfl⟩ | ⟨h, h2, rfl, b, rfl⟩ | ⟨h, h2, rfl, rfl⟩)
  · exact ansR_n (if_neg h) rfl
  · rw [if_pos h]
    exact ansR_n (if_pos h2) rfl
  · rw [if_pos h]
    exact ansR_y (if_neg (by omega)) rfl
set_option maxRecDepth 20000 in
theorem r_smash (hg : gOK G) (N : nT) (hc : N.cK) (n : Nat) (hn : N.g 2 = nI n) (hn8 : n ≤ 8) (x : Int32) : Spec G 3 0 0 m_X9_smash [.ref 0, .int x] (mw N) (ansR (oSmash N n x)) NX := by
  refine Spec.mono (mo_smash hg N hc n hn hn8 x) ?_ (fun _ _ h => h)
  rintro v w' (⟨h, rfl, b, rfl⟩ | ⟨i, hi, rfl, rfl, rfl⟩)
  · exact ansR_n (if_neg (fun z => h (hasD_P z))) rfl
  · have e : (nI i).toNatClampNeg = i := nI_clamp (by omega)
    refine ansR_y ((if_pos (hasD_i hi (by omega))).trans ?_) rfl
    rw [e]
    rfl
set_option maxRecDepth 20000 in
theorem r_rack (hg : gOK G) (N : nT) (hc : N.cK) (n : Nat) (hn : N.g 3 = nI n) (hn8 : n ≤ 4) (x : Int32) : Spec G 3 0 0 m_X9_rack [.ref 0, .int x] (mw N) (ansR (oRack N n x)) NX := by
  refine Spec.mono (mo_rack hg N hc n hn hn8 x) ?_ (fun _ _ h => h)
  unfold oRack
  rintro v w' (⟨h, rfl, b, rfl⟩ | ⟨h, h2, rfl, b, rfl⟩ | ⟨h, h2, rfl, rfl⟩)
  · exact ansR_n (if_neg h) rfl
  · rw [if_pos h]
    exact ansR_n (if_pos h2) rfl
  · rw [if_pos h]
    exact ansR_y (if_neg (by omega)) rfl
set_option maxRecDepth 20000 in
theorem r_strike (hg : gOK G) (N : nT) (hc : N.cK) (n nb : Nat) (hn : N.g 3 = nI n) (hn4 : n ≤ 4) (hb : N.nb nb) (x : Int32) : Spec G 3 0 0 m_X9_strike [.ref 0, .int x] (mw N) (ansR (oStrike N n nb x)) NX := by
  refine Spec.mono (mo_strike hg N hc n nb hn hn4 hb x) ?_ (fun _ _ h => h)
  unfold oStrike
  rintro v w' (⟨h, rfl, b, rfl⟩ | ⟨i, hi, rfl, h2, rfl, b, rfl⟩ | ⟨i, hi, rfl, h2, rfl, rfl⟩)
  · exact ansR_n (if_neg (fun z => h (hasD_P z))) rfl
  · rw [if_pos (hasD_i hi (by omega))]
    exact ansR_n (if_neg (by omega)) rfl
  · have e : (nI i).toNatClampNeg = i := nI_clamp (by omega)
    rw [if_pos (hasD_i hi (by omega)), e]
    exact ansR_y (if_pos h2) rfl
set_option maxRecDepth 20000 in
theorem r_take (hg : gOK G) (N : nT) (hc : N.cK) (nb : Nat) (hb : N.nb nb) (x : Int32) : Spec G 3 0 0 m_X9_take [.ref 0, .int x] (mw N) (ansR (oTake N nb x)) NX := by
  have hb2 := hb.2
  refine Spec.mono (mo_take hg N hc nb hb x) ?_ (fun _ _ h => h)
  unfold oTake
  rintro v w' (⟨h, rfl, b, rfl⟩ | ⟨i, hi, rfl, h2, rfl, b, rfl⟩ | ⟨i, hi, rfl, h2, h3, rfl, b, rfl⟩ | ⟨i, hi, rfl, h2, h3, rfl, rfl⟩)
  · exact ansR_n (if_neg (fun z => h (hasD_P z))) rfl
  · rw [if_pos (hasD_i hi (by omega)), show (nI i).toNatClampNeg = i from nI_clamp (by omega)]
    exact ansR_n (if_pos h2) rfl
  · rw [if_pos (hasD_i hi (by omega)), show (nI i).toNatClampNeg = i from nI_clamp (by omega), if_neg h2]
    exact ansR_n (if_neg h3) rfl
  · rw [if_pos (hasD_i hi (by omega)), show (nI i).toNatClampNeg = i from nI_clamp (by omega), if_neg h2]
    exact ansR_y (if_pos h3) rfl
set_option maxRecDepth 20000 in
theorem r_ring (hg : gOK G) (N : nT) (hc : N.cK) (nb : Nat) (hb : N.nb nb) (x : Int32) : Spec G 3 0 0 m_X9_ring [.ref 0, .int x] (mw N) (ansR (oRing N nb x)) NX := by
  have hb2 := hb.2
  refine Spec.mono (mo_ring hg N hc nb hb x) ?_ (fun _ _ h => h)
  unfold oRing
  rintro v w' (⟨h, rfl, b, rfl⟩ | ⟨i, hi, rfl, h2, rfl, b, rfl⟩ | ⟨i, hi, rfl, h2, rfl, ⟨h3, rfl⟩ | ⟨h3, rfl⟩⟩)
  · exact ansR_n (if_neg (fun z => h (hasD_P z))) rfl
  · rw [if_pos (hasD_i hi (by omega)), show (nI i).toNatClampNeg = i from nI_clamp (by omega)]
    exact ansR_n (if_neg h2) rfl
  · rw [if_pos (hasD_i hi (by omega)), show (nI i).toNatClampNeg = i from nI_clamp (by omega), if_pos h3]
    exact ansR_y (if_pos h2) rfl
  · rw [if_pos (hasD_i hi (by omega)), show (nI i).toNatClampNeg = i from nI_clamp (by omega), if_neg h3]
    exact ansR_y (if_pos h2) rfl
set_option maxRecDepth 20000 in
theorem r_file (hg : gOK G) (N : nT) (hc : N.cK) (nb : Nat) (hb : N.nb nb) (x y : Int32) : Spec G 3 0 0 m_X9_file [.ref 0, .int x, .int y] (mw N) (ansR (oFile N nb x y)) NX := by
  have hb2 := hb.2
  refine Spec.mono (mo_file hg N hc nb hb x y) ?_ (fun _ _ h => h)
  unfold oFile
  rintro v w' (⟨h, rfl, b, rfl⟩ | ⟨h, h2, rfl, b, rfl⟩ | ⟨i, hi, rfl, h2, h3, rfl, b, rfl⟩ | ⟨i, hi, rfl, h2, h3, h4, rfl, b, rfl⟩ | ⟨i, hi, rfl, h2, h3, h4, rfl, rfl⟩)
  · exact ansR_n (if_neg (fun z => h (hasD_P z))) rfl
  · rw [if_pos (hasP_D h (by omega))]
    exact ansR_n (if_neg h2) rfl
  · rw [if_pos (hasD_i hi (by omega)), if_pos h2, show (nI i).toNatClampNeg = i from nI_clamp (by omega)]
    exact ansR_n (if_neg h3) rfl
  · rw [if_pos (hasD_i hi (by omega)), if_pos h2, show (nI i).toNatClampNeg = i from nI_clamp (by omega), if_pos h3]
    exact ansR_n (if_neg h4) rfl
  · rw [if_pos (hasD_i hi (by omega)), if_pos h2, show (nI i).toNatClampNeg = i from nI_clamp (by omega), if_pos h3]
    exact ansR_y (if_pos h4) rfl
set_option maxRecDepth 20000 in
theorem r_recast (hg : gOK G) (N : nT) (hc : N.cK) (nb : Nat) (hb : N.nb nb) (x : Int32) : Spec G 3 0 0 m_X9_recast [.ref 0, .int x] (mw N) (ansR (oRecast N nb x)) NX := by
  have hb2 := hb.2
  refine Spec.mono (mo_recast hg N hc nb hb x) ?_ (fun _ _ h => h)
  unfold oRecast
  rintro v w' (⟨h, rfl, b, rfl⟩ | ⟨i, hi, rfl, h2, rfl, b, rfl⟩ | ⟨i, hi, rfl, h2, h3, rfl, b, rfl⟩ | ⟨i, hi, rfl, h2, h3, rfl, rfl⟩)
  · exact ansR_n (if_neg (fun z => h (hasD_P z))) rfl
  · rw [if_pos (hasD_i hi (by omega)), show (nI i).toNatClampNeg = i from nI_clamp (by omega)]
    exact ansR_n (if_neg h2) rfl
  · rw [if_pos (hasD_i hi (by omega)), show (nI i).toNatClampNeg = i from nI_clamp (by omega), if_pos h2]
    exact ansR_n (if_neg h3) rfl
  · rw [if_pos (hasD_i hi (by omega)), show (nI i).toNatClampNeg = i from nI_clamp (by omega), if_pos h2]
    exact ansR_y (if_pos h3) rfl
set_option maxRecDepth 20000 in
theorem r_pass (hg : gOK G) (N : nT) (n : Nat) (hn : N.nb n) (hc : N.cK) (hK3 : gK N.g n) (hC : gC N.g n) (x : Int32) : Spec G 6 0 0 m_X9_pass [.ref 0, .int x] (mw N) (ansR (oPass N n x)) NX := by
  refine Spec.mono (md_pass hg N n hn hc hK3 hC x) ?_ (fun _ _ h => h)
  unfold oPass
  rintro v w' (⟨h, rfl, b, rfl⟩ | ⟨t, t1, t2, rfl, rfl, rfl⟩)
  · exact ansR_n (if_neg h) rfl
  · rw [show (nI t).toNatClampNeg = t from nI_clamp (by omega)]
    exact ansR_y (if_pos (btw' (by omega) t1 t2)) rfl
set_option maxRecDepth 20000 in
theorem r_pour (hg : gOK G) (N : nT) (hc : N.cK) (nm nr nb : Nat) (hm : N.g 2 = nI nm) (hm8 : nm ≤ 8) (hr : N.g 3 = nI nr) (hr4 : nr ≤ 4) (hb : N.nb nb) (x y : Int32) : Spec G 3 0 0 m_X9_pour [.ref 0, .int x, .int y] (mw N) (ansR (oPour N nm nr nb x y)) NX := by
  refine Spec.mono (mo_pour hg N hc nm nr nb hm hm8 hr hr4 hb x y) ?_ (fun _ _ h => h)
  unfold oPour
  rintro v w' (⟨h, rfl, b, rfl⟩ | ⟨i, hi, rfl, hy, h⟩)
  · exact ansR_n (if_neg (fun z => h ⟨hasD_P z.1, hasD_P z.2⟩)) rfl
  · rw [if_pos ⟨hasD_i hi (by omega), hasP_D hy (by omega)⟩, show (nI i).toNatClampNeg = i from nI_clamp (by omega)]
    rcases h with ⟨h1, rfl, b, rfl⟩ | ⟨h1, h2, rfl, b, rfl⟩ | ⟨h1, h2, h3, rfl, b, rfl⟩ | ⟨h1, h2, h3, h4, rfl, b, rfl⟩ | ⟨h1, h2, h3, h4, rfl, rfl⟩
    · exact ansR_n (if_pos h1) rfl
    · rw [if_neg (by omega)]
      exact ansR_n (if_pos h2) rfl
    · rw [if_neg (by omega), if_neg h2]
      exact ansR_n (if_neg h3) rfl
    · rw [if_neg (by omega), if_neg h2, if_pos h3]
      exact ansR_n (if_neg h4) rfl
    · rw [if_neg (by omega), if_neg h2, if_pos h3]
      exact ansR_y (if_pos h4) rfl
end RR
