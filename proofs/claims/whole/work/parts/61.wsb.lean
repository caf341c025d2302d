/-! ===== the builder in the class's whole world ===== -/
set_option maxRecDepth 20000 in
theorem Spec.frs {G : gT} {d mc ms : Nat} {y : m0T} {as as0 : List Value} {w w0 : xW} {K K0 : Option Value → xW → Prop} {KX : Nat → xW → Prop} (p : List Nat) (h : Spec G d mc ms y as0 w0 K0 NX) (hn : va_nd p = true) (hs : selW p (lenL w) w p w0) (ha : as = renVs p (lenL w) as0)
    (hK : ∀ v w', K0 v w' → K (renO p (lenL w) v) (plgs p (renW p (lenL w) w') w)) : Spec G d mc ms y as w K KX :=
  Spec.fr p h hn hs ha (fun v w' k => by
    have := hK v w' k
    rw [plgs_eq] at this
    exact this) (fun _ _ h => h.elim)
theorem nth_end {α : Type} {x : α} : ∀ {l : List α}, nth (l ++ [x]) (lenL l) = some x
  | [] => rfl
  | _ :: l => nth_end (l := l)
theorem nth_app {α : Type} {x : α} {m : List α} : ∀ {l : List α} {k : Nat}, nth l k = some x → nth (l ++ m) k = some x
  | [], k, h => by cases k <;> cases h
  | a :: l, 0, h => h
  | a :: l, k + 1, h => nth_app (l := l) (k := k) h
theorem nth_st {α : Type} {x y : α} : ∀ {l : List α} {k : Nat}, nth l k = some x → nth (stN l k y) k = some y
  | [], k, h => by cases k <;> cases h
  | a :: l, 0, h => rfl
  | a :: l, k + 1, h => nth_st (l := l) (k := k) h
theorem nth_st2 {α : Type} {y : α} : ∀ {l : List α} {k j : Nat}, j ≠ k → nth (stN l k y) j = nth l j
  | [], k, j, h => rfl
  | a :: l, 0, 0, h => absurd rfl h
  | a :: l, 0, j + 1, h => rfl
  | a :: l, k + 1, 0, h => rfl
  | a :: l, k + 1, j + 1, h => nth_st2 (l := l) (k := k) (j := j) (by omega)
theorem st_same {α : Type} {x : α} : ∀ {l : List α} {k : Nat}, nth l k = some x → stN l k x = l
  | [], k, h => rfl
  | a :: l, 0, h => by cases h; rfl
  | a :: l, k + 1, h => by rw [stN, st_same (l := l) (k := k) h]
theorem dig_lt (z : Nat) (hz : z < 128) : ∀ c ∈ dig z, c < 128 := by
  intro c hc
  unfold dig at hc
  simp only [List.mem_append] at hc
  rcases hc with h | h | h
  · split at h
    · rw [List.mem_singleton.mp h]; omega
    · cases h
  · split at h
    · rw [List.mem_singleton.mp h]; omega
    · cases h
  · rw [List.mem_singleton.mp h]; omega
def nB (e : va_E) : Prop := ∀ f, ¬ e = .inl (3, 34, .inl f)
/-- the tail changes in the builder's bytes alone -/
def tpr (t t' : xW) : Prop := ∀ j e, nth t j = some e → nB e → nth t' j = some e
theorem tpr.rf {t : xW} : tpr t t := fun _ _ h _ => h
theorem tpr.tr {a b c : xW} (h : tpr a b) (h2 : tpr b c) : tpr a c := fun j e q n => h2 j e (h j e q n) n
theorem tpr.app {t m : xW} : tpr t (t ++ m) := fun _ _ h _ => nth_app h
theorem tpr.st {t : xW} {k : Nat} {f g : Nat → Int32} (h : nth t k = some (.inl (3, 34, .inl f))) : tpr t (stN t k (.inl (3, 34, .inl g))) := fun j e q n => by
  by_cases hj : j = k
  · subst hj
    rw [h] at q
    cases q
    exact absurd rfl (n f)
  · rw [nth_st2 hj]
    exact q
def sbS (S : sT4) (t : xW) (n : Nat) (f : Nat → Int32) : Prop := S.2.1 = n ∧ fby f ∧ fby S.2.2.2 ∧ ((S.1 = 30 ∧ n ≤ 16 ∧ f = S.2.2.2) ∨ (∃ k, S.1 = k + 31 ∧ nth t k = some (.inl (3, 34, .inl f)) ∧ n ≤ 34))
/-- the signs l stand behind the first n -/
def aft (f f' : Nat → Int32) (n : Nat) (l : List Nat) : Prop := ∀ i, i < n + l.length → f' i = wrl f n l i
theorem wrl_lo {f : Nat → Int32} : ∀ {l : List Nat} {n i : Nat}, i < n → wrl f n l i = f i
  | [], n, i, h => rfl
  | c :: l, n, i, h => by
    show wrl (upd f n (nI c)) (n + 1) l i = f i
    rw [wrl_lo (by omega), upd_ne (by omega)]
theorem wrl_cg {f g : Nat → Int32} : ∀ {l : List Nat} {n : Nat}, (∀ i, i < n → f i = g i) → ∀ i, i < n + l.length → wrl f n l i = wrl g n l i
  | [], n, h, i, hi => h i hi
  | c :: l, n, h, i, hi => by
    refine wrl_cg (l := l) (n := n + 1) (fun j hj => ?_) i (by simp at hi; omega)
    by_cases hjn : j = n
    · subst hjn
      rw [upd_eq, upd_eq]
    · rw [upd_ne hjn, upd_ne hjn]
      exact h j (by omega)
theorem cpy_lo {f : Nat → Int32} {i : Nat} (h : i < 16) : cpy16 f i = f i := by
  unfold cpy16 va_cpy
  rw [if_pos (by omega)]
  congr 1
  omega
theorem fby_cpy {f : Nat → Int32} (h : fby f) : fby (cpy16 f) := fun i => by
  unfold cpy16 va_cpy
  split
  · exact h _
  · exact ⟨0, by omega, nI_0.symm⟩
theorem nd2 {a b : Nat} (h : a ≠ b) : va_nd [a, b] = true := by
  simp [va_nd, h]
section SB
variable {G : gT} {F E : fT} {H : hT} {r : Int32 × Int32} {X : xT} {ht : Nat → Int32} {P : pT7} {sd : Value} {er : Int32} {t : xW}
set_option maxRecDepth 20000 in
theorem wb_app (hg : gOK G) (S : sT4) (n c : Nat) (f : Nat → Int32) (hS : sbS S t n f) (hn : n + 1 ≤ 34) (hc : c < 128) : Spec G 8 1 34 m_J4_append_cf468 [.ref 29, .int (nI c)] (ww F E H r X ht P S sd er t) (fun v w' => v = some (.ref 29) ∧ ∃ S' t' f', w' = ww F E H r X ht P S' sd er t' ∧ sbS S' t' (n + 1) f' ∧ aft f f' n [c] ∧ tpr t t') NX := by
  obtain ⟨s0, s1, ml, f0⟩ := S
  obtain ⟨h1, hf, hf0, h2⟩ := hS
  simp only at h1 h2 hf0
  subst h1
  rcases h2 with ⟨rfl, h3, rfl⟩ | ⟨k, rfl, h3, h4⟩
  · rcases Nat.lt_or_ge s1 16 with q | q
    · refine Spec.frs [29, 30] (sb_app8 hg f s1 16 c ml q (by omega) hc) (by decide) (by repeat' (first | exact trivial | refine And.intro ?_ ?_ | rfl)) rfl ?_
      rintro _ _ ⟨rfl, rfl⟩
      exact ⟨rfl, (30, s1 + 1, ml, upd f s1 (nI c)), t, _, rfl, ⟨rfl, fby_w hf hc, fby_w hf hc, Or.inl ⟨rfl, by omega, rfl⟩⟩, fun i hi => rfl, tpr.rf⟩
    · have : s1 = 16 := by omega
      subst this
      refine Spec.frs [29, 30] (sb_appG hg f hf c ml hc) (by decide) (by repeat' (first | exact trivial | refine And.intro ?_ ?_ | rfl)) rfl ?_
      rintro _ _ ⟨rfl, rfl⟩
      refine ⟨rfl, (lenL t + 31, 17, ml, f), t ++ [.inl (3, 34, .inl (upd (cpy16 f) 16 (nI c)))], _, rfl, ⟨rfl, fby_w (fby_cpy hf) hc, hf, Or.inr ⟨_, rfl, nth_end, by omega⟩⟩, fun i hi => ?_, tpr.app⟩
      refine wrl_cg (l := [c]) (n := 16) (fun j hj => cpy_lo hj) i hi
  · refine Spec.frs [29, k + 31] (sb_app8 hg f s1 34 c ml (by omega) (by omega) hc) (nd2 (by omega)) ⟨rfl, h3, trivial⟩ rfl ?_
    rintro _ _ ⟨rfl, rfl⟩
    exact ⟨rfl, (k + 31, s1 + 1, ml, f0), stN t k (.inl (3, 34, .inl (upd f s1 (nI c)))), _, rfl, ⟨rfl, fby_w hf hc, hf0, Or.inr ⟨k, rfl, nth_st h3, by omega⟩⟩, fun i hi => rfl, tpr.st h3⟩
set_option maxRecDepth 20000 in
theorem wb_appI (hg : gOK G) (S : sT4) (n z : Nat) (f : Nat → Int32) (hS : sbS S t n f) (hn : n + (dig z).length ≤ 34) (hz : z < 128) : Spec G 8 1 34 m_J4_append_bf812 [.ref 29, .int (nI z)] (ww F E H r X ht P S sd er t) (fun v w' => v = some (.ref 29) ∧ ∃ S' t' f', w' = ww F E H r X ht P S' sd er t' ∧ sbS S' t' (n + (dig z).length) f' ∧ aft f f' n (dig z) ∧ tpr t t') NX := by
  obtain ⟨s0, s1, ml, f0⟩ := S
  obtain ⟨h1, hf, hf0, h2⟩ := hS
  simp only at h1 h2 hf0
  subst h1
  have el := dig_lenE z hz
  rw [el] at hn
  have hl : ∀ c ∈ dig z, c < 128 := dig_lt z hz
  rcases h2 with ⟨rfl, h3, rfl⟩ | ⟨k, rfl, h3, h4⟩
  · rcases Nat.lt_or_ge 16 (s1 + dgn z) with q | q
    · refine Spec.frs [29, 30] (sb_appIG hg f hf s1 z ml hz h3 q) (by decide) (by repeat' (first | exact trivial | refine And.intro ?_ ?_ | rfl)) rfl ?_
      rintro _ _ ⟨rfl, rfl⟩
      refine ⟨rfl, (lenL t + 31, s1 + dgn z, ml, f), t ++ [.inl (3, 34, .inl (wrl (cpy16 f) s1 (dig z)))], _, rfl, ⟨by rw [el], fby_l (fby_cpy hf) hl, hf, Or.inr ⟨_, rfl, nth_end, by rw [el]; omega⟩⟩, fun i hi => ?_, tpr.app⟩
      refine wrl_cg (fun j hj => cpy_lo (by omega)) i hi
    · refine Spec.frs [29, 30] (sb_appIJ hg f s1 16 z ml hz q (by omega)) (by decide) (by repeat' (first | exact trivial | refine And.intro ?_ ?_ | rfl)) rfl ?_
      rintro _ _ ⟨rfl, rfl⟩
      exact ⟨rfl, (30, s1 + dgn z, ml, wrl f s1 (dig z)), t, _, rfl, ⟨by rw [el], fby_l hf hl, fby_l hf hl, Or.inl ⟨rfl, by rw [el]; omega, rfl⟩⟩, fun i hi => rfl, tpr.rf⟩
  · refine Spec.frs [29, k + 31] (sb_appIJ hg f s1 34 z ml hz (by omega) (by omega)) (nd2 (by omega)) ⟨rfl, h3, trivial⟩ rfl ?_
    rintro _ _ ⟨rfl, rfl⟩
    exact ⟨rfl, (k + 31, s1 + dgn z, ml, f0), stN t k (.inl (3, 34, .inl (wrl f s1 (dig z)))), _, rfl, ⟨by rw [el], fby_l hf hl, hf0, Or.inr ⟨k, rfl, nth_st h3, by rw [el]; omega⟩⟩, fun i hi => rfl, tpr.st h3⟩
set_option maxRecDepth 20000 in
theorem wb_set (hg : gOK G) (S : sT4) (n : Nat) (f : Nat → Int32) (hS : sbS S t n f) : Spec G 4 0 0 m_J4_setLength_d00df [.ref 29, .int (nI 0)] (ww F E H r X ht P S sd er t) (fun v w' => v = none ∧ ∃ S', w' = ww F E H r X ht P S' sd er t ∧ sbS S' t 0 f) NX := by
  obtain ⟨s0, s1, ml, f0⟩ := S
  obtain ⟨h1, hf, hf0, h2⟩ := hS
  simp only at h1 h2 hf0
  subst h1
  rcases h2 with ⟨rfl, h3, rfl⟩ | ⟨k, rfl, h3, h4⟩
  · refine Spec.frs [29, 30] (sb_set hg f s1 16 ml h3 (by omega)) (by decide) (by repeat' (first | exact trivial | refine And.intro ?_ ?_ | rfl)) rfl ?_
    rintro _ _ ⟨rfl, ml', rfl⟩
    exact ⟨rfl, (30, 0, ml', f), rfl, rfl, hf, hf, Or.inl ⟨rfl, by omega, rfl⟩⟩
  · refine Spec.frs [29, k + 31] (sb_set hg f s1 34 ml h4 (by omega)) (nd2 (by omega)) ⟨rfl, h3, trivial⟩ rfl ?_
    rintro _ _ ⟨rfl, ml', rfl⟩
    refine ⟨rfl, (k + 31, 0, ml', f0), ?_, rfl, hf, hf0, Or.inr ⟨k, rfl, h3, by omega⟩⟩
    show ww F E H r X ht P (k + 31, 0, ml', f0) sd er (stN t k (.inl (3, 34, .inl f))) = _
    rw [st_same h3]
set_option maxRecDepth 20000 in
theorem wb_len (hg : gOK G) (S : sT4) (n : Nat) (f : Nat → Int32) (hS : sbS S t n f) : Spec G 2 0 0 m_J4_length_8abf5 [.ref 29] (ww F E H r X ht P S sd er t) (fun v w' => v = some (.int (nI n)) ∧ w' = ww F E H r X ht P S sd er t) NX := by
  obtain ⟨s0, s1, ml, f0⟩ := S
  obtain ⟨h1, hf, hf0, h2⟩ := hS
  simp only at h1 h2 hf0
  subst h1
  rcases h2 with ⟨rfl, h3, rfl⟩ | ⟨k, rfl, h3, h4⟩
  · refine Spec.frs [29, 30] (sb_len hg f s1 16 ml) (by decide) (by repeat' (first | exact trivial | refine And.intro ?_ ?_ | rfl)) rfl ?_
    rintro _ _ ⟨rfl, rfl⟩
    exact ⟨rfl, rfl⟩
  · refine Spec.frs [29, k + 31] (sb_len hg f s1 34 ml) (nd2 (by omega)) ⟨rfl, h3, trivial⟩ rfl ?_
    rintro _ _ ⟨rfl, rfl⟩
    refine ⟨rfl, ?_⟩
    show ww F E H r X ht P (k + 31, s1, ml, f0) sd er (stN t k (.inl (3, 34, .inl f))) = _
    rw [st_same h3]
set_option maxRecDepth 20000 in
theorem wb_at (hg : gOK G) (S : sT4) (n i z : Nat) (f : Nat → Int32) (hS : sbS S t n f) (hi : i < n) (hz : z < 128) (hfi : f i = nI z) : Spec G 4 0 0 m_J4_charAt_5068e [.ref 29, .int (nI i)] (ww F E H r X ht P S sd er t) (fun v w' => v = some (.int (nI z)) ∧ w' = ww F E H r X ht P S sd er t) NX := by
  obtain ⟨s0, s1, ml, f0⟩ := S
  obtain ⟨h1, hf, hf0, h2⟩ := hS
  simp only at h1 h2 hf0
  subst h1
  rcases h2 with ⟨rfl, h3, rfl⟩ | ⟨k, rfl, h3, h4⟩
  · refine Spec.frs [29, 30] (sbb_at hg f s1 16 i z ml hi h3 (by omega) hz hfi) (by decide) (by repeat' (first | exact trivial | refine And.intro ?_ ?_ | rfl)) rfl ?_
    rintro _ _ ⟨rfl, rfl⟩
    exact ⟨rfl, rfl⟩
  · refine Spec.frs [29, k + 31] (sbb_at hg f s1 34 i z ml hi h4 (by omega) hz hfi) (nd2 (by omega)) ⟨rfl, h3, trivial⟩ rfl ?_
    rintro _ _ ⟨rfl, rfl⟩
    refine ⟨rfl, ?_⟩
    show ww F E H r X ht P (k + 31, s1, ml, f0) sd er (stN t k (.inl (3, 34, .inl f))) = _
    rw [st_same h3]
end SB
