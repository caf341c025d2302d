/-! ===== the abstract machine: a world is a list of cells, a reference is a place in it; .retAddr j is the j-th thing of the start (a static array, a constant, the script) ===== -/
abbrev gT : Type := Launch × State × (Array Value × va_G) × List (ClassId × FieldType) × (Nat → Value) × Nat × (Nat → Int32)
abbrev gT.l (G : gT) : Launch := G.1
abbrev gT.s0 (G : gT) : State := G.2.1
abbrev gT.a0 (G : gT) : Array Value := G.2.2.1.1
abbrev gT.D (G : gT) : va_G := G.2.2.1.2
abbrev gT.tys (G : gT) : List (ClassId × FieldType) := G.2.2.2.1
abbrev gT.sad (G : gT) : Nat → Value := G.2.2.2.2.1
abbrev gT.L (G : gT) : Nat := G.2.2.2.2.2.1
abbrev gT.xs (G : gT) : Nat → Int32 := G.2.2.2.2.2.2
abbrev gT.bs (G : gT) : Nat := G.s0.heap.size
abbrev xW : Type := List va_E
def rV (G : gT) (ad : List Nat) (v c : Value) : Prop := match v with
  | .ref k => ∃ a, ad[k]? = some a ∧ c = .ref a
  | .retAddr j => c = G.sad j
  | v => c = v
def rVs (G : gT) (ad : List Nat) : List Value → List Value → Prop
  | [], cs => cs = []
  | v :: vs, cs => ∃ c cs', cs = c :: cs' ∧ rV G ad v c ∧ rVs G ad vs cs'
def rR (ad : List Nat) (f : Nat → Option Nat) (g : Nat → Option Nat) : Prop := ∀ i : Nat, match f i with
  | none => g i = none
  | some k => ∃ a, ad[k]? = some a ∧ g i = some a
def rA (ad : List Nat) (d d' : vp_A) : Prop := match d.2 with
  | .inr (.inr (.inr (.inr f))) => ∃ g, d' = (d.1, .inr (.inr (.inr (.inr g)))) ∧ rR ad f g
  | _ => d' = d
def rE (G : gT) (ad : List Nat) (e e' : va_E) : Prop := match e with
  | .inl (t, d) => ∃ q d', G.tys[t]? = some q ∧ e' = .inl (q.1, d') ∧ rA ad d d'
  | .inr (ci, fs) => ∃ fs', e' = .inr (ci, fs') ∧ rVs G ad fs fs'
def rW (G : gT) (ad : List Nat) (w : xW) (ws : va_W) : Prop := ad.length = w.length ∧ ws.length = w.length ∧
  ∀ (i : Nat) (e : va_E), w[i]? = some e → ∃ a e', ad[i]? = some a ∧ ws[i]? = some (a, e') ∧ rE G ad e e'
def rO (G : gT) (ad : List Nat) (v c : Option Value) : Prop := match v with
  | none => c = none
  | some v => ∃ c', c = some c' ∧ rV G ad v c'
/-- the locals that are known -/
def rL (G : gT) (ad : List Nat) (ls : List (Option Value)) (lc : Array Slot) (nL : Nat) : Prop := lc.size = nL ∧ lv_wf lc ∧ ∀ (i : Nat) (v : Value), ls[i]? = some (some v) → ∃ c, rV G ad v c ∧ lc[i]? = some (.val c)
/-- more addresses -/
def adM (ad ad' : List Nat) : Prop := ∀ (i a : Nat), ad[i]? = some a → ad'[i]? = some a
theorem adM.rf {ad : List Nat} : adM ad ad := fun _ _ h => h
theorem adM.tr {a b c : List Nat} (h : adM a b) (h2 : adM b c) : adM a c := fun i x q => h2 i x (h i x q)
theorem adM.app {a b : List Nat} : adM a (a ++ b) := fun i x h => by
  rw [List.getElem?_append_left (List.getElem?_eq_some_iff.mp h).1]; exact h
theorem rV.mono {G : gT} {ad ad' : List Nat} {v c : Value} (h : rV G ad v c) (m : adM ad ad') : rV G ad' v c := by
  cases v <;> first | exact h | (obtain ⟨a, h1, h2⟩ := h; exact ⟨a, m _ _ h1, h2⟩)
theorem rVs.mono {G : gT} {ad ad' : List Nat} (m : adM ad ad') : ∀ {vs cs : List Value}, rVs G ad vs cs → rVs G ad' vs cs
  | [], _, h => h
  | _ :: _, _, ⟨c, cs', e, h1, h2⟩ => ⟨c, cs', e, h1.mono m, rVs.mono m h2⟩
theorem rVs.len {G : gT} {ad : List Nat} : ∀ {vs cs : List Value}, rVs G ad vs cs → cs.length = vs.length
  | [], _, h => by rw [show _ = [] from h]
  | _ :: _, _, ⟨c, cs', e, _, h2⟩ => by rw [e, List.length_cons, List.length_cons, h2.len]
theorem rVs.at {G : gT} {ad : List Nat} : ∀ {vs cs : List Value}, rVs G ad vs cs → ∀ {i : Nat} {v : Value}, vs[i]? = some v → ∃ c, cs[i]? = some c ∧ rV G ad v c
  | [], _, _, i, v, h => by simp at h
  | _ :: _, _, ⟨c, cs', e, h1, h2⟩, 0, v, h => by
    subst e
    simp at h
    subst h
    exact ⟨c, by simp, h1⟩
  | _ :: _, _, ⟨c, cs', e, h1, h2⟩, i + 1, v, h => by
    subst e
    simp at h
    obtain ⟨c2, a, b⟩ := rVs.at h2 h
    exact ⟨c2, by simpa using a, b⟩
theorem rVs.set {G : gT} {ad : List Nat} : ∀ {vs cs : List Value}, rVs G ad vs cs → ∀ {i : Nat} {v c : Value}, rV G ad v c → rVs G ad (vs.set i v) (cs.set i c)
  | [], _, h, i, v, c, _ => by rw [show _ = [] from h]; rfl
  | _ :: _, _, ⟨c1, cs', e, h1, h2⟩, 0, v, c, h => by subst e; exact ⟨c, cs', rfl, h, h2⟩
  | _ :: _, _, ⟨c1, cs', e, h1, h2⟩, i + 1, v, c, h => by subst e; exact ⟨c1, cs'.set i c, rfl, h1, rVs.set h2 h⟩
theorem rVs.app {G : gT} {ad : List Nat} : ∀ {vs cs vs2 cs2 : List Value}, rVs G ad vs cs → rVs G ad vs2 cs2 → rVs G ad (vs ++ vs2) (cs ++ cs2)
  | [], _, _, _, h, h2 => by rw [show _ = [] from h]; exact h2
  | _ :: _, _, _, _, ⟨c1, cs', e, h1, h3⟩, h2 => by subst e; exact ⟨c1, _, rfl, h1, rVs.app h3 h2⟩
theorem rVs.rev {G : gT} {ad : List Nat} : ∀ {vs cs : List Value}, rVs G ad vs cs → rVs G ad vs.reverse cs.reverse
  | [], _, h => by rw [show _ = [] from h]; rfl
  | _ :: _, _, ⟨c1, cs', e, h1, h3⟩ => by
    subst e
    rw [List.reverse_cons, List.reverse_cons]
    exact h3.rev.app ⟨c1, [], rfl, h1, rfl⟩
theorem rR.mono {ad ad' : List Nat} {f g : Nat → Option Nat} (h : rR ad f g) (m : adM ad ad') : rR ad' f g := fun i => by
  have h := h i
  cases hf : f i with
  | none => rw [hf] at h; exact h
  | some k => rw [hf] at h; obtain ⟨a, h1, h2⟩ := h; exact ⟨a, m _ _ h1, h2⟩
theorem rA.mono {ad ad' : List Nat} {d d' : vp_A} (h : rA ad d d') (m : adM ad ad') : rA ad' d d' := by
  obtain ⟨n, x⟩ := d
  rcases x with f | f | f | f | f
  · exact h
  · exact h
  · exact h
  · exact h
  · obtain ⟨g, h1, h2⟩ := h
    exact ⟨g, h1, h2.mono m⟩
theorem rA.one {ad : List Nat} {d d' : vp_A} (h : rA ad d d') : d'.1 = d.1 := by
  obtain ⟨n, x⟩ := d
  rcases x with f | f | f | f | f
  · rw [show d' = _ from h]
  · rw [show d' = _ from h]
  · rw [show d' = _ from h]
  · rw [show d' = _ from h]
  · obtain ⟨g, h1, h2⟩ := h
    rw [h1]
theorem rE.mono {G : gT} {ad ad' : List Nat} {e e' : va_E} (h : rE G ad e e') (m : adM ad ad') : rE G ad' e e' := by
  rcases e with ⟨t, d⟩ | ⟨ci, fs⟩
  · obtain ⟨q, d', h1, h2, h3⟩ := h
    exact ⟨q, d', h1, h2, h3.mono m⟩
  · obtain ⟨fs', h1, h2⟩ := h
    exact ⟨fs', h1, h2.mono m⟩
theorem rO.mono {G : gT} {ad ad' : List Nat} {v c : Option Value} (h : rO G ad v c) (m : adM ad ad') : rO G ad' v c := by
  cases v with
  | none => exact h
  | some v => obtain ⟨c', h1, h2⟩ := h; exact ⟨c', h1, h2.mono m⟩
theorem rL.mono {G : gT} {ad ad' : List Nat} {ls : List (Option Value)} {lc : Array Slot} {nL : Nat} (h : rL G ad ls lc nL) (m : adM ad ad') : rL G ad' ls lc nL :=
  ⟨h.1, h.2.1, fun i v hv => by obtain ⟨c, h1, h2⟩ := h.2.2 i v hv; exact ⟨c, h1.mono m, h2⟩⟩
theorem rV.cat {G : gT} {ad : List Nat} {v c : Value} (hs : ∀ j, (G.sad j).category = 1) (h : rV G ad v c) : c.category = v.category := by
  cases v with
  | ref k => obtain ⟨a, h1, h2⟩ := h; rw [h2]; rfl
  | retAddr j => rw [show c = _ from h, hs]; rfl
  | int x => rw [show c = _ from h]
  | long x => rw [show c = _ from h]
  | float x => rw [show c = _ from h]
  | double x => rw [show c = _ from h]
  | null => rw [show c = _ from h]
theorem rW.at {G : gT} {ad : List Nat} {w : xW} {ws : va_W} (h : rW G ad w ws) {i : Nat} {e : va_E} (he : w[i]? = some e) : ∃ a e', ad[i]? = some a ∧ ws[i]? = some (a, e') ∧ rE G ad e e' := h.2.2 i e he
theorem rW.set {G : gT} {ad : List Nat} {w : xW} {ws : va_W} (h : rW G ad w ws) {i a : Nat} {e e' : va_E} (ha : ad[i]? = some a) (he : rE G ad e e') : rW G ad (w.set i e) (ws.set i (a, e')) := by
  refine ⟨by rw [List.length_set]; exact h.1, by rw [List.length_set, List.length_set]; exact h.2.1, fun j x hx => ?_⟩
  by_cases hj : i = j
  · subst hj
    have hlt : i < w.length := by
      rw [← h.1]; exact (List.getElem?_eq_some_iff.mp ha).1
    rw [List.getElem?_set_self hlt] at hx
    cases hx
    exact ⟨a, e', ha, by rw [List.getElem?_set_self (by rw [h.2.1]; exact hlt)], he⟩
  · rw [List.getElem?_set_ne hj] at hx
    obtain ⟨b, x', h1, h2, h3⟩ := h.at hx
    exact ⟨b, x', h1, by rw [List.getElem?_set_ne hj]; exact h2, h3⟩
theorem rW.push {G : gT} {ad : List Nat} {w : xW} {ws : va_W} (h : rW G ad w ws) {a : Nat} {e e' : va_E} (he : rE G (ad ++ [a]) e e') : rW G (ad ++ [a]) (w ++ [e]) (ws ++ [(a, e')]) := by
  refine ⟨by simp [h.1], by simp [h.2.1], fun j x hx => ?_⟩
  rcases Nat.lt_or_ge j w.length with q | q
  · rw [List.getElem?_append_left q] at hx
    obtain ⟨b, x', h1, h2, h3⟩ := h.at hx
    exact ⟨b, x', by rw [List.getElem?_append_left (by rw [h.1]; exact q)]; exact h1, by rw [List.getElem?_append_left (by rw [h.2.1]; exact q)]; exact h2, h3.mono adM.app⟩
  · rw [List.getElem?_append_right q] at hx
    have hj : j = w.length := by
      rcases Nat.lt_or_ge w.length j with q2 | q2
      · have hs : ([e] : List va_E)[j - w.length]? = none := by
          rw [List.getElem?_eq_none_iff]; simp; omega
        rw [hs] at hx; cases hx
      · omega
    subst hj
    simp at hx
    subst hx
    refine ⟨a, e', ?_, ?_, he⟩
    · rw [← h.1]; simp
    · rw [← h.2.1]; simp
theorem rW.lt {G : gT} {ad : List Nat} {w : xW} {ws : va_W} (h : rW G ad w ws) {i a : Nat} (ha : ad[i]? = some a) : ∃ e, w[i]? = some e := by
  have : i < w.length := by rw [← h.1]; exact (List.getElem?_eq_some_iff.mp ha).1
  exact ⟨w[i], List.getElem?_eq_getElem this⟩
