/-! ===== a contract over a small world holds over a large one, the rest unchanged ===== -/
def rnI : List Nat → Nat → Nat → Nat
  | [], N, k => N + k
  | a :: _, _, 0 => a
  | _ :: p, N, k + 1 => rnI p N k
def renV (p : List Nat) (N : Nat) : Value → Value
  | .ref k => .ref (rnI p N k)
  | v => v
def renVs (p : List Nat) (N : Nat) : List Value → List Value
  | [] => []
  | v :: l => renV p N v :: renVs p N l
def renE (p : List Nat) (N : Nat) : va_E → va_E
  | .inl (t, n, .inr (.inr (.inr (.inr f)))) => .inl (t, n, .inr (.inr (.inr (.inr (fun i => (f i).map (rnI p N))))))
  | .inl x => .inl x
  | .inr (ci, fs) => .inr (ci, renVs p N fs)
def renW (p : List Nat) (N : Nat) : xW → xW
  | [] => []
  | e :: l => renE p N e :: renW p N l
def renO (p : List Nat) (N : Nat) : Option Value → Option Value
  | none => none
  | some v => some (renV p N v)
def plg {α : Type} : List Nat → List α → List α → List α
  | [], xs, w => w ++ xs
  | _ :: _, [], w => w
  | a :: p, x :: xs, w => plg p xs (stN w a x)
def selW (p0 : List Nat) (N : Nat) (w : xW) : List Nat → xW → Prop
  | [], [] => True
  | a :: p, e :: l => nth w a = some (renE p0 N e) ∧ selW p0 N w p l
  | _, _ => False
theorem renW_eq (p : List Nat) (N : Nat) : ∀ l : xW, renW p N l = l.map (renE p N)
  | [] => rfl
  | e :: l => by rw [renW, renW_eq p N l]; rfl
theorem rnI_lt : ∀ (p : List Nat) (N k a : Nat), p[k]? = some a → rnI p N k = a
  | [], _, _, _, h => by simp at h
  | b :: _, _, 0, a, h => by simp at h; exact h
  | _ :: p, N, k + 1, a, h => by simp at h; exact rnI_lt p N k a h
theorem rnI_ge : ∀ (p : List Nat) (N k : Nat), p.length ≤ k → rnI p N k = N + (k - p.length)
  | [], N, k, _ => by simp [rnI]
  | _ :: _, _, 0, h => by simp at h
  | _ :: p, N, k + 1, h => by
    rw [rnI, rnI_ge p N k (by simpa using h)]
    simp
theorem plg_len {α : Type} : ∀ (p : List Nat) (xs w : List α), p.length ≤ xs.length → (plg p xs w).length = w.length + (xs.length - p.length)
  | [], xs, w, _ => by simp [plg]
  | _ :: _, [], w, h => by simp at h
  | a :: p, x :: xs, w, h => by
    rw [plg, plg_len p xs _ (by simpa using h), stN_eq]
    simp
theorem plg_at {α : Type} : ∀ (p : List Nat) (xs w : List α), p.Nodup → p.length ≤ xs.length → (∀ a ∈ p, a < w.length) → ∀ i : Nat,
    (∀ j : Nat, p[j]? = some i → (plg p xs w)[i]? = xs[j]?) ∧ (i < w.length → i ∉ p → (plg p xs w)[i]? = w[i]?) ∧ (w.length ≤ i → (plg p xs w)[i]? = xs[p.length + (i - w.length)]?)
  | [], xs, w, _, _, _, i => by
    refine ⟨fun j h => by simp at h, fun h _ => by rw [plg, List.getElem?_append_left h], fun h => by rw [plg, List.getElem?_append_right h]; simp⟩
  | _ :: _, [], w, _, h, _, i => by simp at h
  | a :: p, x :: xs, w, hn, hl, hw, i => by
    have hn2 := List.nodup_cons.mp hn
    have hal := hw a List.mem_cons_self
    have hlen : (stN w a x).length = w.length := by rw [stN_eq]; simp
    obtain ⟨h1, h2, h3⟩ := plg_at p xs (stN w a x) hn2.2 (by simpa using hl) (fun b hb => by rw [hlen]; exact hw b (List.mem_cons_of_mem _ hb)) i
    rw [hlen] at h2 h3
    refine ⟨fun j hj => ?_, fun hi hni => ?_, fun hi => ?_⟩
    · cases j with
      | zero =>
        simp at hj
        subst hj
        rw [plg, h2 hal hn2.1, stN_eq, List.getElem?_set_self hal]
        simp
      | succ j =>
        simp at hj
        rw [plg, h1 j hj]
        simp
    · have hne : ¬ a = i := fun q => hni (by rw [q]; exact List.mem_cons_self)
      rw [plg, h2 hi (fun q => hni (List.mem_cons_of_mem _ q)), stN_eq, List.getElem?_set_ne hne]
    · rw [plg, h3 hi]
      rw [show (a :: p).length + (i - w.length) = (p.length + (i - w.length)) + 1 by simp; omega]
      simp
theorem selW_at {p0 : List Nat} {N : Nat} {w : xW} : ∀ {p : List Nat} {l : xW}, selW p0 N w p l → p.length = l.length ∧ ∀ (j : Nat) (e : va_E), l[j]? = some e → ∃ a, p[j]? = some a ∧ w[a]? = some (renE p0 N e)
  | [], [], _ => ⟨rfl, fun j e h => by simp at h⟩
  | [], _ :: _, h => h.elim
  | _ :: _, [], h => h.elim
  | a :: p, e0 :: l, ⟨h1, h2⟩ => by
    obtain ⟨q1, q2⟩ := selW_at h2
    refine ⟨by simp [q1], fun j e h => ?_⟩
    cases j with
    | zero =>
      simp at h
      subst h
      exact ⟨a, by simp, by rw [← nth_eq]; exact h1⟩
    | succ j =>
      simp at h
      obtain ⟨b, r1, r2⟩ := q2 j e h
      exact ⟨b, by simpa using r1, r2⟩
theorem va_nd_nodup : ∀ {l : List Nat}, va_nd l = true → l.Nodup
  | [], _ => List.nodup_nil
  | a :: l, h => by
    unfold va_nd at h
    simp only [Bool.and_eq_true] at h
    refine List.nodup_cons.mpr ⟨?_, va_nd_nodup h.2⟩
    intro hm
    have h1 := h.1
    simp [List.contains_iff_mem, hm] at h1
section FRA
variable {G : gT} {p : List Nat} {N : Nat} {ad ad0 : List Nat}
theorem rV.un (hU : ∀ k a, ad[rnI p N k]? = some a → ad0[k]? = some a) {v c : Value} (h : rV G ad (renV p N v) c) : rV G ad0 v c := by
  cases v with
  | ref k => obtain ⟨a, h1, h2⟩ := h; exact ⟨a, hU k a h1, h2⟩
  | _ => exact h
theorem rV.re (hU : ∀ k a, ad0[k]? = some a → ad[rnI p N k]? = some a) {v c : Value} (h : rV G ad0 v c) : rV G ad (renV p N v) c := by
  cases v with
  | ref k => obtain ⟨a, h1, h2⟩ := h; exact ⟨a, hU k a h1, h2⟩
  | _ => exact h
theorem rVs.un (hU : ∀ k a, ad[rnI p N k]? = some a → ad0[k]? = some a) : ∀ {vs cs : List Value}, rVs G ad (renVs p N vs) cs → rVs G ad0 vs cs
  | [], _, h => h
  | _ :: _, _, ⟨c, cs', e, h1, h2⟩ => ⟨c, cs', e, h1.un hU, rVs.un hU h2⟩
theorem rVs.re (hU : ∀ k a, ad0[k]? = some a → ad[rnI p N k]? = some a) : ∀ {vs cs : List Value}, rVs G ad0 vs cs → rVs G ad (renVs p N vs) cs
  | [], _, h => h
  | _ :: _, _, ⟨c, cs', e, h1, h2⟩ => ⟨c, cs', e, h1.re hU, rVs.re hU h2⟩
theorem rE.un (hU : ∀ k a, ad[rnI p N k]? = some a → ad0[k]? = some a) {x c : va_E} (h : rE G ad (renE p N x) c) : rE G ad0 x c := by
  rcases x with ⟨t, n, f | f | f | f | f⟩ | ⟨ci, fs⟩
  · exact h
  · exact h
  · exact h
  · exact h
  · obtain ⟨q, d', h1, h2, g, h3, h4⟩ := h
    refine ⟨q, d', h1, h2, g, h3, fun i => ?_⟩
    have := h4 i
    cases hf : f i with
    | none => simp only [hf] at this; exact this
    | some k => simp only [hf] at this; obtain ⟨a, r1, r2⟩ := this; exact ⟨a, hU k a r1, r2⟩
  · obtain ⟨fs', h1, h2⟩ := h
    exact ⟨fs', h1, h2.un hU⟩
theorem rE.re (hU : ∀ k a, ad0[k]? = some a → ad[rnI p N k]? = some a) {x c : va_E} (h : rE G ad0 x c) : rE G ad (renE p N x) c := by
  rcases x with ⟨t, n, f | f | f | f | f⟩ | ⟨ci, fs⟩
  · exact h
  · exact h
  · exact h
  · exact h
  · obtain ⟨q, d', h1, h2, g, h3, h4⟩ := h
    refine ⟨q, d', h1, h2, g, h3, fun i => ?_⟩
    have := h4 i
    cases hf : f i with
    | none => simp only [hf] at this; simp only [hf, Option.map_none]; exact this
    | some k => simp only [hf] at this; simp only [hf, Option.map_some]; obtain ⟨a, r1, r2⟩ := this; exact ⟨a, hU k a r1, r2⟩
  · obtain ⟨fs', h1, h2⟩ := h
    exact ⟨fs', h1, h2.re hU⟩
/-- the world behind the small method, in the large one -/
theorem WEnd.fr {w w0 w' : xW} {ws ws0 : va_W} {sz : Nat} {st t : State} {ad0' : List Nat} (hN : N = w.length) (hn : p.Nodup) (hs : selW p N w p w0) (hw : rW G ad w ws) (hP : va_P G.D vwCl ws st.heap) (hD : va_D (fun q => G.bs ≤ q) ws) (hsz : st.heap.size = sz)
    (h0 : ∀ (j a : Nat), p[j]? = some a → ad0[j]? = ad[a]? ∧ ws0[j]? = ws[a]?) (hl0 : ad0.length = p.length) (hl1 : ws0.length = p.length) (h : WEnd G ad0 ws0 sz st t w' ad0') :
    WEnd G ad ws sz st t (plg p (renW p N w') w) (ad ++ ad0'.drop p.length) ∧ ∀ k a, ad0'[k]? = some a → (ad ++ ad0'.drop p.length)[rnI p N k]? = some a := by
  obtain ⟨hm, ws', r1, r2, r3, r4⟩ := h
  obtain ⟨hpl, hps⟩ := selW_at hs
  have hlad : ad.length = N := by rw [hN]; exact hw.1
  have hpw : ∀ a ∈ p, a < w.length := by
    intro a ha
    obtain ⟨j, hj⟩ := List.getElem?_of_mem ha
    have hjl : j < w0.length := by rw [← hpl]; exact (List.getElem?_eq_some_iff.mp hj).1
    obtain ⟨b, q1, q2⟩ := hps j _ (List.getElem?_eq_getElem hjl)
    cases hj.symm.trans q1
    exact (List.getElem?_eq_some_iff.mp q2).1
  have hle : p.length ≤ ad0'.length := by
    rcases Nat.lt_or_ge ad0'.length p.length with q | q
    · have h9 : ad0'.length < ad0.length := by rw [hl0]; exact q
      have := hm _ _ (List.getElem?_eq_getElem h9)
      simp at this
    · exact q
  have hU : ∀ k a, ad0'[k]? = some a → (ad ++ ad0'.drop p.length)[rnI p N k]? = some a := by
    intro k a hk
    rcases Nat.lt_or_ge k p.length with q | q
    · have hpk := List.getElem?_eq_getElem q
      rw [rnI_lt p N k _ hpk]
      have hlt : p[k] < ad.length := by rw [hlad, hN]; exact hpw _ (List.getElem_mem q)
      rw [List.getElem?_append_left hlt, ← (h0 k _ hpk).1]
      have hlt0 : k < ad0.length := by rw [hl0]; exact q
      have h8 := List.getElem?_eq_getElem hlt0
      rw [h8]
      have := hm _ _ h8
      rw [hk] at this
      exact this.symm
    · rw [rnI_ge p N k q, List.getElem?_append_right (by rw [hlad]; omega), hlad, show N + (k - p.length) - N = k - p.length by omega, List.getElem?_drop, show p.length + (k - p.length) = k by omega]
      exact hk
  refine ⟨⟨adM.app, plg p ws' ws, ?_, ?_, ?_, ?_⟩, hU⟩
  · have hl2 : p.length ≤ (renW p N w').length := by rw [renW_eq, List.length_map, ← r1.1]; exact hle
    have hl3 : p.length ≤ ws'.length := by rw [r1.2.1, ← r1.1]; exact hle
    have hpws : ∀ a ∈ p, a < ws.length := fun a ha => by rw [hw.2.1]; exact hpw a ha
    refine ⟨?_, ?_, fun i x hx => ?_⟩
    · rw [plg_len _ _ _ hl2, renW_eq, List.length_map, List.length_append, List.length_drop, r1.1, hw.1]
    · rw [plg_len _ _ _ hl3, plg_len _ _ _ hl2, renW_eq, List.length_map, r1.2.1, hw.2.1]
    · obtain ⟨a1, a2, a3⟩ := plg_at p (renW p N w') w hn hl2 hpw i
      obtain ⟨b1, b2, b3⟩ := plg_at p ws' ws hn hl3 hpws i
      by_cases hip : i ∈ p
      · obtain ⟨j, hj⟩ := List.getElem?_of_mem hip
        rw [a1 j hj, renW_eq, List.getElem?_map] at hx
        rw [b1 j hj]
        cases hwj : w'[j]? with
        | none => rw [hwj] at hx; cases hx
        | some y =>
          rw [hwj] at hx
          cases hx
          obtain ⟨a, x', c1, c2, c3⟩ := r1.at hwj
          refine ⟨a, x', ?_, c2, c3.re hU⟩
          have := hU j a c1
          rwa [rnI_lt p N j i hj] at this
      · rcases Nat.lt_or_ge i w.length with q | q
        · rw [a2 q hip] at hx
          obtain ⟨a, x', c1, c2, c3⟩ := hw.at hx
          exact ⟨a, x', adM.app _ _ c1, by rw [b2 (by rw [hw.2.1]; exact q) hip]; exact c2, c3.mono adM.app⟩
        · rw [a3 q, renW_eq, List.getElem?_map] at hx
          cases hwj : w'[p.length + (i - w.length)]? with
          | none => rw [hwj] at hx; cases hx
          | some y =>
            rw [hwj] at hx
            cases hx
            obtain ⟨a, x', c1, c2, c3⟩ := r1.at hwj
            refine ⟨a, x', ?_, by rw [b3 (by rw [hw.2.1]; exact q), hw.2.1]; exact c2, c3.re hU⟩
            have := hU _ a c1
            rw [rnI_ge p N _ (by omega)] at this
            rwa [show N + (p.length + (i - w.length) - p.length) = i by omega] at this
  all_goals
    have hl3 : p.length ≤ ws'.length := by rw [r1.2.1, ← r1.1]; exact hle
    have hpws : ∀ a ∈ p, a < ws.length := fun a ha => by rw [hw.2.1]; exact hpw a ha
    have cls : ∀ (i : Nat) (q : Nat × va_E), (plg p ws' ws)[i]? = some q → (∃ j, i = rnI p N j ∧ ws'[j]? = some q) ∨ (i ∉ p ∧ ws[i]? = some q) := by
      intro i q hq
      obtain ⟨b1, b2, b3⟩ := plg_at p ws' ws hn hl3 hpws i
      by_cases hip : i ∈ p
      · obtain ⟨j, hj⟩ := List.getElem?_of_mem hip
        rw [b1 j hj] at hq
        exact Or.inl ⟨j, (rnI_lt p N j i hj).symm, hq⟩
      · rcases Nat.lt_or_ge i ws.length with g | g
        · rw [b2 g hip] at hq
          exact Or.inr ⟨hip, hq⟩
        · rw [b3 g] at hq
          refine Or.inl ⟨_, ?_, hq⟩
          rw [rnI_ge p N _ (by omega), hN, ← hw.2.1]
          omega
    have sub : ∀ q, va_A ws0 sz q → va_A ws sz q := by
      rintro q (⟨k, x, hk⟩ | hq)
      · have hkl : k < p.length := by rw [← hl1]; exact (List.getElem?_eq_some_iff.mp hk).1
        rw [(h0 k _ (List.getElem?_eq_getElem hkl)).2] at hk
        exact Or.inl ⟨_, x, hk⟩
      · exact Or.inr hq
    have off : ∀ (i : Nat) (q : Nat × va_E), i ∉ p → ws[i]? = some q → ¬ va_A ws0 sz q.1 := by
      rintro i q hip hq (⟨k, x, hk⟩ | hz)
      · have hkl : k < p.length := by rw [← hl1]; exact (List.getElem?_eq_some_iff.mp hk).1
        rw [(h0 k _ (List.getElem?_eq_getElem hkl)).2] at hk
        have := hD.1 i _ q _ hq hk rfl
        exact hip (by rw [this]; exact List.getElem_mem hkl)
      · have := (hP i q hq).lt
        omega
  · intro i q hq
    rcases cls i q hq with ⟨j, -, hj⟩ | ⟨hip, hi⟩
    · exact r2 j q hj
    · exact (hP i q hi).kept (r4.2 _ (hP i q hi).lt (off i q hip hi))
  · refine ⟨fun i j x y hx hy hxy => ?_, fun i q hq => ?_⟩
    · rcases cls i x hx with ⟨a, ha, ha2⟩ | ⟨ha, ha2⟩ <;> rcases cls j y hy with ⟨b, hb, hb2⟩ | ⟨hb, hb2⟩
      · rw [ha, hb, r3.1 a b x y ha2 hb2 hxy]
      · exact absurd (by rw [← hxy]; exact r3.2 a x ha2) (off j y hb hb2)
      · exact absurd (by rw [hxy]; exact r3.2 b y hb2) (off i x ha ha2)
      · exact hD.1 i j x y ha2 hb2 hxy
    · rcases cls i q hq with ⟨j, -, hj⟩ | ⟨hip, hi⟩
      · exact sub _ (r3.2 j q hj)
      · exact Or.inl ⟨i, q.2, hi⟩
  · exact ⟨r4.1, fun q h1 h2 => r4.2 q h1 (fun h => h2 (sub q h))⟩
theorem renO_re {ad0' ad' : List Nat} (hU : ∀ k a, ad0'[k]? = some a → ad'[rnI p N k]? = some a) {v c : Option Value} (h : rO G ad0' v c) : rO G ad' (renO p N v) c := by
  cases v with
  | none => exact h
  | some v => obtain ⟨c', h1, h2⟩ := h; exact ⟨c', h1, h2.re hU⟩
/-- THE FRAME RULE: the small world's places in the large one are p -/
theorem Spec.fr {d mc ms : Nat} {y : m0T} {as as0 : List Value} {w w0 : xW} {K K0 : Option Value → xW → Prop} {KX KX0 : Nat → xW → Prop} (p : List Nat) (h : Spec G d mc ms y as0 w0 K0 KX0) (hn : va_nd p = true) (hs : selW p (lenL w) w p w0) (ha : as = renVs p (lenL w) as0)
    (hK : ∀ v w', K0 v w' → K (renO p (lenL w) v) (plg p (renW p (lenL w) w') w)) (hX : ∀ x w', KX0 x w' → KX x (plg p (renW p (lenL w) w') w)) : Spec G d mc ms y as w K KX := by
  intro ad ws sz ca hrw hra
  obtain ⟨hpl, hps⟩ := selW_at hs
  have hN : lenL w = w.length := lenL_eq w
  generalize lenL w = N at *
  have hnd := va_nd_nodup hn
  have hpw : ∀ (j a : Nat), p[j]? = some a → ∃ x, w0[j]? = some x ∧ w[a]? = some (renE p N x) := by
    intro j a hj
    have hjl : j < w0.length := by rw [← hpl]; exact (List.getElem?_eq_some_iff.mp hj).1
    obtain ⟨b, q1, q2⟩ := hps j _ (List.getElem?_eq_getElem hjl)
    cases hj.symm.trans q1
    exact ⟨_, List.getElem?_eq_getElem hjl, q2⟩
  obtain ⟨ad0, had0⟩ : ∃ z, z = p.map (fun a => (ad[a]?).getD 0) := ⟨_, rfl⟩
  obtain ⟨ws0, hws0⟩ : ∃ z, z = p.map (fun a => (ws[a]?).getD (0, .inr (0, []))) := ⟨_, rfl⟩
  have hl0 : ad0.length = p.length := by rw [had0]; simp
  have hl1 : ws0.length = p.length := by rw [hws0]; simp
  have h0 : ∀ (j a : Nat), p[j]? = some a → ad0[j]? = ad[a]? ∧ ws0[j]? = ws[a]? := by
    intro j a hj
    obtain ⟨x, q1, q2⟩ := hpw j a hj
    obtain ⟨b, x', c1, c2, -⟩ := hrw.at q2
    constructor
    · rw [had0, List.getElem?_map, hj]
      simp [c1]
    · rw [hws0, List.getElem?_map, hj]
      simp [c2]
  have hU : ∀ k a, ad[rnI p N k]? = some a → ad0[k]? = some a := by
    intro k a hk
    rcases Nat.lt_or_ge k p.length with q | q
    · have hpk := List.getElem?_eq_getElem q
      rw [rnI_lt p N k _ hpk] at hk
      rw [(h0 k _ hpk).1]; exact hk
    · rw [rnI_ge p N k q] at hk
      have := (List.getElem?_eq_some_iff.mp hk).1
      rw [hrw.1] at this
      omega
  have hrw0 : rW G ad0 w0 ws0 := by
    refine ⟨by rw [hl0, hpl], by rw [hl1, hpl], fun j x hx => ?_⟩
    obtain ⟨a, q1, q2⟩ := hps j x hx
    obtain ⟨b, x', c1, c2, c3⟩ := hrw.at q2
    exact ⟨b, x', by rw [(h0 j a q1).1]; exact c1, by rw [(h0 j a q1).2]; exact c2, c3.un hU⟩
  have hra0 : rVs G ad0 as0 ca := by rw [ha] at hra; exact hra.un hU
  have hM := h ad0 ws0 sz ca hrw0 hra0
  have inj : ∀ (j a : Nat), p[j]? = some a → ∀ q, ws0[j]? = some q → ws[a]? = some q := fun j a hj q hq => by rw [← (h0 j a hj).2]; exact hq
  have sub : ∀ q, va_A ws0 sz q → va_A ws sz q := by
    rintro q (⟨k, x, hk⟩ | hq)
    · have hkl : k < p.length := by rw [← hl1]; exact (List.getElem?_eq_some_iff.mp hk).1
      exact Or.inl ⟨_, x, inj k _ (List.getElem?_eq_getElem hkl) _ hk⟩
    · exact Or.inr hq
  intro p9 e ha9 hc hk s m args below hf happ hP hKK
  obtain ⟨P1, P2, P3, P4, P5, P6⟩ := id hP
  have hP0 : PcS G ws0 sz ca args s := by
    refine ⟨P1, P2, P3, P4, fun j q hq => ?_, fun i j x y hx hy hxy => ?_, fun j q hq => ?_⟩
    · have hkl : j < p.length := by rw [← hl1]; exact (List.getElem?_eq_some_iff.mp hq).1
      exact P5 _ q (inj j _ (List.getElem?_eq_getElem hkl) q hq)
    · have hil : i < p.length := by rw [← hl1]; exact (List.getElem?_eq_some_iff.mp hx).1
      have hjl : j < p.length := by rw [← hl1]; exact (List.getElem?_eq_some_iff.mp hy).1
      have := P6.1 _ _ x y (inj i _ (List.getElem?_eq_getElem hil) x hx) (inj j _ (List.getElem?_eq_getElem hjl) y hy) hxy
      exact (List.getElem_inj hnd).mp this
    · have hkl : j < p.length := by rw [← hl1]; exact (List.getElem?_eq_some_iff.mp hq).1
      exact P6.2 _ q (inj j _ (List.getElem?_eq_getElem hkl) q hq)
  obtain ⟨n, o, g1, g2, g3, g4⟩ := hM p9 e ha9 hc hk s m args below hf happ hP0 hKK
  refine ⟨n, o, g1, g2, g3, ?_⟩
  rcases g4 with ⟨⟨v, c, w', ad', ho, hv, hKv, hE⟩, L, hF, hL⟩ | ⟨q, ho, E, ce, L, ⟨x, w', ad', hEx, hKx, hE⟩, t1, t2, t3, t4, t5, t6⟩
  · obtain ⟨hE', hU'⟩ := WEnd.fr hN hnd hs hrw P5 P6 P2 h0 hl0 hl1 hE
    exact Or.inl ⟨⟨_, c, _, _, ho, renO_re hU' hv, hK v w' hKv, hE'⟩, L, hF, fun q hq => sub _ (hL q hq)⟩
  · obtain ⟨hE', hU'⟩ := WEnd.fr hN hnd hs hrw P5 P6 P2 h0 hl0 hl1 hE
    exact Or.inr ⟨q, ho, E, ce, L, ⟨x, _, _, hEx, hX x w' hKx, hE'⟩, t1, t2, t3, t4, t5, fun z hz => sub _ (t6 z hz)⟩
end FRA
