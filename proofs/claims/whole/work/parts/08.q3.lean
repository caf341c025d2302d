/-! ===== the walk is right: calls, ends, throws ===== -/
def m0OK (y : m0T) : Prop := y.w ∈ lw_tbl ∧ goodWord y.w = true ∧ y.nL ≤ 45 ∧ Jvm.Cond.initialized y.y.cls ∈ lw_tbl ∧ (y.y.cls ≠ "java/lang/invoke/MethodHandle" ∧ y.y.cls ≠ "java/lang/invoke/VarHandle") ∧ (parseMethodDescriptor y.y.desc).map (fun d => d.parameters.length) = some y.na
theorem m0OK.len {y : m0T} (h : m0OK y) : ∀ sig, parseMethodDescriptor y.y.desc = some sig → y.na = sig.parameters.length := fun sig hs => by
  have h2 := h.2.2.2.2.2
  rw [hs] at h2
  exact (Option.some.inj h2).symm
theorem m0T.w_nil {y : m0T} (h : y.hh = []) : y.w = .code y.y y.cc y.nL y.ret := by unfold m0T.w; rw [h]
theorem m0T.w_cons {y : m0T} (h : y.hh ≠ []) : y.w = .codeWith y.y y.cc y.nL y.ret y.hh := by
  unfold m0T.w
  split
  · exact absurd (by assumption) h
  · rfl
theorem met_of {l : Launch} {y : MethodName} {ws : List Jvm.Cond} {rm : Room} {Pc : Array Value → State → Prop} {Qc : Array Value → State → Outcome → State → Prop} {XC : String → State → State → Prop} {mc ms : Nat} {free : Addr → Prop} (h : vx_Met l y ws rm Pc Qc XC mc ms free) (hX : ∀ E st t, ¬ XC E st t) : Met l y ws rm Pc Qc mc ms free := by
  intro p e ha hc hk s m args below hf happ hP hK
  obtain ⟨n, o, h1, h2, h3, h4⟩ := h p e ha hc hk s m args below hf happ hP hK
  refine ⟨n, o, h1, h2, h3, ?_⟩
  rcases h4 with h4 | ⟨q, -, E, ce, L, hx, -⟩
  · exact h4
  · exact absurd hx (hX _ _ _)
section QC
variable {G : gT} {M : mT} {d bc bs pc : Nat} {ls : List (Option Value)} {st : List Value} {w : xW} {K : Option Value → xW → Prop} {KX : Nat → xW → Prop} {go : recT}
variable {A : Nat → Prop} {ad0 : List Nat} {R : Room} {p : Program} {e : Env} {s : State} {m : MethodId} {args : Array Value} {below : List Frame} {meth : Method} {c : Code} {Q : State → Prop}
theorem run_of_run {l : Launch} {H : Heap} {locs : List Loc} {cells slots mc ms : Nat} {g : JFrame} {rest : List Value} {Qa : State → Outcome → State → Prop} {XC : String → State → State → Prop} {free : Addr → Prop} (h : va_Run p l e R s m args below meth c H locs cells slots mc ms g rest Qa free) : vx_Run p l e R s m args below meth c H locs cells slots mc ms g rest Qa XC free :=
  fun T hT X => Or.inl (h T hT X)
theorem WAt.low {H : Heap} {locs : List Loc} {ad : List Nat} {ws : va_W} (C : Ctx G M d A R p e s m args meth c) (h : WAt G A ad0 s.heap H locs w ad ws) : hLow G H := by
  obtain ⟨l1, l2⟩ := C.2.2.2.2.2.2.2.1
  obtain ⟨s1, s2, -⟩ := h.2.2.2.2
  refine ⟨Nat.le_trans l1 s1, fun q hq => ?_⟩
  rw [s2 q (Nat.lt_of_lt_of_le hq l1) (fun hA => absurd (C.sub q hA) (Nat.not_le.mpr hq))]
  exact l2 q hq
theorem WAt.up {H : Heap} {locs : List Loc} {ad : List Nat} {ws : va_W} (C : Ctx G M d A R p e s m args meth c) (h : WAt G A ad0 s.heap H locs w ad ws) : ∀ q, va_A ws H.size q → A q := by
  rintro q (⟨k, x, hk⟩ | hq)
  · exact h.2.2.2.1.2 k (q, x) hk
  · exact C.2.2.2.2.2.2.2.2.2.1 q (Nat.le_trans h.2.2.2.2.1 hq)
theorem PcS.pre {H : Heap} {locs : List Loc} {ad : List Nat} {ws : va_W} (C : Ctx G M d A R p e s m args meth c) (h : WAt G A ad0 s.heap H locs w ad ws) (ca : List Value) : ∀ U : State, U.heap = H → s.WarmedH U.vm → PcS G ws H.size ca ca.toArray U := fun U hU hW =>
  ⟨rfl, by rw [hU], State.WarmedH.trans C.2.2.2.2.2.2.1 hW, by rw [hU]; exact h.low C, by rw [hU]; exact h.2.2.1, h.2.2.2.1.weaken (fun _ _ _ q => C.sub _ q)⟩
theorem PcS.blind {ws : va_W} {sz : Nat} {ca : List Value} : FrameBlind (PcS G ws sz ca) := fun _ _ _ _ h => h
/-- behind a call's end -/
theorem call_end {H : Heap} {locs : List Loc} {cells slots mc ms : Nat} {ad : List Nat} {ws : va_W} {lc : Array Slot} {sc rest : List Value} {a : Array Value} {Kc : Option Value → xW → Prop} {KXc : Nat → xW → Prop}
    (C : Ctx G M d A R p e s m args meth c) (hW : WAt G A ad0 s.heap H locs w ad ws)
    (hr : vx_Run p G.l e R s m args below meth c H locs cells slots mc ms (F0 m pc lc sc) rest (QcS G ad ws H.size Kc a) (XcS G ad ws H.size KXc) (va_A ws H.size))
    (kk : ∀ (v cv : Option Value) (w' : xW) (ad' : List Nat) (ws' : va_W) (H' : Heap) (locs' : List Loc), Kc v w' → rO G ad' v cv → adM ad ad' → WAt G A ad0 s.heap H' locs' w' ad' ws' → W p G.l e R s m args below meth c H' locs' (cells + mc) (slots + ms) Q (F0 m (pc + 3) lc (cv.toList ++ rest)))
    (kx : ∀ (x : Nat) (w' : xW) (ad' : List Nat) (ws' : va_W) (H' : Heap) (locs' : List Loc) (q : Addr) (ce : Cell), KXc x w' → adM ad ad' → WAt G A ad0 s.heap H' locs' w' ad' ws' → H'[q]? = some ce → ce.vm = .none → s.vm.findClass (exN x) = some ce.cls → vx_W p G.l e R s m args below meth c H' locs' (cells + mc) (slots + ms) Q (F0 m pc lc rest) q) :
    W p G.l e R s m args below meth c H locs cells slots Q (F0 m pc lc sc) := by
  intro T hT X
  have hup := hW.up C
  have join : ∀ (st₀ t T' : State) (L : List Loc) (w' : xW) (ad' : List Nat), st₀.heap = H → T'.heap = t.heap → (∀ q ∈ L, va_A ws H.size q.base) → WEnd G ad ws H.size st₀ t w' ad' → ∃ ws', WAt G A ad0 s.heap T'.heap (locs ++ L) w' ad' ws' := by
    intro st₀ t T' L w' ad' h0 e1 hL ⟨hm, ws', r1, r2, r3, r4⟩
    obtain ⟨-, -, k3⟩ := vx_keep h0 e1 hW.2.2.2.2 (fun q _ h => hup q h) hup hL r4
    exact ⟨ws', hW.1.tr hm, r1, by rw [e1]; exact r2, r3.weaken (fun _ _ _ h => hup _ h), k3⟩
  rcases hr T hT X with ⟨v9, st₀, t, T', L, h0, X', hL, e1, e2, ⟨v, cv, w', ad', hv, ho, hK, hE⟩, hs⟩ | ⟨q, st₀, t, T', L, E, ce, h0, X', hL, e1, e2, ⟨x9, w', ad', rfl, hKX, hE⟩, hce, hcv, hcl, hs⟩
  · cases hv
    obtain ⟨ws', hW'⟩ := join st₀ t T' L w' ad' h0 e1 hL hE
    obtain ⟨t2, a1, b1⟩ := kk v _ w' ad' ws' T'.heap (locs ++ L) hK ho hE.1 hW' T' rfl X'
    exact ⟨t2, hs t2 a1, b1⟩
  · obtain ⟨ws', hW'⟩ := join st₀ t T' L w' ad' h0 e1 hL hE
    obtain ⟨t2, a1, b1⟩ := kx x9 w' ad' ws' T'.heap (locs ++ L) q ce hKX hE.1 hW' (by rw [e1]; exact hce) hcv hcl T' rfl X'
    exact ⟨t2, hs.trans a1, b1⟩
theorem popN_rel {ad : List Nat} {n : Nat} {st as rest sc : List Value} (h : popN n [] st = some (as, rest)) (hS : rVs G ad st sc) : ∃ ca cr, sc = ca.reverse ++ cr ∧ rVs G ad as ca ∧ rVs G ad rest cr ∧ ca.length = n := by
  obtain ⟨h1, h2⟩ := popN_eq n [] st as rest h
  simp at h1 h2
  subst h1
  have split : ∀ (a b c : List Value), rVs G ad (a ++ b) c → ∃ c1 c2, c = c1 ++ c2 ∧ rVs G ad a c1 ∧ rVs G ad b c2 := by
    intro a
    induction a with
    | nil => intro b c hc; exact ⟨[], c, rfl, rfl, hc⟩
    | cons x a ih =>
      rintro b c ⟨y, c', rfl, hy, hc⟩
      obtain ⟨c1, c2, rfl, r1, r2⟩ := ih b c' hc
      exact ⟨y :: c1, c2, rfl, ⟨y, c1, rfl, hy, r1⟩, r2⟩
  obtain ⟨c1, c2, rfl, r1, r2⟩ := split _ _ _ hS
  refine ⟨c1.reverse, c2, by simp, ?_, r2, ?_⟩
  · have := r1.rev
    rwa [List.reverse_reverse] at this
  · rw [List.length_reverse, r1.len, List.length_reverse, h2]
theorem catS_rel {ad : List Nat} (hs : ∀ j, (G.sad j).category = 1) : ∀ {rest cr : List Value}, rVs G ad rest cr → (cr.map fun v => v.category).sum = catS rest
  | [], _, h => by rw [show _ = [] from h]; rfl
  | v :: l, _, ⟨cx, cs, e, h1, h2⟩ => by
    subst e
    have := catS_rel hs h2
    rw [List.map_cons, List.sum_cons, this, h1.cat hs]
    cases v <;> simp [catS, Value.category] <;> omega
/-- what every kind of call pays alike -/
theorem pay (C : Ctx G M d A R p e s m args meth c) (hg : gOK G) {y : m0T} (hy : m0OK y) : ∀ x ∈ [y.w], ∀ (a' : Array Value) (U : State), s.WarmedH U.vm → x.before a' U = true := by
  intro x hx a' U hU
  cases List.mem_singleton.mp hx
  exact word_at hU (good_of_word hy.2.1) (C.wrd hg hy.1 hy.2.1)
theorem room_le {d' : Nat} {y : m0T} (hy : m0OK y) (hd : d' < d) (h1 : d ≤ R.frames) (h2 : 64 * d ≤ R.locals) {mc ms : Nat} : (rmS d' mc ms).frames + 1 ≤ R.frames ∧ 8 + (y.nL + 11) + (rmS d' mc ms).locals ≤ R.locals := by
  have := hy.2.2.1
  unfold rmS
  constructor
  · show d' + 1 ≤ R.frames
    omega
  · show 8 + (y.nL + 11) + 64 * d' ≤ R.locals
    omega
/-- a method that a call names, by the kinds of calls -/
def vOK (own : String) (k : Nat) (y : m0T) (ci : Nat) : Prop := m0OK y ∧ y.hh = [] ∧ Jvm.Cond.methodLink own k y.y ∈ lw_tbl ∧ Jvm.Cond.instanceMethod y.y ∈ lw_tbl ∧ Jvm.Cond.selects y.y.cls y.y y.y ∈ lw_tbl ∧ ∃ (T : u_T) (N : Nat), vwCl[ci]? = some (y.y.cls, T, N)
def sOK (own : String) (k : Nat) (y : m0T) : Prop := m0OK y ∧ y.hh = [] ∧ Jvm.Cond.methodLink own k y.y ∈ lw_tbl ∧ Jvm.Cond.static y.y ∈ lw_tbl
def swOK (own : String) (k : Nat) (y : m0T) : Prop := m0OK y ∧ y.hh ≠ [] ∧ Jvm.Cond.methodLink own k y.y ∈ lw_tbl ∧ Jvm.Cond.static y.y ∈ lw_tbl
def iOK (own : String) (k : Nat) (y : m0T) : Prop := m0OK y ∧ y.hh = [] ∧ y.ret = none ∧ Jvm.Cond.methodLink own k y.y ∈ lw_tbl ∧ y.y.name = "<init>" ∧ Jvm.Cond.instanceMethod y.y ∈ lw_tbl
def snOK (own : String) (k : Nat) (y : m0T) : Prop := m0OK y ∧ y.hh = [] ∧ (∃ host, Jvm.Cond.methodLinkNest own k y.y host ∈ lw_tbl) ∧ Jvm.Cond.static y.y ∈ lw_tbl
def inOK (own : String) (k : Nat) (y : m0T) : Prop := m0OK y ∧ y.hh = [] ∧ y.ret = none ∧ (∃ host, Jvm.Cond.methodLinkNest own k y.y host ∈ lw_tbl) ∧ y.y.name = "<init>" ∧ Jvm.Cond.instanceMethod y.y ∈ lw_tbl
def uOK (own : String) (k : Nat) (y : m0T) : Prop := m0OK y ∧ y.hh = [] ∧ Jvm.Cond.methodLink own k y.y ∈ lw_tbl ∧ Jvm.Cond.instanceMethod y.y ∈ lw_tbl ∧ Jvm.Cond.sameMethod y.y.cls y.y.cls y.y.name y.y.desc ∈ lw_tbl ∧ (Jvm.Cond.selects RJ4 y.y y.y ∈ lw_tbl ∨ Jvm.Cond.privateMethod y.y ∈ lw_tbl)
def suOK (own : String) (k : Nat) (y : m0T) : Prop := m0OK y ∧ y.hh = [] ∧ Jvm.Cond.methodLink own k y.y ∈ lw_tbl ∧ Jvm.Cond.instanceMethod y.y ∈ lw_tbl ∧ Jvm.Cond.sameMethod y.y.cls y.y.cls y.y.name y.y.desc ∈ lw_tbl ∧ Jvm.Cond.superclass own y.y.cls ∈ lw_tbl ∧ y.y.name ≠ "<init>"
abbrev hgoT (G : gT) (M : mT) (d : Nat) (K : Option Value → xW → Prop) (KX : Nat → xW → Prop) (go : recT) : Prop := ∀ bc bs pc ls st w, go bc bs pc ls st w → AW G M d bc bs pc ls st w K KX
theorem go_ret (hgo : hgoT G M d K KX go) (C : Ctx G M d A R p e s m args meth c) (F : FinQ G M A ad0 R p e s m args below meth c Q K KX) {H' : Heap} {locs' : List Loc} {cells slots mc ms np : Nat} {ad ad' : List Nat} {ws' : va_W} {w' : xW} {lc : Array Slot} {rest cr : List Value} {v cv : Option Value} (hk : wpC go np ls rest (bc - mc) (bs - ms) v w') (ho : rO G ad' v cv) (hm : adM ad ad') (hW : WAt G A ad0 s.heap H' locs' w' ad' ws') (hL : rL G ad ls lc M.m.nL) (hS : rVs G ad rest cr) (h1 : cells + bc ≤ R.cells) (h2 : slots + bs ≤ R.slots) (hmc : mc ≤ bc) (hms : ms ≤ bs) :
    W p G.l e R s m args below meth c H' locs' (cells + mc) (slots + ms) Q (F0 m np lc (cv.toList ++ cr)) := by
  cases v with
  | none =>
    cases (show cv = none from ho)
    have hk : fW w' (fun w => go (bc - mc) (bs - ms) np ls rest w) := hk
    rw [fW_eq] at hk
    exact hgo _ _ _ _ _ _ hk A ad0 R p e s m args below meth c Q C F ad' ws' H' locs' (cells + mc) (slots + ms) lc cr hW (hL.mono hm) (hS.mono hm) (by omega) (by omega)
  | some v =>
    obtain ⟨c', rfl, hv⟩ := ho
    have hk : fV v (fun v => fW w' (fun w => go (bc - mc) (bs - ms) np ls (v :: rest) w)) := hk
    rw [fV_eq, fW_eq] at hk
    exact hgo _ _ _ _ _ _ hk A ad0 R p e s m args below meth c Q C F ad' ws' H' locs' (cells + mc) (slots + ms) lc (c' :: cr) hW (hL.mono hm) (.cons hv (hS.mono hm)) (by omega) (by omega)
theorem q_callS0 (hg : gOK G) (hgo : hgoT G M d K KX go) {k : Nat} {y : m0T} {as rest : List Value} (hx : sOK M.m.y.cls k y) (hpop : popN y.na [] st = some (as, rest)) (hcat : catS rest ≤ 8) (hd : decode M.m.cc pc = .ok (.invokestatic k, 3)) (h : CallC G d bc bs y as w (wpC go (pc + 3) ls rest) (fun _ _ => False)) : AW G M d bc bs pc ls st w K KX := by
  intro A ad0 R p e s m args below meth c Q C F ad ws H locs cells slots lc sc hW hL hS h1 h2
  obtain ⟨d', mc, ms, hd', hmc, hms, hSp⟩ := h
  obtain ⟨ca, cr, rfl, hca, hcr, hlen⟩ := popN_rel hpop hS
  obtain ⟨hy, hhh, hl, hst⟩ := hx
  have hM := hSp ad ws H.size ca hW.2.1 hca
  rw [m0T.w_nil hhh] at hM
  have hpay := pay C hg hy
  have hwc := C.wrd hg hy.1 hy.2.1
  rw [m0T.w_nil hhh] at hpay hwc
  have hrm := room_le (mc := mc) (ms := ms) hy hd' C.2.2.2.2.2.2.2.2.2.2.1 C.2.2.2.2.2.2.2.2.2.2.2.1
  refine call_end C hW (vx_runS (Ts := []) ⟨C.1, C.2.1, C.2.2.2.1, C.2.2.2.2.1, fun w h => by cases h⟩ hM ⟨⟨rfl, rfl, hrm.1, hrm.2, hpay, List.mem_cons_self, hwc, C.wrd hg hy.2.2.2.1 rfl, hy.2.2.2.2.1, hy.len, C.wrd hg hl rfl⟩, C.wrd hg hst rfl⟩ ⟨PcS.blind, PcS.pre C hW ca⟩ rfl hlen hL.1 rfl (by rw [catS_rel hg.cat hcr]; show 2 * 0 + _ ≤ 8; omega) hd ⟨by omega, by omega⟩) ?_ ?_
  · intro v cv w' ad' ws' H' locs' hK ho hm hW'
    exact go_ret hgo C F hK ho hm hW' hL hcr h1 h2 hmc hms
  · intro E w' ad' ws' H' locs' q ce hKX
    exact hKX.elim
theorem q_callV0 (hg : gOK G) (hgo : hgoT G M d K KX go) {k ci b : Nat} {y : m0T} {fs as rest : List Value} (hx : vOK M.m.y.cls k y ci) (hpop : popN y.na [] st = some (as, .ref b :: rest)) (hb : nth w b = some (.inr (ci, fs))) (hcat : catS rest ≤ 8) (hd : decode M.m.cc pc = .ok (.invokevirtual k, 3)) (h : CallC G d bc bs y (.ref b :: as) w (wpC go (pc + 3) ls rest) (fun _ _ => False)) : AW G M d bc bs pc ls st w K KX := by
  intro A ad0 R p e s m args below meth c Q C F ad ws H locs cells slots lc sc hW hL hS h1 h2
  obtain ⟨d', mc, ms, hd', hmc, hms, hSp⟩ := h
  obtain ⟨ca, cr, rfl, hca, ⟨cb, cr, rfl, ⟨a, ha, rfl⟩, hcr⟩, hlen⟩ := popN_rel hpop hS
  obtain ⟨hy, hhh, hl, hin, hsel, T, N, hcl⟩ := hx
  obtain ⟨e', q2, ⟨fs', rfl, hfs⟩⟩ := hW.cell hb ha
  have hM := hSp ad ws H.size (.ref a :: ca) hW.2.1 (.cons ⟨a, ha, rfl⟩ hca)
  rw [m0T.w_nil hhh] at hM
  have hpay := pay C hg hy
  have hwc := C.wrd hg hy.1 hy.2.1
  rw [m0T.w_nil hhh] at hpay hwc
  have hrm := room_le (mc := mc) (ms := ms) hy hd' C.2.2.2.2.2.2.2.2.2.2.1 C.2.2.2.2.2.2.2.2.2.2.2.1
  refine call_end C hW (vx_runV (Ts := []) ⟨C.1, C.2.1, C.2.2.2.1, C.2.2.2.2.1, fun w h => by cases h⟩ hM ⟨⟨rfl, rfl, hrm.1, hrm.2, hpay, List.mem_cons_self, hwc, C.wrd hg hy.2.2.2.1 rfl, hy.2.2.2.2.1, hy.len, C.wrd hg hl rfl⟩, C.wrd hg hin rfl, C.wrd hg hsel rfl⟩ ⟨PcS.blind, va_recv (C.kk hg) hW.2.2.1 hcl q2, PcS.pre C hW _⟩ rfl hlen hL.1 rfl (by rw [catS_rel hg.cat hcr]; show 2 * 0 + _ ≤ 8; omega) hd ⟨by omega, by omega⟩) ?_ ?_
  · intro v cv w' ad' ws' H' locs' hK ho hm hW'
    exact go_ret hgo C F hK ho hm hW' hL hcr h1 h2 hmc hms
  · intro E w' ad' ws' H' locs' q ce hKX
    exact hKX.elim
theorem xcs_no {ad : List Nat} {ws : va_W} {sz : Nat} : ∀ E st t, ¬ XcS G ad ws sz (fun _ _ => False) E st t := fun E st t ⟨_, _, _, _, h, _⟩ => h
theorem q_callI (hg : gOK G) (hgo : hgoT G M d K KX go) {k b : Nat} {y : m0T} {as rest : List Value} (hx : iOK M.m.y.cls k y) (hpop : popN y.na [] st = some (as, .ref b :: rest)) (hcat : catS rest ≤ 8) (hd : decode M.m.cc pc = .ok (.invokespecial k, 3)) (h : CallC G d bc bs y (.ref b :: as) w (wpC go (pc + 3) ls rest) (fun _ _ => False)) : AW G M d bc bs pc ls st w K KX := by
  intro A ad0 R p e s m args below meth c Q C F ad ws H locs cells slots lc sc hW hL hS h1 h2
  obtain ⟨d', mc, ms, hd', hmc, hms, hSp⟩ := h
  obtain ⟨ca, cr, rfl, hca, ⟨cb, cr, rfl, ⟨a, ha, rfl⟩, hcr⟩, hlen⟩ := popN_rel hpop hS
  obtain ⟨hy, hhh, hret, hl, hnm, hin⟩ := hx
  have hM := met_of (hSp ad ws H.size (.ref a :: ca) hW.2.1 (.cons ⟨a, ha, rfl⟩ hca)) xcs_no
  rw [m0T.w_nil hhh, hret] at hM
  have hpay := pay C hg hy
  have hwc := C.wrd hg hy.1 hy.2.1
  rw [m0T.w_nil hhh, hret] at hpay hwc
  have hrm := room_le (mc := mc) (ms := ms) hy hd' C.2.2.2.2.2.2.2.2.2.2.1 C.2.2.2.2.2.2.2.2.2.2.2.1
  refine call_end (KXc := fun _ _ => False) C hW (run_of_run (va_runI (Ts := []) ⟨C.1, C.2.1, C.2.2.2.1, C.2.2.2.2.1, fun w h => by cases h⟩ hM ⟨⟨rfl, rfl, hrm.1, hrm.2, hpay, List.mem_cons_self, hwc, C.wrd hg hy.2.2.2.1 rfl, hy.2.2.2.2.1, hy.len, C.wrd hg hl rfl⟩, hnm, C.wrd hg hin rfl⟩ ⟨PcS.blind, PcS.pre C hW _⟩ rfl hlen hL.1 rfl (by rw [catS_rel hg.cat hcr]; show 2 * 0 + _ ≤ 8; omega) hd ⟨by omega, by omega⟩)) ?_ ?_
  · intro v cv w' ad' ws' H' locs' hK ho hm hW'
    exact go_ret hgo C F hK ho hm hW' hL hcr h1 h2 hmc hms
  · intro E w' ad' ws' H' locs' q ce hKX
    exact hKX.elim
theorem q_callSN (hg : gOK G) (hgo : hgoT G M d K KX go) {k : Nat} {y : m0T} {as rest : List Value} (hx : snOK M.m.y.cls k y) (hpop : popN y.na [] st = some (as, rest)) (hcat : catS rest ≤ 8) (hd : decode M.m.cc pc = .ok (.invokestatic k, 3)) (h : CallC G d bc bs y as w (wpC go (pc + 3) ls rest) (fun _ _ => False)) : AW G M d bc bs pc ls st w K KX := by
  intro A ad0 R p e s m args below meth c Q C F ad ws H locs cells slots lc sc hW hL hS h1 h2
  obtain ⟨d', mc, ms, hd', hmc, hms, hSp⟩ := h
  obtain ⟨ca, cr, rfl, hca, hcr, hlen⟩ := popN_rel hpop hS
  obtain ⟨hy, hhh, ⟨host, hl⟩, hst⟩ := hx
  have hM := met_of (hSp ad ws H.size ca hW.2.1 hca) xcs_no
  rw [m0T.w_nil hhh] at hM
  have hpay := pay C hg hy
  have hwc := C.wrd hg hy.1 hy.2.1
  rw [m0T.w_nil hhh] at hpay hwc
  have hrm := room_le (mc := mc) (ms := ms) hy hd' C.2.2.2.2.2.2.2.2.2.2.1 C.2.2.2.2.2.2.2.2.2.2.2.1
  refine call_end (KXc := fun _ _ => False) C hW (run_of_run (va_runSN (host := host) (Ts := []) ⟨C.1, C.2.1, C.2.2.2.1, C.2.2.2.2.1, fun w h => by cases h⟩ hM ⟨⟨⟨rfl, rfl, hrm.1, hrm.2, hpay, List.mem_cons_self⟩, hwc, C.wrd hg hy.2.2.2.1 rfl, hy.2.2.2.2.1, hy.len, va_Nw.use rfl (C.nestM hg hl)⟩, C.wrd hg hst rfl, trivial⟩ ⟨PcS.blind, PcS.pre C hW ca⟩ rfl hlen hL.1 rfl (by rw [catS_rel hg.cat hcr]; show 2 * 0 + _ ≤ 8; omega) hd ⟨by omega, by omega⟩)) ?_ ?_
  · intro v cv w' ad' ws' H' locs' hK ho hm hW'
    exact go_ret hgo C F hK ho hm hW' hL hcr h1 h2 hmc hms
  · intro E w' ad' ws' H' locs' q ce hKX
    exact hKX.elim
theorem q_callIN (hg : gOK G) (hgo : hgoT G M d K KX go) {k b : Nat} {y : m0T} {as rest : List Value} (hx : inOK M.m.y.cls k y) (hpop : popN y.na [] st = some (as, .ref b :: rest)) (hcat : catS rest ≤ 8) (hd : decode M.m.cc pc = .ok (.invokespecial k, 3)) (h : CallC G d bc bs y (.ref b :: as) w (wpC go (pc + 3) ls rest) (fun _ _ => False)) : AW G M d bc bs pc ls st w K KX := by
  intro A ad0 R p e s m args below meth c Q C F ad ws H locs cells slots lc sc hW hL hS h1 h2
  obtain ⟨d', mc, ms, hd', hmc, hms, hSp⟩ := h
  obtain ⟨ca, cr, rfl, hca, ⟨cb, cr, rfl, ⟨a, ha, rfl⟩, hcr⟩, hlen⟩ := popN_rel hpop hS
  obtain ⟨hy, hhh, hret, ⟨host, hl⟩, hnm, hin⟩ := hx
  have hM := met_of (hSp ad ws H.size (.ref a :: ca) hW.2.1 (.cons ⟨a, ha, rfl⟩ hca)) xcs_no
  rw [m0T.w_nil hhh, hret] at hM
  have hpay := pay C hg hy
  have hwc := C.wrd hg hy.1 hy.2.1
  rw [m0T.w_nil hhh, hret] at hpay hwc
  have hrm := room_le (mc := mc) (ms := ms) hy hd' C.2.2.2.2.2.2.2.2.2.2.1 C.2.2.2.2.2.2.2.2.2.2.2.1
  refine call_end (KXc := fun _ _ => False) C hW (run_of_run (va_runIN (host := host) (Ts := []) ⟨C.1, C.2.1, C.2.2.2.1, C.2.2.2.2.1, fun w h => by cases h⟩ hM ⟨⟨⟨rfl, rfl, hrm.1, hrm.2, hpay, List.mem_cons_self⟩, hwc, C.wrd hg hy.2.2.2.1 rfl, hy.2.2.2.2.1, hy.len, va_Nw.use rfl (C.nestM hg hl)⟩, hnm, C.wrd hg hin rfl⟩ ⟨PcS.blind, PcS.pre C hW _⟩ rfl hlen hL.1 rfl (by rw [catS_rel hg.cat hcr]; show 2 * 0 + _ ≤ 8; omega) hd ⟨by omega, by omega⟩)) ?_ ?_
  · intro v cv w' ad' ws' H' locs' hK ho hm hW'
    exact go_ret hgo C F hK ho hm hW' hL hcr h1 h2 hmc hms
  · intro E w' ad' ws' H' locs' q ce hKX
    exact hKX.elim
theorem q_callSW (hg : gOK G) (hgo : hgoT G M d K KX go) {k : Nat} {y : m0T} {as rest : List Value} (hx : swOK M.m.y.cls k y) (hpop : popN y.na [] st = some (as, rest)) (hcat : catS rest ≤ 8) (hd : decode M.m.cc pc = .ok (.invokestatic k, 3)) (h : CallC G d bc bs y as w (wpC go (pc + 3) ls rest) (fun _ _ => False)) : AW G M d bc bs pc ls st w K KX := by
  intro A ad0 R p e s m args below meth c Q C F ad ws H locs cells slots lc sc hW hL hS h1 h2
  obtain ⟨d', mc, ms, hd', hmc, hms, hSp⟩ := h
  obtain ⟨ca, cr, rfl, hca, hcr, hlen⟩ := popN_rel hpop hS
  obtain ⟨hy, hhh, hl, hst⟩ := hx
  have hM := met_of (hSp ad ws H.size ca hW.2.1 hca) xcs_no
  rw [m0T.w_cons hhh] at hM
  have hpay := pay C hg hy
  have hwc := C.wrd hg hy.1 hy.2.1
  rw [m0T.w_cons hhh] at hpay hwc
  have hrm := room_le (mc := mc) (ms := ms) hy hd' C.2.2.2.2.2.2.2.2.2.2.1 C.2.2.2.2.2.2.2.2.2.2.2.1
  refine call_end (KXc := fun _ _ => False) C hW (run_of_run (vx_runSW (Ts := []) ⟨C.1, C.2.1, C.2.2.2.1, C.2.2.2.2.1, fun w h => by cases h⟩ hM ⟨⟨rfl, rfl, hrm.1, hrm.2, hpay, List.mem_cons_self⟩, hwc, C.wrd hg hy.2.2.2.1 rfl, hy.2.2.2.2.1, hy.len, C.wrd hg hl rfl, C.wrd hg hst rfl⟩ ⟨PcS.blind, PcS.pre C hW ca⟩ rfl hlen hL.1 rfl (by rw [catS_rel hg.cat hcr]; show 2 * 0 + _ ≤ 8; omega) hd ⟨by omega, by omega⟩)) ?_ ?_
  · intro v cv w' ad' ws' H' locs' hK ho hm hW'
    exact go_ret hgo C F hK ho hm hW' hL hcr h1 h2 hmc hms
  · intro E w' ad' ws' H' locs' q ce hKX
    exact hKX.elim
end QC
