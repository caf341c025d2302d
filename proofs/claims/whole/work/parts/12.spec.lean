/-! ===== a method's contract out of its walk ===== -/
def entL : List Value → Nat → List (Option Value)
  | _, 0 => []
  | [], n + 1 => none :: entL [] n
  | v :: vs, n + 1 => some v :: entL vs n
theorem entL_at : ∀ (vs : List Value) (n i : Nat) (v : Value), (entL vs n)[i]? = some (some v) → vs[i]? = some v
  | vs, 0, i, v, h => by cases vs <;> simp [entL] at h
  | [], n + 1, 0, v, h => by simp [entL] at h
  | [], n + 1, i + 1, v, h => by
    simp [entL] at h
    have := entL_at [] n i v h
    simp at this
  | x :: vs, n + 1, 0, v, h => by simp [entL] at h; simpa using h
  | x :: vs, n + 1, i + 1, v, h => by
    simp [entL] at h
    simpa using entL_at vs n i v h
theorem lg_one : ∀ (vs : List Value), (∀ v ∈ vs, v.category = 1) → (lg_sl vs).length = vs.length
  | [], _ => rfl
  | v :: vs, h => by
    have h1 := h v List.mem_cons_self
    have h2 := lg_one vs (fun x hx => h x (List.mem_cons_of_mem _ hx))
    unfold lg_sl at h2 ⊢
    rw [List.flatMap_cons, List.length_append, h2, h1]
    simp; omega
theorem lv_args_one : ∀ (vs : List Value) (k : Nat), (∀ v ∈ vs, v.category = 1) → ∀ (i : Nat) (v : Value), vs[i]? = some v → (k + i, v) ∈ lv_args k vs
  | [], _, _, i, v, hi => by simp at hi
  | x :: vs, k, h, 0, v, hi => by
    simp at hi
    subst hi
    unfold lv_args
    exact List.mem_cons_self
  | x :: vs, k, h, i + 1, v, hi => by
    simp at hi
    unfold lv_args
    have h1 := h x List.mem_cons_self
    rw [if_neg (by omega)]
    have := lv_args_one vs (k + 1) (fun y hy => h y (List.mem_cons_of_mem _ hy)) i v hi
    rw [show k + 1 + i = k + (i + 1) by omega] at this
    exact List.mem_cons_of_mem _ this
section SP
variable {G : gT} {M : mT} {d mc ms : Nat} {w : xW} {K : Option Value → xW → Prop} {KX : Nat → xW → Prop}
variable {A : Nat → Prop} {ad0 : List Nat} {R : Room} {p : Program} {e : Env} {s : State} {m : MethodId} {args : Array Value} {below : List Frame} {meth : Method} {c : Code} {Q : State → Prop}
theorem codeOK.at (h : codeOK M) {pc : Nat} {i : Instr} {np tg : Nat} (hc : M.cd pc = some (i, np, tg)) (hs : isSw i = false) : decode M.m.cc pc = .ok (i, iLen i) := by
  obtain ⟨⟨n, hd, hn⟩, -, -⟩ := h pc i np tg hc
  rw [hd, (hn hs).1]
theorem fin_met (hg : gOK G) (hm : mOK M) {ws : va_W} {sz mc ms : Nat} (hA : A = va_A ws sz) (C : Ctx G M d A R p e s m args meth c) (hc : R.cells = mc) (hs : R.slots = ms) :
    FinQ G M A ad0 R p e s m args below meth c (vx_MQ below (QcS G ad0 ws sz K) (XcS G ad0 ws sz KX) args s mc ms (va_A ws sz)) K KX := by
  obtain ⟨hy, hcp, hco, hth, hhn, hini, -, -, hre⟩ := hm
  have hlocks := C.2.2.2.2.2.1
  have hret := C.2.2.1
  subst hA
  constructor
  · intro pc v cv w ad ws1 H locs cells slots lc hK hr ho hW h1 h2
    have hq : ∀ t : State, t.heap = H → s.WarmedH t.vm → QcS G ad0 ws sz K args s (.returned cv) t := fun t ht _ =>
      ⟨v, cv, w, ad, rfl, ho, hK, hW.1, ws1, hW.2.1, by rw [ht]; exact hW.2.2.1, hW.2.2.2.1, hW.2.2.2.2.F ht⟩
    rw [hc] at h1
    rw [hs] at h2
    refine W.widen h1 h2 (vx_ret ?_)
    obtain ⟨n, t, hr⟩ := hr
    cases v with
    | none =>
      cases (show cv = none from ho)
      exact W.vret C.1 C.2.1 (hret.trans hr.2) hq hW.2.2.2.2.2.2 (hco.at hr.1 rfl)
    | some v =>
      obtain ⟨c', rfl, hv⟩ := ho
      cases v with
      | int x =>
        cases (show c' = _ from hv)
        obtain ⟨h3, ty, h4, h5⟩ := hr
        exact W.zret C.1 C.2.1 (hret.trans h4) h5 hq hW.2.2.2.2.2.2 (hco.at h3 rfl)
      | float x =>
        cases (show c' = _ from hv)
        exact W.fret C.1 C.2.1 (hret.trans hr.2) hq hW.2.2.2.2.2.2 (hco.at hr.1 rfl)
      | double x =>
        cases (show c' = _ from hv)
        exact W.dret C.1 C.2.1 (hret.trans hr.2) hq hW.2.2.2.2.2.2 (hco.at hr.1 rfl)
      | ref x =>
        obtain ⟨h3, h4⟩ := hr
        obtain ⟨a, -, rfl⟩ := hv
        rcases h4 with ⟨C9, h4⟩ | ⟨C9, h4⟩
        · exact W.aret C.1 C.2.1 (hret.trans h4) (Or.inl ⟨_, rfl⟩) (Or.inr ⟨_, rfl⟩) hq hW.2.2.2.2.2.2 (hco.at h3 rfl)
        · exact W.aret C.1 C.2.1 (hret.trans h4) (Or.inr ⟨_, rfl⟩) (Or.inr ⟨_, rfl⟩) hq hW.2.2.2.2.2.2 (hco.at h3 rfl)
      | retAddr x =>
        obtain ⟨h3, h4⟩ := hr
        cases (show c' = _ from hv)
        have hv9 := hg.2.2.2.2.1 x
        rcases h4 with ⟨C9, h4⟩ | ⟨C9, h4⟩
        · exact W.aret C.1 C.2.1 (hret.trans h4) (Or.inl ⟨_, rfl⟩) hv9 hq hW.2.2.2.2.2.2 (hco.at h3 rfl)
        · exact W.aret C.1 C.2.1 (hret.trans h4) (Or.inr ⟨_, rfl⟩) hv9 hq hW.2.2.2.2.2.2 (hco.at h3 rfl)
      | long x => exact hr.elim
      | null => exact hr.elim
  · intro pc x w ad ws1 H locs cells slots lc hKX hr h6 h7 hlc hW h1 h2
    obtain ⟨hhh, ik, iS, ic, text, t1, t2, t3, t4, d0, d3, d4⟩ := hth pc x hr
    obtain ⟨sa, hsa⟩ := hg.2.2.2.2.2.2.2.2.2.2.2.1 _ _ _ t3
    have hW0 := C.2.2.2.2.2.2.1
    have hx : ∀ t : State, s.vm.Alike t.vm → H.size ≤ t.heap.size → (∀ q : Nat, q < H.size → t.heap[q]? = H[q]?) → XcS G ad0 ws sz KX (exN x) s t := fun t _ h3 h4 =>
      ⟨x, w, ad, rfl, hKX, hW.1, ws1, hW.2.1, hW.2.2.1.kept (fun k q hk => h4 _ (hW.2.2.1 k q hk).lt), hW.2.2.2.1, ⟨Nat.le_trans hW.2.2.2.2.1 h3, fun q h8 h9 => by rw [h4 q (Nat.lt_of_lt_of_le h8 hW.2.2.2.2.1)]; exact hW.2.2.2.2.2.1 q h8 h9⟩⟩
    have hout : ∀ (z : Nat), ∀ y ∈ c.exceptionTable.toList, covers y z = false := fun z y hy2 => by
      rw [C.2.2.2.2.2.2.2.2.2.2.2.2.2, hhh] at hy2
      cases hy2
    have hat : ∀ q ∈ exW M.m.y.cls ic x, q.before args s = true := fun q hq => tr_at hW0 (t4 q hq).2.1 (hg.1 q (t4 q hq).1)
    have hgood : ∀ q ∈ Jvm.Cond.classLink M.m.y.cls ik (exN x) :: Jvm.Cond.initialized (exN x) :: exW M.m.y.cls ic x, vx_ot q = true := by
      intro q hq
      rcases List.mem_cons.mp hq with rfl | hq
      · rfl
      rcases List.mem_cons.mp hq with rfl | hq
      · rfl
      exact (t4 q hq).2.2
    have hfit : Bundle.fit (exN x) = true := by
      unfold exN
      split <;> decide +kernel
    have hrx := exRx_ok x
    have fin9 : ∀ z, ((decode M.m.cc (pc + 4) = .ok (.ldc iS, 2) ∧ z = pc + 6) ∨ (decode M.m.cc (pc + 4) = .ok (.ldc_w iS, 3) ∧ z = pc + 7)) → decode M.m.cc z = .ok (.invokespecial ic, 3) → decode M.m.cc (z + 3) = .ok (.athrow, 1) → _ := fun z d4 d6 d9 =>
      tr_throw (e := e) (r := ["java/lang/Exception"]) (below := below) (Qc := QcS G ad0 ws sz K) (mc := mc) (ms := ms) (free := va_A ws sz) C.1 C.2.1 hg.2.2.2.2.2.2.2.2.2.2.1 hrx.1 hrx.2.1 hrx.2.2.1 hrx.2.2.2 C.2.2.2.2.1 hfit (by decide +kernel) (by decide +kernel) (C.wrd hg t1 rfl) (C.wrd hg t2 rfl) (hsa.warm hW0) hat hgood (C.vq hg.2.2.2.2.2.2.2.2.1) (C.vq hg.2.2.2.2.2.2.2.2.2.1) hW.2.2.2.2 (by rw [C.2.2.2.1]; exact hlc) d0 d3 d4 d6 d9 (hout _) (show 1 + 4 < R.frames by omega) (show 13 * 3 + 43 ≤ R.locals by omega) h1 h2 hlocks hx hW.2.2.2.2.2.2 (by omega) (by omega)
    rcases d4 with ⟨d4, d6, d9⟩ | ⟨d4, d7, d10⟩
    · exact fin9 _ (Or.inl ⟨d4, rfl⟩) d6 d9
    · exact fin9 _ (Or.inr ⟨d4, rfl⟩) d7 d10
theorem spec_body (hg : gOK G) (hm : mOK M) {as : List Value} (hcat : ∀ v ∈ as, v.category = 1) (hlen : as.length ≤ M.m.nL) (h : AW G M d mc ms 0 (entL as M.m.nL) [] w K KX) {ad : List Nat} {ws : va_W} {sz : Nat} {ca : List Value} (hrw : rW G ad w ws) (hra : rVs G ad as ca)
    (p : Program) (e : Env) (s : State) (m : MethodId) (args : Array Value) (below : List Frame) (meth : Method) (c : Code) (s₁ : State) (B : BodyLoose p G.l M.m.y (headSpec [M.m.w] (rmS d mc ms)) M.m.cc M.m.nL M.m.ret e s m args below meth c s₁) (hml : c.maxLocals = M.m.nL) (htab : c.exceptionTable.toList = tableOf M.m.hh) (hP : PcS G ws sz ca args s) :
    W p G.l e (headSpec [M.m.w] (rmS d mc ms)).room s m args below meth c s.heap [] 0 0 (vx_MQ below (QcS G ad ws sz K) (XcS G ad ws sz KX) args s mc ms (va_A ws sz)) (entryFrame m args M.m.nL) := by
  obtain ⟨rfl, hsz, hwm, hlow, hPP, hDD⟩ := hP
  have hin : M.ini = true → meth.name = "<init>" := fun q => by
    rw [(name_of_methodNamed B.named B.method).1]; exact hm.2.2.2.2.2.1 q
  have C : Ctx G M d (va_A ws sz) (headSpec [M.m.w] (rmS d mc ms)).room p e s m ca.toArray meth c :=
    ⟨B.exec, B.bytes, B.returns, hml, findClass_of_methodNamed B.named, B.notSynchronized, hwm, hlow, (fun q hq => by
      rcases hq with ⟨k, x, hk⟩ | hq
      · exact hDD.2 k (q, x) hk
      · exact Nat.le_trans hlow.1 (by rw [hsz]; exact hq)), (fun q hq => Or.inr (by rw [← hsz]; exact hq)), Nat.le_refl d, Nat.le_refl (64 * d), hin, htab⟩
  have hc1 : ∀ v ∈ ca, v.category = 1 := by
    intro v hv
    obtain ⟨i, hi⟩ := List.getElem?_of_mem hv
    have hlt : i < as.length := by rw [← hra.len]; exact (List.getElem?_eq_some_iff.mp hi).1
    obtain ⟨c9, h1, h2⟩ := hra.at (List.getElem?_eq_getElem hlt)
    cases hi.symm.trans h1
    rw [h2.cat hg.cat]
    exact hcat _ (List.getElem_mem hlt)
  have hl := lv_entry ca (n := M.m.nL) (by rw [lg_one ca hc1, hra.len]; exact hlen)
  rw [lg_entry_eq]
  refine h (va_A ws sz) ad _ p e s m ca.toArray below meth c _ C (fin_met hg hm rfl C rfl rfl) ad ws s.heap [] 0 0 _ [] ⟨adM.rf, hrw, hPP, hDD.self, va_S.rf⟩ ⟨hl.1, hl.2.1, fun i v hv => ?_⟩ rfl (by show 0 + mc ≤ mc; omega) (by show 0 + ms ≤ ms; omega)
  obtain ⟨c9, h1, h2⟩ := hra.at (entL_at as M.m.nL i v hv)
  refine ⟨c9, h2, ?_⟩
  have := lv_args_one ca 0 hc1 i c9 h1
  rw [Nat.zero_add] at this
  exact hl.2.2 _ this
/-- THE CONTRACT OUT OF THE WALK -/
theorem spec_of (hg : gOK G) (hm : mOK M) {as : List Value} (hcat : ∀ v ∈ as, v.category = 1) (hlen : as.length ≤ M.m.nL) (h : AW G M d mc ms 0 (entL as M.m.nL) [] w K KX) : Spec G d mc ms M.m as w K KX := by
  intro ad ws sz ca hrw hra
  by_cases hh : M.m.hh = []
  · have hw := m0T.w_nil hh
    refine vx_ofW hm.2.2.2.2.2.2.2.1 (by rw [hw]) (fun p e s m args below meth c s₁ B hml ht hP => ?_)
    refine spec_body hg hm hcat hlen h hrw hra p e s m args below meth c s₁ B hml ?_ hP
    rw [hh]
    cases ht9 : c.exceptionTable.toList with
    | nil => rfl
    | cons x l => exact (ht x (by rw [ht9]; exact List.mem_cons_self)).elim
  · have hw := m0T.w_cons hh
    refine vx_ofWH hm.2.2.2.2.2.2.2.1 (by rw [hw]) (fun p e s m args below meth c s₁ B hml hP => ?_)
    refine spec_body hg hm hcat hlen h hrw hra p e s m args below meth c s₁ B hml ?_ hP
    exact vx_table (x := M.m.y) B (atoms_spec (ws := [M.m.w]) B.pre _ (by rw [hw]; exact List.mem_cons_self))
end SP
