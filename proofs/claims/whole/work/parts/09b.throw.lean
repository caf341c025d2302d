/-! ===== a throw whose class's constructor has any entry for its superclass's ===== -/
/-- the words of such a throw -/
def trA (own : String) (ic : Nat) (X Y : String) (ix : Nat) (rx : ByteArray) (r : List String) : List Jvm.Cond :=
  (Bundle.throwableAtoms ++ Bundle.throwableSAtoms) ++ (Bundle.passSAtoms X Y ix rx ++ (Bundle.chainSAtoms Y r ++
  [.methodLink own ic (Bundle.initS X), .instantiable X 6, .castable X X, .selects X Bundle.tFill0 Bundle.tFill0, .selects X Bundle.tFill Bundle.tFill, .lays X Bundle.tN "cause" "Ljava/lang/Throwable;", .lays X Bundle.tN "stackTrace" Bundle.steD, .lays X Bundle.tN "suppressedExceptions" Bundle.listD,
   .lays X Bundle.tN "detailMessage" "Ljava/lang/String;", .lays X Bundle.tN "backtrace" "Ljava/lang/Object;", .isRef (.static Bundle.tN "UNASSIGNED_STACK" Bundle.steD), .isRef (.static Bundle.tN "SUPPRESSED_SENTINEL" Bundle.listD), .fieldLink Bundle.tN 198 Bundle.tN "backtrace" "Ljava/lang/Object;", .lays Bundle.tN Bundle.tN "backtrace" "Ljava/lang/Object;"]))
theorem trA_1 {own X Y : String} {ic ix : Nat} {rx : ByteArray} {r : List String} {P : Jvm.Cond → Prop} (h : ∀ a ∈ trA own ic X Y ix rx r, P a) :
    (∀ a ∈ Bundle.throwableAtoms, P a) ∧ (∀ a ∈ Bundle.throwableSAtoms, P a) ∧ (∀ a ∈ Bundle.passSAtoms X Y ix rx, P a) ∧ (∀ a ∈ Bundle.chainSAtoms Y r, P a) ∧ P (.methodLink own ic (Bundle.initS X)) ∧ P (.instantiable X 6) ∧ P (.castable X X) ∧ P (.selects X Bundle.tFill0 Bundle.tFill0) ∧ P (.selects X Bundle.tFill Bundle.tFill) ∧
    P (.lays X Bundle.tN "cause" "Ljava/lang/Throwable;") ∧ P (.lays X Bundle.tN "stackTrace" Bundle.steD) ∧ P (.lays X Bundle.tN "suppressedExceptions" Bundle.listD) ∧ P (.lays X Bundle.tN "detailMessage" "Ljava/lang/String;") ∧ P (.lays X Bundle.tN "backtrace" "Ljava/lang/Object;") ∧
    P (.isRef (.static Bundle.tN "UNASSIGNED_STACK" Bundle.steD)) ∧ P (.isRef (.static Bundle.tN "SUPPRESSED_SENTINEL" Bundle.listD)) ∧ P (.fieldLink Bundle.tN 198 Bundle.tN "backtrace" "Ljava/lang/Object;") ∧ P (.lays Bundle.tN Bundle.tN "backtrace" "Ljava/lang/Object;") := by
  have h1 : ∀ a, a ∈ trA own ic X Y ix rx r → P a := h
  simp only [trA, List.mem_append, List.mem_cons, List.not_mem_nil, or_false] at h1
  refine ⟨fun a q => h1 a (Or.inl (Or.inl q)), fun a q => h1 a (Or.inl (Or.inr q)), fun a q => h1 a (Or.inr (Or.inl q)), fun a q => h1 a (Or.inr (Or.inr (Or.inl q))), ?_, ?_, ?_, ?_, ?_, ?_, ?_, ?_, ?_, ?_, ?_, ?_, ?_, ?_⟩ <;> refine h1 _ (Or.inr (Or.inr (Or.inr ?_))) <;> simp
section TR
variable {p : Program} {l : Launch} {e : Env} {R : Room} {s : State} {m : MethodId} {args : Array Value} {below : List Frame} {meth : Method} {c : Code} {W0 : State} {locs : List Loc} {cells slots : Nat}
set_option maxHeartbeats 1000000 in
theorem tr_ctor (X : Stand p l e R s m args below meth c W0 locs cells slots) (hx : p.tables.exec = Jvm.exec) (htr : e.platform.stackTraces = false) {own cls Y : String} {r : List String} {ic ix : Nat} {rx : ByteArray}
    (x0 : decode rx 0 = .ok (.aload_n 0, 1)) (x1 : decode rx 1 = .ok (.aload_n 1, 1)) (x2 : decode rx 2 = .ok (.invokespecial ix, 3)) (x5 : decode rx 5 = .ok (.return_, 1))
    (hown : s.vm.findClass own = some m.cls) (hcls : Bundle.fit cls = true) (hY : Bundle.fit Y = true) (hr : ∀ n ∈ r, Bundle.fit n = true) (h : ∀ a ∈ trA own ic cls Y ix rx r, a.before args s = true)
    {a : Addr} {cX : ClassId} {kX : Class} (hfX : s.vm.findClass cls = some cX) (hkX : s.vm.classes[cX]? = some kX) (hcell : W0.heap[a]? = some (freshCell cX kX)) (hnew : s.heap.size ≤ a) (hlocs : locs = [])
    {msg : Value} (hmsg : msg.isRef = true) {g : JFrame} (hg : g.method = m) (hsize : g.locals.size = c.maxLocals) (hlk : g.locked = none) (hen : g.entered = []) {rest : List Value} (hst : g.stack = msg :: .ref a :: .ref a :: rest)
    (d6 : decode c.code g.pc = .ok (.invokespecial ic, 3)) (d9 : decode c.code (g.pc + 3) = .ok (.athrow, 1)) (hout : ∀ x ∈ c.exceptionTable.toList, covers x (g.pc + 3) = false)
    (hF : r.length + 4 < R.frames) (hL : 2 * g.monitorRoom + ((Value.ref a :: rest).map fun v => v.category).sum + (13 * (r.length + 2) + 42) ≤ R.locals) (hlocks : meth.locks = false) :
    ∃ U : State, Steps p.tables e below (W0.setTop g) U ∧ U.status = .running ∧ Ended U below (.threw a) ∧ s.WarmedH U.vm ∧ s.sameButNew ({ U with vm := s.vm } : State) [] cells slots ∧ ∃ ce, U.heap[a]? = some ce ∧ ce.vm = .none ∧ s.vm.findClass cls = some ce.cls := by
  subst hlocs
  have hpl : e.platform.magicAccessors = ({} : Platform).magicAccessors := by rw [X.admits.platform]
  obtain ⟨wT, wS, wP, wC, w1, w2, w3, w4, w5, w6, w7, w8, w9, w10, w11, w12, w13, w14⟩ := trA_1 (P := fun a => a.before args s = true) h
  obtain ⟨T, Z0, L, -, O⟩ := ThrowableC.of_atoms (args := args) (by rw [X.admits.platform]) (by rw [X.admits.platform]) hpl wT
  obtain ⟨Z, M, LZ, LM, hnZ⟩ := Init0T.ofS_atoms (args := args) hpl L O wS
  obtain ⟨P1, L1, hP1, hs1⟩ := PassC.ofS_atoms (args := args) (s := s) hpl (X := cls) (Y := Y) (Bundle.fit_spec hcls).1 (Bundle.fit_spec hY).2 x0 x1 x2 x5 wP
  obtain ⟨P2, Ps, hlen, L2, hLs, hP2, hk1, hk2⟩ := Bundle.chainS (args := args) hpl hnZ r Y hY hr wC
  have hf := findClass_of_methodNamed hP1
  cases Option.some.inj (hfX.symm.trans hf)
  obtain ⟨c1, kX', hc1, hk, hord, -, -, hn6⟩ := Cond.instantiable_spec w2
  cases Option.some.inj (hc1.symm.trans hf)
  cases Option.some.inj (hkX.symm.trans hk)
  have sel : ∀ {y : MethodName} {mi : MethodId}, s.methodNamed? y = some mi → s.methodFound? y.cls y.name y.desc = some mi → (Cond.selects cls y y).before args s = true → selectMethod e.platform s.vm P1.m.cls mi = .method mi := by
    intro y mi hy hy2 hw
    obtain ⟨c2, r2, m2, q1, q2, q3, q4, -⟩ := Cond.selects_spec hw
    cases Option.some.inj (q1.symm.trans hf)
    cases Option.some.inj (q2.symm.trans hy2)
    cases Option.some.inj (q3.symm.trans hy)
    rw [Launch.admits_selectMethod X.admits]; exact q4
  have s0 := sel O.fill0 (State.methodFound?_of_named O.fill0 (by decide)) w4
  have sF := sel O.fill (State.methodFound?_of_named O.fill (by decide)) w5
  obtain ⟨cS0, hcS0, hiss⟩ := O.statics
  obtain ⟨u0, hu0⟩ := Cond.staticRefV O.unassigned L.unassignedStatic L.statics hcS0 hiss w11
  obtain ⟨sen, hsen⟩ := Cond.staticRefV O.sentinel L.sentinelStatic L.statics hcS0 hiss w12
  obtain ⟨ci, i198, fB, hk198, hg198, ha198, hsB, -, hnB, htB, hffB⟩ := Cond.ownField (t := .object "java/lang/Object") O.found L.cls (by decide +kernel) w13 w14 e.platform hpl
  obtain ⟨cS, hcS, heS, -, hkeep⟩ := X.same.2.2.2.2.2 T.aS cS0 hcS0
  have hcS : W0.heap[T.aS]? = some cS := hcS
  have hkn : cS.vm ≠ .unknown := by
    intro hu
    rw [heS] at hu
    rw [show cS0.vm = .unknown from hu] at hiss
    cases hiss
  have hne : T.aS ≠ a := Nat.ne_of_lt (Nat.lt_of_lt_of_le (Array.getElem?_eq_some_iff.mp hcS0).1 hnew)
  obtain ⟨iM, hffM⟩ := O.msg
  obtain ⟨tC, dC, hdC, hnC⟩ := Cond.laysAt hf hk O.cause w6
  obtain ⟨tS, dS, hdS, hnS⟩ := Cond.laysAt hf hk O.stack w7
  obtain ⟨tP, dP, hdP, hnP⟩ := Cond.laysAt hf hk O.supp w8
  obtain ⟨tM, dM, hdM, hnM⟩ := Cond.laysAt hf hk hffM w9
  obtain ⟨tB, dB, hdB, hnB2⟩ := Cond.laysAt hf hk hffB w10
  have bC := Cond.laysApart hdB hdC hnB2 hnC (by rw [hnB, O.causeName]; decide)
  have bS := Cond.laysApart hdB hdS hnB2 hnS (by rw [hnB, O.stackName]; decide)
  have bP := Cond.laysApart hdB hdP hnB2 hnP (by rw [hnB, O.suppName]; decide)
  have hskip : SkipFacts T e.platform s (fun u => u) u0 ((preparedCellV T.toThrowableT (freshCell P1.m.cls kX) a u0 sen).withEntry W0.cur) :=
    ⟨{ ci198 := ci, i198 := i198, fBack := fB }, ⟨hk198, hg198, ha198, hsB⟩, by
      have q := fresh_default (c := P1.m.cls) tB
      rw [htB] at q
      simpa [preparedCellV, Cell.setSlot, Cell.withEntry, Array.getElem?_setIfInBounds, bC, bS, bP, bC.symm, bS.symm, bP.symm, defaultValue] using q, fun _ _ => rfl⟩
  obtain ⟨tm, mC, cC, kC, vm1, hnm, -, -, -, -, -, -, -, hW1, st1⟩ := Steps.initColdS (tb := p.tables) (e := e) (below := below) (s := s) (U := W0) X.here hx X.warmed hpl hown (t := Bundle.initS cls) rfl rfl (Bundle.fit_spec hcls).2
    w1 (wP _ (by simp [Bundle.passSAtoms])) (bytes := rx) (maxL := 2) (wP _ (by simp [Bundle.passSAtoms])) (f := g) hg (a := a) (msg := msg) (rest := .ref a :: rest) hst d6
  cases Option.some.inj (hnm.symm.trans hP1)
  obtain ⟨vm2, X2, st2⟩ := (X.noted hW1).ctorMessageOffV hx (g := { g with stack := .ref a :: rest }) hg hsize T L Z LZ M LM (P1 :: P2 :: Ps)
    (fun P hP => by
      rcases List.mem_cons.mp hP with rfl | hP
      · exact L1
      · rcases List.mem_cons.mp hP with rfl | hP
        · exact L2
        · exact hLs P hP)
    ⟨Option.some.inj (hs1.symm.trans hP2), hk1, hk2⟩ (u0 := u0) (sen := sen) (self := a) hmsg (cell := freshCell P1.m.cls kX) (cellS := cS) hcell (fun _ => by simp) (by simp) rfl rfl s0 sF hcS hne hkn
    (by rw [hkeep _ (fun hh => nomatch hh)]; exact hu0) (by rw [hkeep _ (fun hh => nomatch hh)]; exact hsen)
    (Takes.of_laid hk hord tC (by rw [O.causeType]; rfl)) (Takes.of_laid hk hord tS (by rw [O.stackType]; exact fits_refV_array _ u0)) (Takes.of_laid hk hord tP (by rw [O.suppType]; exact fits_refV_object _ sen))
    (Takes.of_laid hk hord tM (by rw [O.msgType]; exact fits_refV_object _ ⟨msg, hmsg⟩)) O.objLocals hskip htr [] d6 (by simp only [List.length_cons, hlen]; omega) (by simp only [List.length_cons, hlen]; exact hL)
  obtain ⟨hwalk, hrun, hend, hWU, hsame⟩ := X2.athrowLeaves hx (g := { g with stack := .ref a :: rest, pc := g.pc + 3 }) hg hlk hen hout (a := a) (rest := rest) rfl d9
  have hlt : a < ((W0.setVm vm1).setVm vm2).heap.size := (Array.getElem?_eq_some_iff.mp hcell).1
  refine ⟨_, st1 _ (fun acts => ?_), hrun, hend, hWU, hsame.weaken (fun y hy hlt2 => ?_) (Nat.le_refl _) (Nat.le_refl _), _, heapAt_setCell_self (s := (W0.setVm vm1).setVm vm2) (plainBareV T.toThrowableT (freshCell P1.m.cls kX) a u0 sen msg) hlt, rfl, hf⟩
  · rw [doInvoke_state]
    exact st2 _ hwalk
  · exfalso
    have hb : y.base = a := by
      simp only [List.nil_append, List.mem_cons, List.not_mem_nil, or_false] at hy
      rcases hy with rfl | rfl | rfl | rfl | rfl <;> rfl
    rw [hb] at hlt2
    exact Nat.not_lt.mpr hnew hlt2
end TR
section TW
variable {p : Program} {l : Launch} {e : Env} {R : Room} {s : State} {m : MethodId} {args : Array Value} {below : List Frame} {meth : Method} {c : Code} {H : Heap} {locs : List Loc} {cells slots : Nat} {free : Addr → Prop} {Qc : Array Value → State → Outcome → State → Prop} {XC : String → State → State → Prop} {ls : Array Slot}
/-- 'throw new E("text")' -/
theorem tr_throw {cc : ByteArray} {pc z : Nat} (hexec : p.tables.exec = Jvm.exec) (hb : c.code = cc) (hl : l.stackTraces = false) {own cls text Y : String} {r : List String} {ik is ic ix mc ms sa : Nat} {rx : ByteArray} {A : Nat → Prop}
    (x0 : decode rx 0 = .ok (.aload_n 0, 1)) (x1 : decode rx 1 = .ok (.aload_n 1, 1)) (x2 : decode rx 2 = .ok (.invokespecial ix, 3)) (x5 : decode rx 5 = .ok (.return_, 1))
    (hown : s.vm.findClass own = some m.cls) (hcls : Bundle.fit cls = true) (hY : Bundle.fit Y = true) (hr : ∀ n ∈ r, Bundle.fit n = true)
    (hk : (Cond.classLink own ik cls).before args s = true) (hini : (Cond.initialized cls).before args s = true) (hstr : vk_R own is text sa s) (hat : ∀ w ∈ (trA own ic cls Y ix rx r).filter vx_no, w.before args s = true)
    (hgood : ∀ w ∈ Cond.classLink own ik cls :: Cond.initialized cls :: (trA own ic cls Y ix rx r).filter vx_no, vx_ot w = true)
    (hU : vx_Zq Bundle.tN "UNASSIGNED_STACK" Bundle.steD A s s.heap) (hN : vx_Zq Bundle.tN "SUPPRESSED_SENTINEL" Bundle.listD A s s.heap) (hS : va_S A s.heap H locs) (hsize : ls.size = c.maxLocals)
    (d0 : decode cc pc = .ok (.new ik, 3)) (d3 : decode cc (pc + 3) = .ok (.dup, 1)) (d4 : (decode cc (pc + 4) = .ok (.ldc is, 2) ∧ z = pc + 6) ∨ (decode cc (pc + 4) = .ok (.ldc_w is, 3) ∧ z = pc + 7)) (d6 : decode cc z = .ok (.invokespecial ic, 3)) (d9 : decode cc (z + 3) = .ok (.athrow, 1))
    (hout : ∀ x ∈ c.exceptionTable.toList, covers x (z + 3) = false)
    (hF : r.length + 4 < R.frames) (hL : 13 * (r.length + 2) + 43 ≤ R.locals) (hC : cells + 1 ≤ R.cells) (hSl : slots + 6 ≤ R.slots) (hlocks : meth.locks = false)
    (hx : ∀ t : State, s.vm.Alike t.vm → H.size ≤ t.heap.size → (∀ q : Nat, q < H.size → t.heap[q]? = H[q]?) → XC cls s t)
    (hf : ∀ z ∈ locs, free z.base) (hc : cells + 1 ≤ mc) (hs : slots + 6 ≤ ms) :
    W p l e R s m args below meth c H locs cells slots (vx_MQ below Qc XC args s mc ms free) (F0 m pc ls []) := by
  subst hb
  intro T hT X
  have htr : e.platform.stackTraces = false := (show e.platform.stackTraces = l.stackTraces by rw [X.admits.platform]).trans hl
  have Y1 := vx_rebase X (R' := { frames := R.frames, locals := R.locals, cells := 1, slots := 6 }) (Nat.le_refl _) (Nat.le_refl _) hC hSl
  obtain ⟨v, hA⟩ : ∃ v, v = (T.setVm s.vm).setFrames (.invoking m args :: below) := ⟨_, rfl⟩
  rw [← hA] at Y1
  have hvm : v.vm = s.vm := by rw [hA]; rfl
  have hhp : v.heap = H := by rw [hA]; exact hT
  have hW0 : s.WarmedH v.vm := by rw [hvm]; exact State.WarmedH.refl s
  have mv : ∀ w ∈ Cond.classLink own ik cls :: Cond.initialized cls :: (trA own ic cls Y ix rx r).filter vx_no, w.before args v = true := fun w hw => by
    refine vx_ot_at (args := args) hW0 hvm.symm (hgood w hw) ?_
    rcases List.mem_cons.mp hw with rfl | hw
    · exact hk
    · rcases List.mem_cons.mp hw with rfl | hw
      · exact hini
      · exact hat w hw
  have hU' : vx_Zq Bundle.tN "UNASSIGNED_STACK" Bundle.steD A v v.heap := by rw [hhp]; exact vx_Zq.moved hW0.alike (hU.kept hS.2.1)
  have hN' : vx_Zq Bundle.tN "SUPPRESSED_SENTINEL" Bundle.listD A v v.heap := by rw [hhp]; exact vx_Zq.moved hW0.alike (hN.kept hS.2.1)
  have h : ∀ w ∈ trA own ic cls Y ix rx r, w.before args v = true := vx_own (fun w hw => mv w (List.mem_cons_of_mem _ (List.mem_cons_of_mem _ hw))) (vx_isRefq hU'.1) (vx_isRefq hN'.1) hU'.2.word hN'.2.word
  have hown' : v.vm.findClass own = some m.cls := by rw [hvm]; exact hown
  obtain ⟨vm1, cX, kX, hfX, hkX, -, -, X1, st1⟩ := Y1.newCold hexec (own := own) (C := cls) (index := ik) (n := 6) hown' (mv _ (by simp)) (trA_1 (P := fun a => a.before args v = true) h).2.2.2.2.2.1 (mv _ (by simp)) (g := F0 m pc ls []) rfl d0 (Nat.le_refl _) (Nat.le_refl _)
  generalize hT1 : (T.setVm vm1).pushCell { cls := cX, slots := kX.instanceTypes.map defaultValue, vm := .none } = T1 at X1 st1
  have hcA : T1.heap[T.heap.size]? = some (freshCell cX kX) := by rw [← hT1]; exact State.heap_pushCell_size _ _
  have hstr' : vk_R own is text sa v := vk_R.warm hW0 hstr
  obtain ⟨U, hsteps, hrun, hend, hW, hsame, ce, hce, hcv, hcl⟩ := tr_ctor X1 hexec htr x0 x1 x2 x5 hown' hcls hY hr h hfX hkX hcA (by rw [hhp, hT]; exact Nat.le_refl _) rfl (msg := .ref sa) rfl
    (g := { method := m, pc := z, locals := ls, stack := .ref sa :: .ref T.heap.size :: .ref T.heap.size :: [], locked := none }) rfl hsize rfl rfl (rest := []) rfl d6 d9 hout hF (by show 0 + (1 + 0) + (13 * (r.length + 2) + 42) ≤ R.locals; omega) hlocks
  obtain ⟨f1, f2⟩ := vx_frame hsame
  rw [hhp] at f1 f2
  have hWs : s.WarmedH U.vm := State.WarmedH.trans hW0 hW
  have hall : s.sameButNew ({ U with vm := s.vm } : State) locs mc ms := by
    subst hA
    obtain ⟨e1, e2⟩ := hsame
    rw [State.setFrames_setFrames] at e1
    have h2 : (T.setVm s.vm).sameButNew ({ U with vm := s.vm } : State) [] (0 + 1) (0 + 6) := ⟨e1, e2⟩
    have h3 := X.same.trans h2
    rw [List.append_nil] at h3
    exact h3.mono hc hs
  refine ⟨U, ?_, .threw T.heap.size, hrun, hend, Or.inr ⟨T.heap.size, rfl, cls, ce, locs, hx U hWs.alike f1 (fun q hq => f2 q hq (fun z hz => nomatch hz)), hce, hcv, by rw [← hvm]; exact hcl, hWs, hall, hf⟩⟩
  refine st1 _ ?_
  show Steps p.tables e below (T1.setTop { method := m, pc := pc + 3, locals := ls, stack := .ref T.heap.size :: [], locked := none }) _
  jvm_step X1.here [X1.here.top, hexec, d3, Value.category]
  rcases d4 with ⟨d4, rfl⟩ | ⟨d4, rfl⟩
  · exact X1.ldcString hexec (own := own) (text := text) (index := is) (a := sa) hown' hstr'.1 hstr'.2 (g := { method := m, pc := pc + 4, locals := ls, stack := .ref T.heap.size :: .ref T.heap.size :: [], locked := none }) rfl d4 _ hsteps
  · exact X1.ldcStringW hexec (own := own) (text := text) (index := is) (a := sa) hown' hstr'.1 hstr'.2 (g := { method := m, pc := pc + 4, locals := ls, stack := .ref T.heap.size :: .ref T.heap.size :: [], locked := none }) rfl d4 _ hsteps
end TW
