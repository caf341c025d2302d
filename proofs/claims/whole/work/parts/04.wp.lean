/-! ===== methods, contracts, and the walk of a method as a function ===== -/
/-- a method as its callers see it: its name, bytes, locals, answer, handlers, arguments -/
abbrev m0T : Type := MethodName × ByteArray × Nat × Option FieldType × List (Nat × Nat × Nat × Nat) × Nat
abbrev m0T.y (m : m0T) : MethodName := m.1
abbrev m0T.cc (m : m0T) : ByteArray := m.2.1
abbrev m0T.nL (m : m0T) : Nat := m.2.2.1
abbrev m0T.ret (m : m0T) : Option FieldType := m.2.2.2.1
abbrev m0T.hh (m : m0T) : List (Nat × Nat × Nat × Nat) := m.2.2.2.2.1
abbrev m0T.na (m : m0T) : Nat := m.2.2.2.2.2
def m0T.w (m : m0T) : Jvm.Cond := match m.hh with
  | [] => .code m.y m.cc m.nL m.ret
  | hh => .codeWith m.y m.cc m.nL m.ret hh
/-- a constant pool as the walk sees it: fields, statics, methods, classes, numbers -/
abbrev cpT : Type := (Nat → Option (Nat × Nat × FieldType × Bool)) × (Nat → Option Value) × (Nat → Option (Nat × m0T × Nat)) × (Nat → Option (Nat ⊕ Nat)) × (Nat → Option Int32)
abbrev cpT.fld (c : cpT) := c.1
abbrev cpT.stc (c : cpT) := c.2.1
abbrev cpT.mth (c : cpT) := c.2.2.1
abbrev cpT.cls (c : cpT) := c.2.2.2.1
abbrev cpT.num (c : cpT) := c.2.2.2.2
/-- a method as its walk sees it: what callers see, its instructions (each with the next place and its target), its pool, its switches, what its handlers answer, whether it is a constructor -/
abbrev mT : Type := m0T × (Nat → Option (Instr × Nat × Nat)) × cpT × (Nat → Option (Int × List Nat × Nat)) × List (Nat × Int32) × Bool
abbrev mT.m (M : mT) : m0T := M.1
abbrev mT.cd (M : mT) := M.2.1
abbrev mT.cp (M : mT) : cpT := M.2.2.1
abbrev mT.sw (M : mT) := M.2.2.2.1
abbrev mT.hs (M : mT) : List (Nat × Int32) := M.2.2.2.2.1
abbrev mT.ini (M : mT) : Bool := M.2.2.2.2.2
def rmS (d mc ms : Nat) : Room := { frames := d, cells := mc, slots := ms, locals := 64 * d }
/-- the heap below the law's start is as it was -/
def hLow (G : gT) (H : Heap) : Prop := G.bs ≤ H.size ∧ ∀ q : Nat, q < G.bs → H[q]? = G.s0.heap[q]?
def PcS (G : gT) (ws : va_W) (sz : Nat) (ca : List Value) : Array Value → State → Prop := fun a U =>
  a = ca.toArray ∧ U.heap.size = sz ∧ G.s0.WarmedH U.vm ∧ hLow G U.heap ∧ va_P G.D vwCl ws U.heap ∧ va_D (fun q => G.bs ≤ q) ws
/-- the world behind it -/
def WEnd (G : gT) (ad : List Nat) (ws : va_W) (sz : Nat) (st t : State) (w' : xW) (ad' : List Nat) : Prop :=
  adM ad ad' ∧ ∃ ws', rW G ad' w' ws' ∧ va_P G.D vwCl ws' t.heap ∧ va_D (va_A ws sz) ws' ∧ va_F (va_A ws sz) st t
def QcS (G : gT) (ad : List Nat) (ws : va_W) (sz : Nat) (K : Option Value → xW → Prop) : Array Value → State → Outcome → State → Prop := fun _ st o t =>
  ∃ (v c : Option Value) (w' : xW) (ad' : List Nat), o = .returned c ∧ rO G ad' v c ∧ K v w' ∧ WEnd G ad ws sz st t w' ad'
/-- the exceptions that are thrown -/
def exN (x : Nat) : String := match x with
  | 0 => "java/lang/IllegalArgumentException"
  | 1 => "java/lang/UnsupportedOperationException"
  | 2 => "java/lang/IndexOutOfBoundsException"
  | 3 => "java/util/NoSuchElementException"
  | 4 => "java/lang/IllegalStateException"
  | _ => "java/lang/ArithmeticException"
def XcS (G : gT) (ad : List Nat) (ws : va_W) (sz : Nat) (KX : Nat → xW → Prop) : String → State → State → Prop := fun E st t =>
  ∃ (x : Nat) (w' : xW) (ad' : List Nat), E = exN x ∧ KX x w' ∧ WEnd G ad ws sz st t w' ad'
/-- THE CONTRACT: from the world w, with these arguments, within d frames, mc cells and ms slots, the method returns v with world w' (K v w'), or throws the x-th exception (KX x w') -/
def Spec (G : gT) (d mc ms : Nat) (m : m0T) (as : List Value) (w : xW) (K : Option Value → xW → Prop) (KX : Nat → xW → Prop) : Prop :=
  ∀ (ad : List Nat) (ws : va_W) (sz : Nat) (ca : List Value), rW G ad w ws → rVs G ad as ca →
    vx_Met G.l m.y [m.w] (rmS d mc ms) (PcS G ws sz ca) (QcS G ad ws sz K) (XcS G ad ws sz KX) mc ms (va_A ws sz)
/-- what holds in an activation of M -/
def Ctx (G : gT) (M : mT) (d : Nat) (A : Nat → Prop) (R : Room) (p : Program) (e : Env) (s : State) (m : MethodId) (args : Array Value) (meth : Method) (c : Code) : Prop :=
  p.tables.exec = Jvm.exec ∧ c.code = M.m.cc ∧ meth.sig.returnType = M.m.ret ∧ c.maxLocals = M.m.nL ∧ s.vm.findClass M.m.y.cls = some m.cls ∧ meth.locks = false ∧ G.s0.WarmedH s.vm ∧ hLow G s.heap ∧
  (∀ q, A q → G.bs ≤ q) ∧ (∀ q, s.heap.size ≤ q → A q) ∧ d ≤ R.frames ∧ 64 * d ≤ R.locals ∧ (M.ini = true → meth.name = "<init>") ∧ c.exceptionTable.toList = tableOf M.m.hh
/-- the world at a point of an activation -/
def WAt (G : gT) (A : Nat → Prop) (ad0 : List Nat) (H0 H : Heap) (locs : List Loc) (w : xW) (ad : List Nat) (ws : va_W) : Prop :=
  adM ad0 ad ∧ rW G ad w ws ∧ va_P G.D vwCl ws H ∧ va_D A ws ∧ va_S A H0 H locs
/-- an instruction that leaves the method with v -/
def retI (M : mT) (pc : Nat) (v : Option Value) : Prop := ∃ n t, match v with
  | none => M.cd pc = some (.return_, n, t) ∧ M.m.ret = none
  | some (.int x) => M.cd pc = some (.ireturn, n, t) ∧ ∃ ty, M.m.ret = some ty ∧ narrow ty (.int x) = .int x
  | some (.float _) => M.cd pc = some (.freturn, n, t) ∧ M.m.ret = some .float
  | some (.double _) => M.cd pc = some (.dreturn, n, t) ∧ M.m.ret = some .double
  | some (.ref _) => M.cd pc = some (.areturn, n, t) ∧ ((∃ C, M.m.ret = some (.object C)) ∨ ∃ C, M.m.ret = some (.array C))
  | some (.retAddr _) => M.cd pc = some (.areturn, n, t) ∧ ((∃ C, M.m.ret = some (.object C)) ∨ ∃ C, M.m.ret = some (.array C))
  | _ => False
/-- 'throw new E(..)' begins here -/
def thrI (M : mT) (pc x : Nat) : Prop := ∃ i n t, M.cd pc = some (.new i, n, t) ∧ M.cp.cls i = some (.inr x)
/-- where the activation ends -/
def FinQ (G : gT) (M : mT) (A : Nat → Prop) (ad0 : List Nat) (R : Room) (p : Program) (e : Env) (s : State) (m : MethodId) (args : Array Value) (below : List Frame) (meth : Method) (c : Code) (Q : State → Prop) (K : Option Value → xW → Prop) (KX : Nat → xW → Prop) : Prop :=
  (∀ (pc : Nat) (v cv : Option Value) (w : xW) (ad : List Nat) (ws : va_W) (H : Heap) (locs : List Loc) (cells slots : Nat) (lc : Array Slot), K v w → retI M pc v → rO G ad v cv → WAt G A ad0 s.heap H locs w ad ws → cells ≤ R.cells → slots ≤ R.slots →
    W p G.l e R s m args below meth c H locs cells slots Q (F0 m pc lc cv.toList)) ∧
  (∀ (pc x : Nat) (w : xW) (ad : List Nat) (ws : va_W) (H : Heap) (locs : List Loc) (cells slots : Nat) (lc : Array Slot), KX x w → thrI M pc x → 6 ≤ R.frames → 384 ≤ R.locals → lc.size = M.m.nL → WAt G A ad0 s.heap H locs w ad ws → cells + 1 ≤ R.cells → slots + 6 ≤ R.slots →
    W p G.l e R s m args below meth c H locs cells slots Q (F0 m pc lc []))
/-- THE WALK'S JUDGEMENT: from here, in any activation of M, the walk comes to its end with K or KX -/
def AW (G : gT) (M : mT) (d bc bs pc : Nat) (ls : List (Option Value)) (st : List Value) (w : xW) (K : Option Value → xW → Prop) (KX : Nat → xW → Prop) : Prop :=
  ∀ (A : Nat → Prop) (ad0 : List Nat) (R : Room) (p : Program) (e : Env) (s : State) (m : MethodId) (args : Array Value) (below : List Frame) (meth : Method) (c : Code) (Q : State → Prop),
    Ctx G M d A R p e s m args meth c → FinQ G M A ad0 R p e s m args below meth c Q K KX →
    ∀ (ad : List Nat) (ws : va_W) (H : Heap) (locs : List Loc) (cells slots : Nat) (lc : Array Slot) (sc : List Value), WAt G A ad0 s.heap H locs w ad ws → rL G ad ls lc M.m.nL → rVs G ad st sc → cells + bc ≤ R.cells → slots + bs ≤ R.slots →
      W p G.l e R s m args below meth c H locs cells slots Q (F0 m pc lc sc)
/-! small functions that compute by being unfolded -/
def fL {α : Type} : List α → (List α → Prop) → Prop
  | [], k => k []
  | a :: l, k => fL l (fun l' => k (a :: l'))
theorem fL_eq {α : Type} : ∀ (l : List α) (k : List α → Prop), fL l k = k l
  | [], _ => rfl
  | a :: l, k => fL_eq l (fun l' => k (a :: l'))
def fN (n : Nat) (k : Nat → Prop) : Prop := match n with
  | 0 => k 0 | 1 => k 1 | 2 => k 2 | 3 => k 3 | 4 => k 4 | 5 => k 5 | 6 => k 6 | 7 => k 7 | 8 => k 8 | 9 => k 9 | 10 => k 10 | 11 => k 11 | 12 => k 12 | 13 => k 13 | 14 => k 14 | 15 => k 15
  | 16 => k 16 | 17 => k 17 | 18 => k 18 | 19 => k 19 | 20 => k 20 | 21 => k 21 | 22 => k 22 | 23 => k 23 | 24 => k 24 | 25 => k 25 | 26 => k 26 | 27 => k 27 | 28 => k 28 | 29 => k 29 | 30 => k 30 | 31 => k 31
  | 32 => k 32 | 33 => k 33 | 34 => k 34 | 35 => k 35 | 36 => k 36 | 37 => k 37 | 38 => k 38 | 39 => k 39 | 40 => k 40 | 41 => k 41 | 42 => k 42 | 43 => k 43 | 44 => k 44 | 45 => k 45 | 46 => k 46 | 47 => k 47
  | n => k n
theorem fN_eq (n : Nat) (k : Nat → Prop) : fN n k = k n := by
  unfold fN
  split <;> rfl
def fV (v : Value) (k : Value → Prop) : Prop := match v with
  | .ref n => fN n (fun n => k (.ref n))
  | .int x => k (.int x)
  | .long x => k (.long x)
  | .float x => k (.float x)
  | .double x => k (.double x)
  | .null => k .null
  | .retAddr j => k (.retAddr j)
theorem fV_eq (v : Value) (k : Value → Prop) : fV v k = k v := by
  cases v with
  | ref n => exact fN_eq n (fun n => k (.ref n))
  | _ => rfl
def fVs : List Value → (List Value → Prop) → Prop
  | [], k => k []
  | v :: l, k => fV v (fun v' => fVs l (fun l' => k (v' :: l')))
theorem fVs_eq : ∀ (l : List Value) (k : List Value → Prop), fVs l k = k l
  | [], _ => rfl
  | v :: l, k => by
    unfold fVs
    rw [fV_eq, fVs_eq l]
def fE (e : va_E) (k : va_E → Prop) : Prop := match e with
  | .inl (t, n, .inl f) => k (.inl (t, n, .inl f))
  | .inl (t, n, .inr (.inr (.inr (.inr f)))) => k (.inl (t, n, .inr (.inr (.inr (.inr f)))))
  | .inl x => k (.inl x)
  | .inr (ci, fs) => fVs fs (fun fs' => k (.inr (ci, fs')))
theorem fE_eq (e : va_E) (k : va_E → Prop) : fE e k = k e := by
  unfold fE
  split <;> first | rfl | exact fVs_eq _ _
def fW : xW → (xW → Prop) → Prop
  | [], k => k []
  | e :: l, k => fE e (fun e' => fW l (fun l' => k (e' :: l')))
theorem fW_eq : ∀ (l : xW) (k : xW → Prop), fW l k = k l
  | [], _ => rfl
  | v :: l, k => by
    unfold fW
    rw [fE_eq, fW_eq l]
def nth {α : Type} : List α → Nat → Option α
  | [], _ => none
  | a :: _, 0 => some a
  | _ :: l, n + 1 => nth l n
theorem nth_eq {α : Type} : ∀ (l : List α) (n : Nat), nth l n = l[n]?
  | [], _ => by simp [nth]
  | a :: _, 0 => by simp [nth]
  | _ :: l, n + 1 => by simp [nth, nth_eq l n]
def stN {α : Type} : List α → Nat → α → List α
  | [], _, _ => []
  | _ :: l, 0, x => x :: l
  | a :: l, n + 1, x => a :: stN l n x
theorem stN_eq {α : Type} : ∀ (l : List α) (n : Nat) (x : α), stN l n x = l.set n x
  | [], _, _ => rfl
  | _ :: _, 0, _ => rfl
  | a :: l, n + 1, x => by simp [stN, stN_eq l n x]
def lenL {α : Type} : List α → Nat
  | [] => 0
  | _ :: l => lenL l + 1
theorem lenL_eq {α : Type} : ∀ (l : List α), lenL l = l.length
  | [] => rfl
  | _ :: l => by simp [lenL, lenL_eq l]
def gtL (ls : List (Option Value)) (i : Nat) : Option Value := match nth ls i with
  | some (some v) => some v
  | _ => none
theorem gtL_some {ls : List (Option Value)} {i : Nat} {v : Value} (h : gtL ls i = some v) : ls[i]? = some (some v) := by
  unfold gtL at h
  rw [nth_eq] at h
  split at h
  · cases h; assumption
  · cases h
def clr : Option Value → Option Value
  | some (.long _) => none
  | some (.double _) => none
  | x => x
def stL : List (Option Value) → Nat → Value → List (Option Value)
  | [], _, _ => []
  | _ :: l, 0, v => some v :: l
  | a :: l, 1, v => clr a :: stL l 0 v
  | a :: l, n + 2, v => a :: stL l (n + 1) v
def st2 (l : List (Option Value)) (i : Nat) (v : Value) : List (Option Value) := stN (stL l i v) (i + 1) none
def msk : List Bool → List (Option Value) → List (Option Value)
  | [], _ => []
  | _, [] => []
  | true :: b, a :: l => a :: msk b l
  | false :: b, _ :: l => none :: msk b l
theorem msk_at : ∀ (b : List Bool) (l : List (Option Value)) (i : Nat) (v : Value), (msk b l)[i]? = some (some v) → l[i]? = some (some v)
  | [], _, _, _, h => by simp [msk] at h
  | _ :: _, [], _, _, h => by simp [msk] at h
  | true :: b, a :: l, 0, v, h => by simpa [msk] using h
  | true :: b, a :: l, i + 1, v, h => by
    simp [msk] at h
    simpa using msk_at b l i v h
  | false :: b, a :: l, 0, v, h => by simp [msk] at h
  | false :: b, a :: l, i + 1, v, h => by
    simp [msk] at h
    simpa using msk_at b l i v h
/-- the last n of a stack, first pushed first -/
def popN : Nat → List Value → List Value → Option (List Value × List Value)
  | 0, acc, st => some (acc, st)
  | _ + 1, _, [] => none
  | n + 1, acc, v :: st => popN n (v :: acc) st
theorem popN_eq : ∀ (n : Nat) (acc st as rest : List Value), popN n acc st = some (as, rest) → acc.reverse ++ st = as.reverse ++ rest ∧ as.length = acc.length + n
  | 0, acc, st, as, rest, h => by cases h; exact ⟨rfl, rfl⟩
  | n + 1, acc, [], as, rest, h => by cases h
  | n + 1, acc, v :: st, as, rest, h => by
    obtain ⟨h1, h2⟩ := popN_eq n (v :: acc) st as rest h
    refine ⟨by rw [← h1]; simp, by rw [h2]; simp; omega⟩
def catS : List Value → Nat
  | [] => 0
  | .long _ :: l => catS l + 2
  | .double _ :: l => catS l + 2
  | _ :: l => catS l + 1
def stepsF (j : Nat) : Int32 := ([0, 2, 4, 5, 7, 9, 11, 12] : List Int32).getD j 0
def onesF (j : Nat) : Int32 := nI (48 + j % 10)
def tensF (j : Nat) : Int32 := nI (48 + j / 10)
/-- the static arrays, and the script: kind, length, contents -/
def stF (G : gT) (j : Nat) : Option (Nat × Nat × (Nat → Int32)) := match j with
  | 0 => some (0, 8, stepsF)
  | 1 => some (3, 100, onesF)
  | 2 => some (3, 100, tensF)
  | 6 => some (0, G.L, G.xs)
  | _ => none
def cI : ClassFile.Cond → Int32 → Int32 → Prop
  | .eq, x, y => x = y
  | .ne, x, y => ¬ x = y
  | .lt, x, y => x < y
  | .ge, x, y => y ≤ x
  | .gt, x, y => y < x
  | .le, x, y => x ≤ y
def cN : ClassFile.Cond → Int32 → Int32 → Prop
  | .eq, x, y => ¬ x = y
  | .ne, x, y => x = y
  | .lt, x, y => ¬ x < y
  | .ge, x, y => ¬ y ≤ x
  | .gt, x, y => ¬ y < x
  | .le, x, y => ¬ x ≤ y
/-- fresh objects, by their kind: how many slots, what they hold -/
def newF (ci : Nat) : Option (Nat × List Value) := match ci with
  | 1 => some (4, [.null, .int 0, .int 0, .int 0])
  | 4 => some (10, [.null, .null, .null, .int 0, .int 0, .int 0, .int 0, .int 0, .int 0, .int 0])
  | 5 => some (1, [.null])
  | 6 => some (3, [.null, .int 0, .int 0])
  | 7 => some (7, [.null, .int 0, .int 0, .int 0, .null, .null, .null])
  | 8 => some (2, [.int 0, .int 0])
  | 9 => some (4, [.int 0, .int 0, .null, .int 0])
  | 10 => some (4, [.null, .null, .int 0, .int 0])
  | 11 => some (10, [.null, .null, .null, .null, .null, .null, .null, .null, .null, .int 0])
  | 12 => some (19, [.null, .null, .null, .null, .int 0, .int 0, .int 0, .int 0, .int 0, .int 0, .null, .int 0, .int 0, .null, .int 0, .null, .int 0, .null, .int 0])
  | _ => none
