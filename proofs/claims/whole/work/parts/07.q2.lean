/-! ===== the walk is right: instructions that look at the heap or at the start's things ===== -/
def WSg : List Jvm.Cond := lw_tbl.filter goodWord
def kTy : List FieldType := [.int, .boolean, .char, .byte, .long, .double, .object RX0]
/-- the statics that are read: class, name, descriptor, what they hold -/
def stcL : List (String × String × String × Value) := [("BellCores", "STEPS", "[I", .retAddr 0), ("java/lang/Integer", "DigitOnes", "[B", .retAddr 1), ("java/lang/Integer", "DigitTens", "[B", .retAddr 2), ("BellCores$Outcome", "FINE", "LBellCores$Outcome;", .retAddr 3), ("BellCores$Outcome", "WRONG", "LBellCores$Outcome;", .retAddr 4), ("BellCores$Outcome", "REFUSED", "LBellCores$Outcome;", .retAddr 5), ("java/lang/String", "COMPACT_STRINGS", "Z", .int 1), ("jdk/internal/util/Preconditions", "SIOOBE_FORMATTER", "Ljava/util/function/BiFunction;", .retAddr 7)]
/-- classes that are no kind of another -/
def ncL : List (String × String) := [("java/lang/UnsupportedOperationException", "java/lang/IllegalArgumentException"), ("java/lang/IllegalArgumentException", "java/lang/IndexOutOfBoundsException"), ("java/lang/UnsupportedOperationException", "java/lang/IndexOutOfBoundsException")]
def A0 (G : gT) : Nat → Prop := fun q => G.bs ≤ q
/-- what is known of the start -/
def gOK (G : gT) : Prop :=
  (∀ w ∈ lw_tbl, w.before G.a0 G.s0 = true) ∧ va_K G.D vwCl G.tys G.s0 ∧ G.tys.map (·.2) = kTy ∧
  (∀ (j t N : Nat) (f : Nat → Int32), stF G j = some (t, N, f) → ∃ (a : Nat) (ty : FieldType), kTy[t]? = some ty ∧ G.sad j = .ref a ∧ va_T ty a N (fun i => .int (f i)) (A0 G) G.s0 G.s0.heap) ∧
  (∀ j, G.sad j = .null ∨ ∃ a, G.sad j = .ref a) ∧
  (∀ i, 3 ≤ i → i ≤ 5 → ∃ a, G.sad i = .ref a) ∧ (∀ i j, 3 ≤ i → i ≤ 5 → 3 ≤ j → j ≤ 5 → G.sad i = G.sad j → i = j) ∧
  (∀ q ∈ stcL, ∃ c, rV G [] q.2.2.2 c ∧ va_Z q.1 q.2.1 q.2.2.1 c (A0 G) G.s0 G.s0.heap) ∧
  vx_Zq Bundle.tN "UNASSIGNED_STACK" Bundle.steD (A0 G) G.s0 G.s0.heap ∧ vx_Zq Bundle.tN "SUPPRESSED_SENTINEL" Bundle.listD (A0 G) G.s0 G.s0.heap ∧ G.l.stackTraces = false ∧
  (∀ (own text : String) (k : Nat), Jvm.Cond.stringRef own k text ∈ lw_tbl → ∃ sa, vk_R own k text sa G.s0) ∧ (∀ q ∈ ncL, va_Nc q.1 q.2 G.s0)
theorem gOK.cat {G : gT} (h : gOK G) : ∀ j, (G.sad j).category = 1 := fun j => by
  rcases h.2.2.2.2.1 j with q | ⟨a, q⟩ <;> rw [q] <;> rfl
/-- a class of the worlds: its words, its types, its names -/
def clOK (ci : Nat) : Prop := ∀ (C : String) (T : u_T) (N : Nat), vwCl[ci]? = some (C, T, N) → (∀ w ∈ u_ws C T N, w ∈ WSg) ∧ (∃ ty0 : Nat → FieldType, ∀ k, k < N → parseFieldDescriptor (T k).2.2.1 = some (ty0 k)) ∧ (∀ a, a < N → ∀ b, b < N → a ≠ b → (T a).2.1 ≠ (T b).2.1)
def fldOK (own : String) (ini : Bool) (k ci j : Nat) (ty : FieldType) (fin : Bool) : Prop := clOK ci ∧ ∃ (C : String) (T : u_T) (N : Nat), vwCl[ci]? = some (C, T, N) ∧ j < N ∧ (T j).2.2.2 = fin ∧ parseFieldDescriptor (T j).2.2.1 = some ty ∧ Jvm.Cond.fieldLink own k (T j).1 (T j).2.1 (T j).2.2.1 ∈ lw_tbl ∧ (fin = true → ini = true → (T j).1 = own)
def newOK (own : String) (k ci n : Nat) (fs : List Value) : Prop := clOK ci ∧ ∃ (C : String) (T : u_T) (ty0 : Nat → FieldType), vwCl[ci]? = some (C, T, n) ∧ (∀ k, k < n → parseFieldDescriptor (T k).2.2.1 = some (ty0 k)) ∧ (∀ j, j < n → defaultValue (ty0 j) = vp_V fs j) ∧ Jvm.Cond.classLink own k C ∈ lw_tbl ∧ Jvm.Cond.instantiable C n ∈ lw_tbl ∧ Jvm.Cond.initialized C ∈ lw_tbl
def stcOK (own : String) (k : Nat) (v : Value) : Prop := ∃ q ∈ stcL, q.2.2.2 = v ∧ (Jvm.Cond.fieldLink own k q.1 q.2.1 q.2.2.1 ∈ lw_tbl ∨ ∃ host, Jvm.Cond.fieldLinkNest own k q.1 q.2.1 q.2.2.1 host ∈ lw_tbl)
section QH
variable {G : gT} {M : mT} {d bc bs pc : Nat} {ls : List (Option Value)} {st : List Value} {w : xW} {K : Option Value → xW → Prop} {KX : Nat → xW → Prop} {go : recT}
variable {A : Nat → Prop} {ad0 : List Nat} {R : Room} {p : Program} {e : Env} {s : State} {m : MethodId} {args : Array Value} {below : List Frame} {meth : Method} {c : Code} {Q : State → Prop}
theorem Ctx.wrd (C : Ctx G M d A R p e s m args meth c) (hg : gOK G) {x : Jvm.Cond} (hx : x ∈ lw_tbl) (hw : goodWord x = true) : x.before args s = true := word_at C.2.2.2.2.2.2.1 (good_of_word hw) (hg.1 x hx)
theorem Ctx.wsg (C : Ctx G M d A R p e s m args meth c) (hg : gOK G) : ∀ x ∈ WSg, x.before args s = true := fun x hx => C.wrd hg (List.mem_filter.mp hx).1 (List.mem_filter.mp hx).2
theorem Ctx.kk (C : Ctx G M d A R p e s m args meth c) (hg : gOK G) : va_K G.D vwCl G.tys s := va_K.moved C.2.2.2.2.2.2.1.alike hg.2.1
theorem Ctx.low (C : Ctx G M d A R p e s m args meth c) : ∀ a : Nat, a < G.s0.heap.size → ¬ A0 G a → s.heap[a]? = G.s0.heap[a]? := fun a h _ => C.2.2.2.2.2.2.2.1.2 a h
theorem Ctx.sub (C : Ctx G M d A R p e s m args meth c) : ∀ q, A q → A0 G q := C.2.2.2.2.2.2.2.2.1
theorem Ctx.vT (C : Ctx G M d A R p e s m args meth c) {ty : FieldType} {a N : Nat} {f : Nat → Value} (h : va_T ty a N f (A0 G) G.s0 G.s0.heap) : va_T ty a N f A s s.heap := ((h.moved C.2.2.2.2.2.2.1.alike).kept C.low).narrow C.sub
theorem Ctx.vZ (C : Ctx G M d A R p e s m args meth c) {o n t : String} {v : Value} (h : va_Z o n t v (A0 G) G.s0 G.s0.heap) : va_Z o n t v A s s.heap := ((va_Z.moved C.2.2.2.2.2.2.1.alike h).kept C.low).narrow C.sub
theorem Ctx.vq (C : Ctx G M d A R p e s m args meth c) {o n t : String} (h : vx_Zq o n t (A0 G) G.s0 G.s0.heap) : vx_Zq o n t A s s.heap := ((vx_Zq.moved C.2.2.2.2.2.2.1.alike h).kept C.low).narrow C.sub
theorem Ctx.nest (C : Ctx G M d A R p e s m args meth c) (hg : gOK G) {own n t o host : String} {k : Nat} (h : Jvm.Cond.fieldLinkNest own k o n t host ∈ lw_tbl) : (Jvm.Cond.fieldLinkNest own k o n t host).before args s = true := va_Nw.use rfl (va_Nw.warmF C.2.2.2.2.2.2.1 (va_Nw.of rfl (hg.1 _ h)))
theorem Ctx.nestM (C : Ctx G M d A R p e s m args meth c) (hg : gOK G) {own host : String} {k : Nat} {x : MethodName} (h : Jvm.Cond.methodLinkNest own k x host ∈ lw_tbl) : va_Nw (Jvm.Cond.methodLinkNest own k x host) s := va_Nw.warmM C.2.2.2.2.2.2.1 (va_Nw.of rfl (hg.1 _ h))
theorem gOK.ty {G : gT} (hg : gOK G) {t : Nat} {q : ClassId × FieldType} (h : G.tys[t]? = some q) : kTy[t]? = some q.2 := by
  rw [← hg.2.2.1, List.getElem?_map, h]; rfl
theorem gOK.tys {G : gT} (hg : gOK G) {t : Nat} {ty : FieldType} (h : kTy[t]? = some ty) : ∃ cA, G.tys[t]? = some (cA, ty) := by
  rw [← hg.2.2.1, List.getElem?_map] at h
  cases hq : G.tys[t]? with
  | none => rw [hq] at h; cases h
  | some q => rw [hq] at h; obtain ⟨cA, ty2⟩ := q; cases h; exact ⟨cA, rfl⟩
theorem WAt.cell {H0 H : Heap} {locs : List Loc} {ad : List Nat} {ws : va_W} {k a : Nat} {ex : va_E} (h : WAt G A ad0 H0 H locs w ad ws) (he : nth w k = some ex) (ha : ad[k]? = some a) : ∃ e', ws[k]? = some (a, e') ∧ rE G ad ex e' := by
  rw [nth_eq] at he
  obtain ⟨b, e', q1, q2, q3⟩ := h.2.1.at he
  cases (ha.symm.trans q1)
  exact ⟨e', q2, q3⟩
theorem WAt.put {H0 H H1 : Heap} {locs locs1 : List Loc} {ad : List Nat} {ws : va_W} {k a : Nat} {ex ex' : va_E} (h : WAt G A ad0 H0 H locs w ad ws) (ha : ad[k]? = some a) (he : rE G ad ex ex') (h1 : va_P G.D vwCl (ws.set k (a, ex')) H1) (h2 : va_D A (ws.set k (a, ex'))) (h3 : va_S A H0 H1 locs1) : WAt G A ad0 H0 H1 locs1 (stN w k ex) ad (ws.set k (a, ex')) := by
  rw [stN_eq]
  exact ⟨h.1, h.2.1.set ha he, h1, h2, h3⟩
theorem WAt.new {H0 H H1 : Heap} {locs locs1 : List Loc} {ad : List Nat} {ws : va_W} {a : Nat} {ex ex' : va_E} (h : WAt G A ad0 H0 H locs w ad ws) (he : rE G (ad ++ [a]) ex ex') (h1 : va_P G.D vwCl (ws ++ [(a, ex')]) H1) (h2 : va_D A (ws ++ [(a, ex')])) (h3 : va_S A H0 H1 locs1) : WAt G A ad0 H0 H1 locs1 (w ++ [ex]) (ad ++ [a]) (ws ++ [(a, ex')]) :=
  ⟨h.1.tr adM.app, h.2.1.push he, h1, h2, h3⟩
theorem WAt.top {H0 H : Heap} {locs : List Loc} {ad : List Nat} {ws : va_W} {a : Nat} (h : WAt G A ad0 H0 H locs w ad ws) : (ad ++ [a])[lenL w]? = some a := by
  rw [lenL_eq, ← h.2.1.1]; simp
theorem q_ldc (hgo : ∀ bc bs pc ls st w, go bc bs pc ls st w → AW G M d bc bs pc ls st w K KX) (hg : gOK G) {k : Nat} {v : Int32} (hx : Jvm.Cond.constant M.m.y.cls k v ∈ lw_tbl) (hd : decode M.m.cc pc = .ok (.ldc k, 2)) (h : go bc bs (pc + 2) ls (.int v :: st) w) : AW G M d bc bs pc ls st w K KX := by
  intro A ad0 R p e s m args below meth c Q C F ad ws H locs cells slots lc sc hW hL hS h1 h2
  exact lv_ldc C.1 C.2.1 C.2.2.2.2.1 (C.wrd hg hx rfl) hd (hgo _ _ _ _ _ _ h A ad0 R p e s m args below meth c Q C F ad ws H locs cells slots lc _ hW hL (.cons rfl hS) h1 h2)
theorem q_getstatic (hgo : ∀ bc bs pc ls st w, go bc bs pc ls st w → AW G M d bc bs pc ls st w K KX) (hg : gOK G) {k : Nat} {v : Value} (hx : stcOK M.m.y.cls k v) (hd : decode M.m.cc pc = .ok (.getstatic k, 3)) (h : go bc bs (pc + 3) ls (v :: st) w) : AW G M d bc bs pc ls st w K KX := by
  intro A ad0 R p e s m args below meth c Q C F ad ws H locs cells slots lc sc hW hL hS h1 h2
  obtain ⟨q, hq, rfl, hl⟩ := hx
  obtain ⟨cv, hv, hZ⟩ := hg.2.2.2.2.2.2.2.1 q hq
  have hk := hgo _ _ _ _ _ _ h A ad0 R p e s m args below meth c Q C F ad ws H locs cells slots lc _ hW hL (.cons (hv.mono (fun i a h => by simp at h)) hS) h1 h2
  rcases hl with hl | ⟨host, hl⟩
  · exact va_gets C.1 C.2.1 (C.vZ hZ) hW.2.2.2.2 C.2.2.2.2.1 (C.wrd hg hl rfl) (fun _ h => h) hd hk
  · exact va_getsN C.1 C.2.1 (C.vZ hZ) hW.2.2.2.2 C.2.2.2.2.1 (C.nest hg hl) (fun _ h => h) hd hk
theorem q_getfield (hgo : ∀ bc bs pc ls st w, go bc bs pc ls st w → AW G M d bc bs pc ls st w K KX) (hg : gOK G) {k ci j x : Nat} {ty : FieldType} {fin : Bool} {fs : List Value} {v : Value} (hx : fldOK M.m.y.cls M.ini k ci j ty fin) (hw : nth w x = some (.inr (ci, fs))) (hv : nth fs j = some v) (hd : decode M.m.cc pc = .ok (.getfield k, 3)) (h : go bc bs (pc + 3) ls (v :: st) w) : AW G M d bc bs pc ls (.ref x :: st) w K KX := by
  intro A ad0 R p e s m args below meth c Q C F ad ws H locs cells slots lc sc hW hL hS h1 h2
  obtain ⟨cx, sc, rfl, ⟨a, ha, rfl⟩, hS⟩ := hS
  obtain ⟨e', q2, ⟨fs', rfl, hfs⟩⟩ := hW.cell hw ha
  rw [nth_eq] at hv
  obtain ⟨cv, hcv, hrv⟩ := hfs.at hv
  obtain ⟨hcl, CC, T, N, c1, c2, c3, c4, c5, c6⟩ := hx
  exact va_get C.1 C.2.1 (C.wsg hg) (hcl CC T N c1).1 C.2.2.2.2.1 (C.kk hg) hW.2.2.1 x q2 c1 j c2 (C.wrd hg c5 rfl) (fun _ h => h) hcv hd (hgo _ _ _ _ _ _ h A ad0 R p e s m args below meth c Q C F ad ws H locs cells slots lc _ hW hL (.cons hrv hS) h1 h2)
theorem q_putfield (hgo : ∀ bc bs pc ls st w, go bc bs pc ls st w → AW G M d bc bs pc ls st w K KX) (hg : gOK G) {k ci j x : Nat} {ty : FieldType} {fin : Bool} {fs : List Value} {v : Value} (hx : fldOK M.m.y.cls M.ini k ci j ty fin) (hini : fin = true → M.ini = true) (hw : nth w x = some (.inr (ci, fs))) (hj : j < fs.length) (hfit : ∀ ad cv, rV G ad v cv → narrow ty cv = cv ∧ fits ty cv = true) (hd : decode M.m.cc pc = .ok (.putfield k, 3)) (h : go bc bs (pc + 3) ls st (stN w x (.inr (ci, stN fs j v)))) : AW G M d bc bs pc ls (v :: .ref x :: st) w K KX := by
  intro A ad0 R p e s m args below meth c Q C F ad ws H locs cells slots lc sc hW hL hS h1 h2
  obtain ⟨cv, sc, rfl, hrv, cx, sc, rfl, ⟨a, ha, rfl⟩, hS⟩ := hS
  obtain ⟨e', q2, ⟨fs', rfl, hfs⟩⟩ := hW.cell hw ha
  obtain ⟨hcl, CC, T, N, c1, c2, c3, c4, c5, c6⟩ := hx
  obtain ⟨ty0, hty0⟩ := (hcl CC T N c1).2.1
  have kk : ∀ (H1 : Heap) (locs1 : List Loc), va_P G.D vwCl (ws.set x (a, .inr (ci, fs'.set j cv))) H1 → va_D A (ws.set x (a, .inr (ci, fs'.set j cv))) → va_S A s.heap H1 locs1 → W p G.l e R s m args below meth c H1 locs1 cells slots Q (F0 m (pc + 3) lc sc) := fun H1 locs1 r1 r2 r3 =>
    hgo _ _ _ _ _ _ h A ad0 R p e s m args below meth c Q C F ad _ H1 locs1 cells slots lc sc (hW.put ha ⟨_, rfl, by rw [stN_eq]; exact hfs.set hrv⟩ r1 r2 r3) hL hS h1 h2
  cases fin with
  | false => exact va_put C.1 C.2.1 (C.wsg hg) (hcl CC T N c1).1 ty0 hty0 (hcl CC T N c1).2.2 C.2.2.2.2.1 (C.kk hg) hW.2.2.1 hW.2.2.2.1 hW.2.2.2.2 x q2 c1 j c2 (C.wrd hg c5 rfl) (fun _ h => h) c3 c4 (hfit ad cv hrv).1 (hfit ad cv hrv).2 (by rw [hfs.len]; exact hj) hd kk
  | true => exact va_putF C.1 C.2.1 (C.wsg hg) (hcl CC T N c1).1 ty0 hty0 (hcl CC T N c1).2.2 C.2.2.2.2.1 (C.kk hg) hW.2.2.1 hW.2.2.2.1 hW.2.2.2.2 x q2 c1 j c2 (C.wrd hg c5 rfl) (fun _ h => h) c3 (C.2.2.2.2.2.2.2.2.2.2.2.2.1 (hini rfl)) (c6 rfl (hini rfl)) c4 (hfit ad cv hrv).1 (hfit ad cv hrv).2 (by rw [hfs.len]; exact hj) hd kk
theorem q_new (hgo : ∀ bc bs pc ls st w, go bc bs pc ls st w → AW G M d bc bs pc ls st w K KX) (hg : gOK G) {k ci n : Nat} {fs : List Value} (hx : newOK M.m.y.cls k ci n fs) (hfs : ∀ ad, rVs G ad fs fs) (hb : 1 ≤ bc) (hn : n ≤ bs) (hd : decode M.m.cc pc = .ok (.new k, 3)) (h : go (bc - 1) (bs - n) (pc + 3) ls (.ref (lenL w) :: st) (w ++ [.inr (ci, fs)])) : AW G M d bc bs pc ls st w K KX := by
  intro A ad0 R p e s m args below meth c Q C F ad ws H locs cells slots lc sc hW hL hS h1 h2
  obtain ⟨hcl, CC, T, ty0, c1, c2, c3, c4, c5, c6⟩ := hx
  refine va_new C.1 C.2.1 (C.wsg hg) (hcl CC T n c1).1 ty0 c2 C.2.2.2.2.1 (C.wrd hg c4 rfl) (C.wrd hg c5 rfl) (C.wrd hg c6 rfl) (C.kk hg) hW.2.2.1 hW.2.2.2.1 hW.2.2.2.2 C.2.2.2.2.2.2.2.2.2.1 c1 c3 (by omega) (by omega) hd (fun q H1 r1 r2 r3 => ?_)
  exact hgo _ _ _ _ _ _ h A ad0 R p e s m args below meth c Q C F (ad ++ [q]) _ H1 locs (cells + 1) (slots + n) lc _ (hW.new ⟨_, rfl, hfs _⟩ r1 r2 r3) (hL.mono adM.app) (.cons ⟨q, hW.top, rfl⟩ (hS.mono adM.app)) (by omega) (by omega)
theorem q_newarray (hgo : ∀ bc bs pc ls st w, go bc bs pc ls st w → AW G M d bc bs pc ls st w K KX) (hg : gOK G) {n : Int32} {t : Nat} {at9 : ArrayType} {ty : FieldType} (ex : Nat → va_E) (dx : vp_A) (hty : newarray.typeOf at9 = ty) (ht : kTy[t]? = some ty) (hra : ∀ (U : State) (cA : ClassId), va_RA U cA ty → U.vm.findClass ("[" ++ ty.toString) = some cA) (hex : ex n.toNatClampNeg = .inl (t, dx)) (hda : ∀ ad, rA ad dx dx) (hcell : ∀ cA : ClassId, vp_cell cA dx = arrV cA n.toNatClampNeg (fun _ => defaultValue ty)) (hby : componentBytes ty ≤ 8) (hw : Jvm.Cond.arrayClass ty ∈ lw_tbl) (hn0 : ¬ n < 0) (hmx : n.toNatClampNeg ≤ 65536) (hb : 1 ≤ bc) (hn : n.toNatClampNeg ≤ bs) (hd : decode M.m.cc pc = .ok (.newarray at9, 2)) (h : go (bc - 1) (bs - n.toNatClampNeg) (pc + 2) ls (.ref (lenL w) :: st) (w ++ [ex n.toNatClampNeg])) : AW G M d bc bs pc ls (.int n :: st) w K KX := by
  intro A ad0 R p e s m args below meth c Q C F ad ws H locs cells slots lc sc hW hL hS h1 h2
  obtain ⟨cx, sc, rfl, hx, hS⟩ := hS
  cases (show cx = _ from hx)
  obtain ⟨cA9, hcA⟩ := hg.tys ht
  refine va_newa C.1 C.2.1 (by rw [hty]; exact C.wrd hg hw rfl) hty (C.kk hg) hW.2.2.1 hW.2.2.2.1 hW.2.2.2.2 C.2.2.2.2.2.2.2.2.2.1 hcell hn0 rfl (Nat.le_trans (Nat.mul_le_mul hmx hby) (by decide)) (by omega) (by omega) hd (fun q cA H1 r0 r1 r2 r3 => ?_)
  have e1 := hra s cA (r0.2 G.tys.length (cA, ty) (by simp)).2
  have e2 := hra s cA9 ((C.kk hg).2 t _ hcA).2
  cases (Option.some.inj (e1.symm.trans e2))
  exact hgo _ _ _ _ _ _ h A ad0 R p e s m args below meth c Q C F (ad ++ [q]) _ H1 locs (cells + 1) (slots + n.toNatClampNeg) lc _ (hW.new (by rw [hex]; exact ⟨_, dx, hcA, rfl, hda _⟩) r1 r2 r3) (hL.mono adM.app) (.cons ⟨q, hW.top, rfl⟩ (hS.mono adM.app)) (by omega) (by omega)
theorem q_anewarray (hgo : ∀ bc bs pc ls st w, go bc bs pc ls st w → AW G M d bc bs pc ls st w K KX) (hg : gOK G) {n : Int32} {k : Nat} (hl : Jvm.Cond.classLink M.m.y.cls k RX0 ∈ lw_tbl) (hov : ∀ U : State, G.s0.WarmedH U.vm → va_AO RX0 U) (hn0 : ¬ n < 0) (hmx : n.toNatClampNeg ≤ 65536) (hb : 1 ≤ bc) (hn : n.toNatClampNeg ≤ bs) (hd : decode M.m.cc pc = .ok (.anewarray k, 3)) (h : go (bc - 1) (bs - n.toNatClampNeg) (pc + 3) ls (.ref (lenL w) :: st) (w ++ [.inl (6, n.toNatClampNeg, .inr (.inr (.inr (.inr (fun _ => none)))))])) : AW G M d bc bs pc ls (.int n :: st) w K KX := by
  intro A ad0 R p e s m args below meth c Q C F ad ws H locs cells slots lc sc hW hL hS h1 h2
  obtain ⟨cx, sc, rfl, hx, hS⟩ := hS
  cases (show cx = _ from hx)
  obtain ⟨cA9, hcA⟩ := hg.tys (t := 6) (ty := .object RX0) rfl
  refine va_newq C.1 C.2.1 C.2.2.2.2.1 (C.wrd hg hl rfl) (hov s C.2.2.2.2.2.2.1) (C.kk hg) hW.2.2.1 hW.2.2.2.1 hW.2.2.2.2 C.2.2.2.2.2.2.2.2.2.1 hn0 rfl (Nat.le_trans (Nat.mul_le_mul hmx (Nat.le_refl 4)) (by decide)) (by omega) (by omega) hd (fun q cA H1 r0 r1 r2 r3 => ?_)
  have e1 := (r0.2 G.tys.length (cA, .object RX0) (by simp)).2
  have e2 := ((C.kk hg).2 6 _ hcA).2
  obtain ⟨_, _, _, _, _, e1⟩ := e1
  obtain ⟨_, _, _, _, _, e2⟩ := e2
  cases (Option.some.inj (e1.symm.trans e2))
  exact hgo _ _ _ _ _ _ h A ad0 R p e s m args below meth c Q C F (ad ++ [q]) _ H1 locs (cells + 1) (slots + n.toNatClampNeg) lc _ (hW.new ⟨_, _, hcA, rfl, ⟨_, rfl, fun _ => rfl⟩⟩ r1 r2 r3) (hL.mono adM.app) (.cons ⟨q, hW.top, rfl⟩ (hS.mono adM.app)) (by omega) (by omega)
theorem q_arraylength (hgo : ∀ bc bs pc ls st w, go bc bs pc ls st w → AW G M d bc bs pc ls st w K KX) (hg : gOK G) {t n x : Nat} {dx : (Nat → Int32) ⊕ (Nat → Int64) ⊕ (Nat → UInt32) ⊕ (Nat → UInt64) ⊕ (Nat → Option Nat)} (hw : nth w x = some (.inl (t, n, dx))) (hd : decode M.m.cc pc = .ok (.arraylength, 1)) (h : go bc bs (pc + 1) ls (.int (nI n) :: st) w) : AW G M d bc bs pc ls (.ref x :: st) w K KX := by
  intro A ad0 R p e s m args below meth c Q C F ad ws H locs cells slots lc sc hW hL hS h1 h2
  obtain ⟨cx, sc, rfl, ⟨a, ha, rfl⟩, hS⟩ := hS
  obtain ⟨e', q2, q, d', hq, rfl, hr⟩ := hW.cell hw ha
  obtain ⟨cA, ty⟩ := q
  exact va_alen C.1 C.2.1 (C.kk hg) hW.2.2.1 x t q2 hq (by rw [hr.one]; rfl) hd (hgo _ _ _ _ _ _ h A ad0 R p e s m args below meth c Q C F ad ws H locs cells slots lc _ hW hL (.cons rfl hS) h1 h2)
theorem q_arraylengthS (hgo : ∀ bc bs pc ls st w, go bc bs pc ls st w → AW G M d bc bs pc ls st w K KX) (hg : gOK G) {t n j : Nat} {f : Nat → Int32} (hw : stF G j = some (t, n, f)) (hd : decode M.m.cc pc = .ok (.arraylength, 1)) (h : go bc bs (pc + 1) ls (.int (nI n) :: st) w) : AW G M d bc bs pc ls (.retAddr j :: st) w K KX := by
  intro A ad0 R p e s m args below meth c Q C F ad ws H locs cells slots lc sc hW hL hS h1 h2
  obtain ⟨cx, sc, rfl, hx, hS⟩ := hS
  obtain ⟨a, ty, hty, ha, hT⟩ := hg.2.2.2.1 j t n f hw
  cases (show cx = _ from hx)
  rw [ha]
  exact va_tlen C.1 C.2.1 (C.vT hT) hW.2.2.2.2 rfl hd (hgo _ _ _ _ _ _ h A ad0 R p e s m args below meth c Q C F ad ws H locs cells slots lc _ hW hL (.cons rfl hS) h1 h2)
theorem q_iaload (hgo : ∀ bc bs pc ls st w, go bc bs pc ls st w → AW G M d bc bs pc ls st w K KX) (hg : gOK G) {n x : Nat} {f : Nat → Int32} {i : Int32} (hw : nth w x = some (.inl (0, n, .inl f))) (hin : vp_in i n) (hd : decode M.m.cc pc = .ok (.iaload, 1)) (h : go bc bs (pc + 1) ls (.int (f i.toNatClampNeg) :: st) w) : AW G M d bc bs pc ls (.int i :: .ref x :: st) w K KX := by
  intro A ad0 R p e s m args below meth c Q C F ad ws H locs cells slots lc sc hW hL hS h1 h2
  obtain ⟨ci, sc, rfl, hi, cx, sc, rfl, ⟨a, ha, rfl⟩, hS⟩ := hS
  cases (show ci = _ from hi)
  obtain ⟨e', q2, q, d', hq, rfl, hr⟩ := hW.cell hw ha
  cases (show d' = _ from hr)
  obtain ⟨cA, ty⟩ := q
  have ht := hg.ty hq
  cases ht
  exact va_iald C.1 C.2.1 (C.kk hg) hW.2.2.1 x 0 q2 hq hin hd (hgo _ _ _ _ _ _ h A ad0 R p e s m args below meth c Q C F ad ws H locs cells slots lc _ hW hL (.cons rfl hS) h1 h2)
theorem q_zaload (hgo : ∀ bc bs pc ls st w, go bc bs pc ls st w → AW G M d bc bs pc ls st w K KX) (hg : gOK G) {n x : Nat} {f : Nat → Int32} {i : Int32} (hw : nth w x = some (.inl (1, n, .inl f))) (hin : vp_in i n) (hd : decode M.m.cc pc = .ok (.baload, 1)) (h : go bc bs (pc + 1) ls (.int (f i.toNatClampNeg) :: st) w) : AW G M d bc bs pc ls (.int i :: .ref x :: st) w K KX := by
  intro A ad0 R p e s m args below meth c Q C F ad ws H locs cells slots lc sc hW hL hS h1 h2
  obtain ⟨ci, sc, rfl, hi, cx, sc, rfl, ⟨a, ha, rfl⟩, hS⟩ := hS
  cases (show ci = _ from hi)
  obtain ⟨e', q2, q, d', hq, rfl, hr⟩ := hW.cell hw ha
  cases (show d' = _ from hr)
  obtain ⟨cA, ty⟩ := q
  have ht := hg.ty hq
  cases ht
  exact va_zald C.1 C.2.1 (C.kk hg) hW.2.2.1 x 1 q2 hq hin hd (hgo _ _ _ _ _ _ h A ad0 R p e s m args below meth c Q C F ad ws H locs cells slots lc _ hW hL (.cons rfl hS) h1 h2)
theorem q_caload (hgo : ∀ bc bs pc ls st w, go bc bs pc ls st w → AW G M d bc bs pc ls st w K KX) (hg : gOK G) {n x : Nat} {f : Nat → Int32} {i : Int32} (hw : nth w x = some (.inl (2, n, .inl f))) (hin : vp_in i n) (hd : decode M.m.cc pc = .ok (.caload, 1)) (h : go bc bs (pc + 1) ls (.int (f i.toNatClampNeg) :: st) w) : AW G M d bc bs pc ls (.int i :: .ref x :: st) w K KX := by
  intro A ad0 R p e s m args below meth c Q C F ad ws H locs cells slots lc sc hW hL hS h1 h2
  obtain ⟨ci, sc, rfl, hi, cx, sc, rfl, ⟨a, ha, rfl⟩, hS⟩ := hS
  cases (show ci = _ from hi)
  obtain ⟨e', q2, q, d', hq, rfl, hr⟩ := hW.cell hw ha
  cases (show d' = _ from hr)
  obtain ⟨cA, ty⟩ := q
  have ht := hg.ty hq
  cases ht
  exact va_cald C.1 C.2.1 (C.kk hg) hW.2.2.1 x 2 q2 hq hin hd (hgo _ _ _ _ _ _ h A ad0 R p e s m args below meth c Q C F ad ws H locs cells slots lc _ hW hL (.cons rfl hS) h1 h2)
theorem q_baload (hgo : ∀ bc bs pc ls st w, go bc bs pc ls st w → AW G M d bc bs pc ls st w K KX) (hg : gOK G) {n x : Nat} {f : Nat → Int32} {i : Int32} (hw : nth w x = some (.inl (3, n, .inl f))) (hin : vp_in i n) (hd : decode M.m.cc pc = .ok (.baload, 1)) (h : go bc bs (pc + 1) ls (.int (f i.toNatClampNeg) :: st) w) : AW G M d bc bs pc ls (.int i :: .ref x :: st) w K KX := by
  intro A ad0 R p e s m args below meth c Q C F ad ws H locs cells slots lc sc hW hL hS h1 h2
  obtain ⟨ci, sc, rfl, hi, cx, sc, rfl, ⟨a, ha, rfl⟩, hS⟩ := hS
  cases (show ci = _ from hi)
  obtain ⟨e', q2, q, d', hq, rfl, hr⟩ := hW.cell hw ha
  cases (show d' = _ from hr)
  obtain ⟨cA, ty⟩ := q
  have ht := hg.ty hq
  cases ht
  exact va_bald C.1 C.2.1 (C.kk hg) hW.2.2.1 x 3 q2 hq hin hd (hgo _ _ _ _ _ _ h A ad0 R p e s m args below meth c Q C F ad ws H locs cells slots lc _ hW hL (.cons rfl hS) h1 h2)
theorem q_laload (hgo : ∀ bc bs pc ls st w, go bc bs pc ls st w → AW G M d bc bs pc ls st w K KX) (hg : gOK G) {n x : Nat} {f : Nat → Int64} {i : Int32} (hw : nth w x = some (.inl (4, n, .inr (.inl f)))) (hin : vp_in i n) (hd : decode M.m.cc pc = .ok (.laload, 1)) (h : go bc bs (pc + 1) ls (.long (f i.toNatClampNeg) :: st) w) : AW G M d bc bs pc ls (.int i :: .ref x :: st) w K KX := by
  intro A ad0 R p e s m args below meth c Q C F ad ws H locs cells slots lc sc hW hL hS h1 h2
  obtain ⟨ci, sc, rfl, hi, cx, sc, rfl, ⟨a, ha, rfl⟩, hS⟩ := hS
  cases (show ci = _ from hi)
  obtain ⟨e', q2, q, d', hq, rfl, hr⟩ := hW.cell hw ha
  cases (show d' = _ from hr)
  obtain ⟨cA, ty⟩ := q
  have ht := hg.ty hq
  cases ht
  exact va_lald C.1 C.2.1 (C.kk hg) hW.2.2.1 x 4 q2 hq hin hd (hgo _ _ _ _ _ _ h A ad0 R p e s m args below meth c Q C F ad ws H locs cells slots lc _ hW hL (.cons rfl hS) h1 h2)
theorem q_daload (hgo : ∀ bc bs pc ls st w, go bc bs pc ls st w → AW G M d bc bs pc ls st w K KX) (hg : gOK G) {n x : Nat} {f : Nat → UInt64} {i : Int32} (hw : nth w x = some (.inl (5, n, .inr (.inr (.inr (.inl f)))))) (hin : vp_in i n) (hd : decode M.m.cc pc = .ok (.daload, 1)) (h : go bc bs (pc + 1) ls (.double (f i.toNatClampNeg) :: st) w) : AW G M d bc bs pc ls (.int i :: .ref x :: st) w K KX := by
  intro A ad0 R p e s m args below meth c Q C F ad ws H locs cells slots lc sc hW hL hS h1 h2
  obtain ⟨ci, sc, rfl, hi, cx, sc, rfl, ⟨a, ha, rfl⟩, hS⟩ := hS
  cases (show ci = _ from hi)
  obtain ⟨e', q2, q, d', hq, rfl, hr⟩ := hW.cell hw ha
  cases (show d' = _ from hr)
  obtain ⟨cA, ty⟩ := q
  have ht := hg.ty hq
  cases ht
  exact va_dald C.1 C.2.1 (C.kk hg) hW.2.2.1 x 5 q2 hq hin hd (hgo _ _ _ _ _ _ h A ad0 R p e s m args below meth c Q C F ad ws H locs cells slots lc _ hW hL (.cons rfl hS) h1 h2)
theorem q_ialoadS (hgo : ∀ bc bs pc ls st w, go bc bs pc ls st w → AW G M d bc bs pc ls st w K KX) (hg : gOK G) {n j : Nat} {f : Nat → Int32} {i : Int32} (hw : stF G j = some (0, n, f)) (hin : vp_in i n) (hd : decode M.m.cc pc = .ok (.iaload, 1)) (h : go bc bs (pc + 1) ls (.int (f i.toNatClampNeg) :: st) w) : AW G M d bc bs pc ls (.int i :: .retAddr j :: st) w K KX := by
  intro A ad0 R p e s m args below meth c Q C F ad ws H locs cells slots lc sc hW hL hS h1 h2
  obtain ⟨ci, sc, rfl, hi, cx, sc, rfl, hx, hS⟩ := hS
  cases (show ci = _ from hi)
  obtain ⟨a, ty, hty, ha, hT⟩ := hg.2.2.2.1 j 0 n f hw
  cases hty
  cases (show cx = _ from hx)
  rw [ha]
  exact va_ti C.1 C.2.1 (C.vT hT) hW.2.2.2.2 hin rfl hd (hgo _ _ _ _ _ _ h A ad0 R p e s m args below meth c Q C F ad ws H locs cells slots lc _ hW hL (.cons rfl hS) h1 h2)
theorem q_baloadS (hgo : ∀ bc bs pc ls st w, go bc bs pc ls st w → AW G M d bc bs pc ls st w K KX) (hg : gOK G) {n j : Nat} {f : Nat → Int32} {i : Int32} (hw : stF G j = some (3, n, f)) (hin : vp_in i n) (hd : decode M.m.cc pc = .ok (.baload, 1)) (h : go bc bs (pc + 1) ls (.int (f i.toNatClampNeg) :: st) w) : AW G M d bc bs pc ls (.int i :: .retAddr j :: st) w K KX := by
  intro A ad0 R p e s m args below meth c Q C F ad ws H locs cells slots lc sc hW hL hS h1 h2
  obtain ⟨ci, sc, rfl, hi, cx, sc, rfl, hx, hS⟩ := hS
  cases (show ci = _ from hi)
  obtain ⟨a, ty, hty, ha, hT⟩ := hg.2.2.2.1 j 3 n f hw
  cases hty
  cases (show cx = _ from hx)
  rw [ha]
  exact va_tb C.1 C.2.1 (C.vT hT) hW.2.2.2.2 hin rfl hd (hgo _ _ _ _ _ _ h A ad0 R p e s m args below meth c Q C F ad ws H locs cells slots lc _ hW hL (.cons rfl hS) h1 h2)
theorem q_iastore (hgo : ∀ bc bs pc ls st w, go bc bs pc ls st w → AW G M d bc bs pc ls st w K KX) (hg : gOK G) {n x : Nat} {f : Nat → Int32} {i : Int32} {v : Int32} (hw : nth w x = some (.inl (0, n, .inl f))) (hin : vp_in i n) (hd : decode M.m.cc pc = .ok (.iastore, 1)) (h : go bc bs (pc + 1) ls st (stN w x (.inl (0, n, .inl (upd f i.toNatClampNeg v))))) : AW G M d bc bs pc ls (.int v :: .int i :: .ref x :: st) w K KX := by
  intro A ad0 R p e s m args below meth c Q C F ad ws H locs cells slots lc sc hW hL hS h1 h2
  obtain ⟨cv, sc, rfl, hv, ci, sc, rfl, hi, cx, sc, rfl, ⟨a, ha, rfl⟩, hS⟩ := hS
  cases (show ci = _ from hi)
  cases (show cv = _ from hv)
  obtain ⟨e', q2, q, d', hq, rfl, hr⟩ := hW.cell hw ha
  cases (show d' = _ from hr)
  obtain ⟨cA, ty⟩ := q
  have ht := hg.ty hq
  cases ht
  exact va_iast C.1 C.2.1 (C.kk hg) hW.2.2.1 hW.2.2.2.1 hW.2.2.2.2 x 0 q2 hq hin hd (fun H1 locs1 r1 r2 r3 => hgo _ _ _ _ _ _ h A ad0 R p e s m args below meth c Q C F ad _ H1 locs1 cells slots lc _ (hW.put ha ⟨_, _, hq, rfl, rfl⟩ r1 r2 r3) hL hS h1 h2)
theorem q_zastore (hgo : ∀ bc bs pc ls st w, go bc bs pc ls st w → AW G M d bc bs pc ls st w K KX) (hg : gOK G) {n x : Nat} {f : Nat → Int32} {i : Int32} {v : Int32} (hw : nth w x = some (.inl (1, n, .inl f))) (hin : vp_in i n) (hd : decode M.m.cc pc = .ok (.bastore, 1)) (h : go bc bs (pc + 1) ls st (stN w x (.inl (1, n, .inl (upd f i.toNatClampNeg (vp_nar .boolean v)))))) : AW G M d bc bs pc ls (.int v :: .int i :: .ref x :: st) w K KX := by
  intro A ad0 R p e s m args below meth c Q C F ad ws H locs cells slots lc sc hW hL hS h1 h2
  obtain ⟨cv, sc, rfl, hv, ci, sc, rfl, hi, cx, sc, rfl, ⟨a, ha, rfl⟩, hS⟩ := hS
  cases (show ci = _ from hi)
  cases (show cv = _ from hv)
  obtain ⟨e', q2, q, d', hq, rfl, hr⟩ := hW.cell hw ha
  cases (show d' = _ from hr)
  obtain ⟨cA, ty⟩ := q
  have ht := hg.ty hq
  cases ht
  exact va_zast C.1 C.2.1 (C.kk hg) hW.2.2.1 hW.2.2.2.1 hW.2.2.2.2 x 1 q2 hq hin hd (fun H1 locs1 r1 r2 r3 => hgo _ _ _ _ _ _ h A ad0 R p e s m args below meth c Q C F ad _ H1 locs1 cells slots lc _ (hW.put ha ⟨_, _, hq, rfl, rfl⟩ r1 r2 r3) hL hS h1 h2)
theorem q_castore (hgo : ∀ bc bs pc ls st w, go bc bs pc ls st w → AW G M d bc bs pc ls st w K KX) (hg : gOK G) {n x : Nat} {f : Nat → Int32} {i : Int32} {v : Int32} (hw : nth w x = some (.inl (2, n, .inl f))) (hin : vp_in i n) (hd : decode M.m.cc pc = .ok (.castore, 1)) (h : go bc bs (pc + 1) ls st (stN w x (.inl (2, n, .inl (upd f i.toNatClampNeg (vp_nar .char v)))))) : AW G M d bc bs pc ls (.int v :: .int i :: .ref x :: st) w K KX := by
  intro A ad0 R p e s m args below meth c Q C F ad ws H locs cells slots lc sc hW hL hS h1 h2
  obtain ⟨cv, sc, rfl, hv, ci, sc, rfl, hi, cx, sc, rfl, ⟨a, ha, rfl⟩, hS⟩ := hS
  cases (show ci = _ from hi)
  cases (show cv = _ from hv)
  obtain ⟨e', q2, q, d', hq, rfl, hr⟩ := hW.cell hw ha
  cases (show d' = _ from hr)
  obtain ⟨cA, ty⟩ := q
  have ht := hg.ty hq
  cases ht
  exact va_cast C.1 C.2.1 (C.kk hg) hW.2.2.1 hW.2.2.2.1 hW.2.2.2.2 x 2 q2 hq hin hd (fun H1 locs1 r1 r2 r3 => hgo _ _ _ _ _ _ h A ad0 R p e s m args below meth c Q C F ad _ H1 locs1 cells slots lc _ (hW.put ha ⟨_, _, hq, rfl, rfl⟩ r1 r2 r3) hL hS h1 h2)
theorem q_bastore (hgo : ∀ bc bs pc ls st w, go bc bs pc ls st w → AW G M d bc bs pc ls st w K KX) (hg : gOK G) {n x : Nat} {f : Nat → Int32} {i : Int32} {v : Int32} (hw : nth w x = some (.inl (3, n, .inl f))) (hin : vp_in i n) (hd : decode M.m.cc pc = .ok (.bastore, 1)) (h : go bc bs (pc + 1) ls st (stN w x (.inl (3, n, .inl (upd f i.toNatClampNeg (vp_nar .byte v)))))) : AW G M d bc bs pc ls (.int v :: .int i :: .ref x :: st) w K KX := by
  intro A ad0 R p e s m args below meth c Q C F ad ws H locs cells slots lc sc hW hL hS h1 h2
  obtain ⟨cv, sc, rfl, hv, ci, sc, rfl, hi, cx, sc, rfl, ⟨a, ha, rfl⟩, hS⟩ := hS
  cases (show ci = _ from hi)
  cases (show cv = _ from hv)
  obtain ⟨e', q2, q, d', hq, rfl, hr⟩ := hW.cell hw ha
  cases (show d' = _ from hr)
  obtain ⟨cA, ty⟩ := q
  have ht := hg.ty hq
  cases ht
  exact va_bast C.1 C.2.1 (C.kk hg) hW.2.2.1 hW.2.2.2.1 hW.2.2.2.2 x 3 q2 hq hin hd (fun H1 locs1 r1 r2 r3 => hgo _ _ _ _ _ _ h A ad0 R p e s m args below meth c Q C F ad _ H1 locs1 cells slots lc _ (hW.put ha ⟨_, _, hq, rfl, rfl⟩ r1 r2 r3) hL hS h1 h2)
theorem q_lastore (hgo : ∀ bc bs pc ls st w, go bc bs pc ls st w → AW G M d bc bs pc ls st w K KX) (hg : gOK G) {n x : Nat} {f : Nat → Int64} {i : Int32} {v : Int64} (hw : nth w x = some (.inl (4, n, .inr (.inl f)))) (hin : vp_in i n) (hd : decode M.m.cc pc = .ok (.lastore, 1)) (h : go bc bs (pc + 1) ls st (stN w x (.inl (4, n, .inr (.inl (vp_updL f i.toNatClampNeg v)))))) : AW G M d bc bs pc ls (.long v :: .int i :: .ref x :: st) w K KX := by
  intro A ad0 R p e s m args below meth c Q C F ad ws H locs cells slots lc sc hW hL hS h1 h2
  obtain ⟨cv, sc, rfl, hv, ci, sc, rfl, hi, cx, sc, rfl, ⟨a, ha, rfl⟩, hS⟩ := hS
  cases (show ci = _ from hi)
  cases (show cv = _ from hv)
  obtain ⟨e', q2, q, d', hq, rfl, hr⟩ := hW.cell hw ha
  cases (show d' = _ from hr)
  obtain ⟨cA, ty⟩ := q
  have ht := hg.ty hq
  cases ht
  exact va_last C.1 C.2.1 (C.kk hg) hW.2.2.1 hW.2.2.2.1 hW.2.2.2.2 x 4 q2 hq hin hd (fun H1 locs1 r1 r2 r3 => hgo _ _ _ _ _ _ h A ad0 R p e s m args below meth c Q C F ad _ H1 locs1 cells slots lc _ (hW.put ha ⟨_, _, hq, rfl, rfl⟩ r1 r2 r3) hL hS h1 h2)
theorem q_dastore (hgo : ∀ bc bs pc ls st w, go bc bs pc ls st w → AW G M d bc bs pc ls st w K KX) (hg : gOK G) {n x : Nat} {f : Nat → UInt64} {i : Int32} {v : UInt64} (hw : nth w x = some (.inl (5, n, .inr (.inr (.inr (.inl f)))))) (hin : vp_in i n) (hd : decode M.m.cc pc = .ok (.dastore, 1)) (h : go bc bs (pc + 1) ls st (stN w x (.inl (5, n, .inr (.inr (.inr (.inl (vf_upd f i.toNatClampNeg v)))))))) : AW G M d bc bs pc ls (.double v :: .int i :: .ref x :: st) w K KX := by
  intro A ad0 R p e s m args below meth c Q C F ad ws H locs cells slots lc sc hW hL hS h1 h2
  obtain ⟨cv, sc, rfl, hv, ci, sc, rfl, hi, cx, sc, rfl, ⟨a, ha, rfl⟩, hS⟩ := hS
  cases (show ci = _ from hi)
  cases (show cv = _ from hv)
  obtain ⟨e', q2, q, d', hq, rfl, hr⟩ := hW.cell hw ha
  cases (show d' = _ from hr)
  obtain ⟨cA, ty⟩ := q
  have ht := hg.ty hq
  cases ht
  exact va_dast C.1 C.2.1 (C.kk hg) hW.2.2.1 hW.2.2.2.1 hW.2.2.2.2 x 5 q2 hq hin hd (fun H1 locs1 r1 r2 r3 => hgo _ _ _ _ _ _ h A ad0 R p e s m args below meth c Q C F ad _ H1 locs1 cells slots lc _ (hW.put ha ⟨_, _, hq, rfl, rfl⟩ r1 r2 r3) hL hS h1 h2)
theorem q_aaload (hgo : ∀ bc bs pc ls st w, go bc bs pc ls st w → AW G M d bc bs pc ls st w K KX) (hg : gOK G) {n x : Nat} {f : Nat → Option Nat} {i : Int32} (hw : nth w x = some (.inl (6, n, .inr (.inr (.inr (.inr f)))))) (hin : vp_in i n) (hd : decode M.m.cc pc = .ok (.aaload, 1)) (h : match f i.toNatClampNeg with | none => go bc bs (pc + 1) ls (.null :: st) w | some x => go bc bs (pc + 1) ls (.ref x :: st) w) : AW G M d bc bs pc ls (.int i :: .ref x :: st) w K KX := by
  intro A ad0 R p e s m args below meth c Q C F ad ws H locs cells slots lc sc hW hL hS h1 h2
  obtain ⟨ci, sc, rfl, hi, cx, sc, rfl, ⟨a, ha, rfl⟩, hS⟩ := hS
  cases (show ci = _ from hi)
  obtain ⟨e', q2, q, d', hq, rfl, ⟨gf, rfl, hr⟩⟩ := hW.cell hw ha
  obtain ⟨cA, ty⟩ := q
  have ht := hg.ty hq
  cases ht
  refine va_aldq C.1 C.2.1 (C.kk hg) hW.2.2.1 x 6 q2 hq hin hd ?_
  have hri := hr i.toNatClampNeg
  cases hf : f i.toNatClampNeg with
  | none =>
    rw [hf] at hri h
    rw [show gf i.toNatClampNeg = none from hri]
    exact hgo _ _ _ _ _ _ h A ad0 R p e s m args below meth c Q C F ad ws H locs cells slots lc _ hW hL (.cons rfl hS) h1 h2
  | some y =>
    rw [hf] at hri h
    obtain ⟨b, hb1, hb2⟩ := hri
    rw [hb2]
    exact hgo _ _ _ _ _ _ h A ad0 R p e s m args below meth c Q C F ad ws H locs cells slots lc _ hW hL (.cons ⟨b, hb1, rfl⟩ hS) h1 h2
theorem q_aastore (hgo : ∀ bc bs pc ls st w, go bc bs pc ls st w → AW G M d bc bs pc ls st w K KX) (hg : gOK G) {n x y : Nat} {f : Nat → Option Nat} {fs : List Value} {i : Int32} (hw : nth w x = some (.inl (6, n, .inr (.inr (.inr (.inr f)))))) (hy : nth w y = some (.inr (4, fs))) (hin : vp_in i n) (hd : decode M.m.cc pc = .ok (.aastore, 1)) (h : go bc bs (pc + 1) ls st (stN w x (.inl (6, n, .inr (.inr (.inr (.inr (va_up f i.toNatClampNeg (some y)))))))) ) : AW G M d bc bs pc ls (.ref y :: .int i :: .ref x :: st) w K KX := by
  intro A ad0 R p e s m args below meth c Q C F ad ws H locs cells slots lc sc hW hL hS h1 h2
  obtain ⟨cv, sc, rfl, ⟨b, hb, rfl⟩, ci, sc, rfl, hi, cx, sc, rfl, ⟨a, ha, rfl⟩, hS⟩ := hS
  cases (show ci = _ from hi)
  obtain ⟨e', q2, q, d', hq, rfl, ⟨gf, rfl, hr⟩⟩ := hW.cell hw ha
  obtain ⟨e9, q3, ⟨fs', rfl, hfs⟩⟩ := hW.cell hy hb
  obtain ⟨cA, ty⟩ := q
  have ht := hg.ty hq
  cases ht
  refine va_astq (r := (RX0, TX0, 10)) C.1 C.2.1 (C.kk hg) hW.2.2.1 hW.2.2.2.1 hW.2.2.2.2 x 6 y 4 q2 hq q3 rfl hin hd (fun H1 locs1 r1 r2 r3 => hgo _ _ _ _ _ _ h A ad0 R p e s m args below meth c Q C F ad _ H1 locs1 cells slots lc _ (hW.put ha ⟨_, _, hq, rfl, ⟨_, rfl, fun k => ?_⟩⟩ r1 r2 r3) hL hS h1 h2)
  by_cases hk : k = i.toNatClampNeg
  · subst hk
    simp only [va_up, if_true]
    exact ⟨b, hb, rfl⟩
  · simp only [va_up, if_neg hk]
    exact hr k
theorem q_acmp_eq (hgo : ∀ bc bs pc ls st w, go bc bs pc ls st w → AW G M d bc bs pc ls st w K KX) (hg : gOK G) {off : Int} {tg x y : Nat} (hx : 3 ≤ x ∧ x ≤ 5) (hy : 3 ≤ y ∧ y ≤ 5) (ht : (pc : Int) + off = (tg : Int)) (hd : decode M.m.cc pc = .ok (.if_acmp .eq off, 3)) (h : (x = y → go bc bs tg ls st w) ∧ (¬ x = y → go bc bs (pc + 3) ls st w)) : AW G M d bc bs pc ls (.retAddr y :: .retAddr x :: st) w K KX := by
  intro A ad0 R p e s m args below meth c Q C F ad ws H locs cells slots lc sc hW hL hS h1 h2
  obtain ⟨cy, sc, rfl, ey, cx, sc, rfl, ex, hS⟩ := hS
  obtain ⟨a, ha⟩ := hg.2.2.2.2.2.1 x hx.1 hx.2
  obtain ⟨b, hb⟩ := hg.2.2.2.2.2.1 y hy.1 hy.2
  cases (show cy = _ from ey); cases (show cx = _ from ex)
  rw [ha, hb]
  refine lv_acmp_eq (rx := some a) (ry := some b) C.1 C.2.1 hd ht (fun q => ?_) (fun q => ?_)
  · exact hgo _ _ _ _ _ _ (h.1 (hg.2.2.2.2.2.2.1 x y hx.1 hx.2 hy.1 hy.2 (by rw [ha, hb, Option.some.inj q]))) A ad0 R p e s m args below meth c Q C F ad ws H locs cells slots lc _ hW hL hS h1 h2
  · exact hgo _ _ _ _ _ _ (h.2 (fun q9 => q (by subst q9; rw [ha] at hb; cases hb; rfl))) A ad0 R p e s m args below meth c Q C F ad ws H locs cells slots lc _ hW hL hS h1 h2
theorem q_acmp_ne (hgo : ∀ bc bs pc ls st w, go bc bs pc ls st w → AW G M d bc bs pc ls st w K KX) (hg : gOK G) {off : Int} {tg x y : Nat} (hx : 3 ≤ x ∧ x ≤ 5) (hy : 3 ≤ y ∧ y ≤ 5) (ht : (pc : Int) + off = (tg : Int)) (hd : decode M.m.cc pc = .ok (.if_acmp .ne off, 3)) (h : (¬ x = y → go bc bs tg ls st w) ∧ (x = y → go bc bs (pc + 3) ls st w)) : AW G M d bc bs pc ls (.retAddr y :: .retAddr x :: st) w K KX := by
  intro A ad0 R p e s m args below meth c Q C F ad ws H locs cells slots lc sc hW hL hS h1 h2
  obtain ⟨cy, sc, rfl, ey, cx, sc, rfl, ex, hS⟩ := hS
  obtain ⟨a, ha⟩ := hg.2.2.2.2.2.1 x hx.1 hx.2
  obtain ⟨b, hb⟩ := hg.2.2.2.2.2.1 y hy.1 hy.2
  cases (show cy = _ from ey); cases (show cx = _ from ex)
  rw [ha, hb]
  refine lv_acmp_ne (rx := some a) (ry := some b) C.1 C.2.1 hd ht (fun q => ?_) (fun q => ?_)
  · exact hgo _ _ _ _ _ _ (h.1 (fun q9 => q (by subst q9; rw [ha] at hb; cases hb; rfl))) A ad0 R p e s m args below meth c Q C F ad ws H locs cells slots lc _ hW hL hS h1 h2
  · exact hgo _ _ _ _ _ _ (h.2 (hg.2.2.2.2.2.2.1 x y hx.1 hx.2 hy.1 hy.2 (by rw [ha, hb, Option.some.inj q]))) A ad0 R p e s m args below meth c Q C F ad ws H locs cells slots lc _ hW hL hS h1 h2
end QH
