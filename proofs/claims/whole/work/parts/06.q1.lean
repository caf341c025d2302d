/-! ===== the walk is right: instructions that move values only ===== -/
theorem rVs.cons {G : gT} {ad : List Nat} {v c : Value} {vs cs : List Value} (h : rV G ad v c) (h2 : rVs G ad vs cs) : rVs G ad (v :: vs) (c :: cs) := ⟨c, cs, rfl, h, h2⟩
theorem rL.at {G : gT} {ad : List Nat} {ls : List (Option Value)} {lc : Array Slot} {nL : Nat} (h : rL G ad ls lc nL) {i : Nat} {v : Value} (hv : gtL ls i = some v) : ∃ c, rV G ad v c ∧ lc[i]? = some (.val c) := h.2.2 i v (gtL_some hv)
theorem rL.msk {G : gT} {ad : List Nat} {ls : List (Option Value)} {lc : Array Slot} {nL : Nat} (h : rL G ad ls lc nL) (b : List Bool) : rL G ad (msk b ls) lc nL := ⟨h.1, h.2.1, fun i v hv => h.2.2 i v (msk_at b ls i v hv)⟩
theorem AW.msk {G : gT} {M : mT} {d bc bs pc : Nat} {ls : List (Option Value)} {st : List Value} {w : xW} {K : Option Value → xW → Prop} {KX : Nat → xW → Prop} (b : List Bool) (h : AW G M d bc bs pc (msk b ls) st w K KX) : AW G M d bc bs pc ls st w K KX :=
  fun A ad0 R p e s m args below meth c Q C F ad ws H locs cells slots lc sc hW hL hS h1 h2 => h A ad0 R p e s m args below meth c Q C F ad ws H locs cells slots lc sc hW (hL.msk b) hS h1 h2
/-- all values of the locals -/
def allL (lc : Array Slot) : List (Nat × Value) := (List.range lc.size).filterMap (fun (i : Nat) => match (lc[i]? : Option Slot) with
  | some (.val v) => some (i, v)
  | _ => none)
theorem allL_in {lc : Array Slot} {i : Nat} {v : Value} : (i, v) ∈ allL lc ↔ lc[i]? = some (.val v) := by
  unfold allL
  rw [List.mem_filterMap]
  constructor
  · rintro ⟨j, -, hj⟩
    split at hj
    · cases hj; assumption
    · cases hj
  · intro h
    refine ⟨i, List.mem_range.mpr (Array.getElem?_eq_some_iff.mp h).1, ?_⟩
    rw [h]
theorem rL.all {G : gT} {ad : List Nat} {ls : List (Option Value)} {lc : Array Slot} {nL : Nat} (h : rL G ad ls lc nL) : lv_has lc nL (allL lc) := ⟨h.1, h.2.1, fun q hq => allL_in.mp hq⟩
theorem stL_at : ∀ (ls : List (Option Value)) (i : Nat) (v : Value) (j : Nat) (x : Value), (stL ls i v)[j]? = some (some x) → (j = i ∧ x = v) ∨ (¬ j = i ∧ ls[j]? = some (some x) ∧ (j + 1 = i → x.category = 1))
  | [], i, v, j, x, h => by simp [stL] at h
  | a :: l, 0, v, 0, x, h => by simp [stL] at h; exact Or.inl ⟨rfl, h.symm⟩
  | a :: l, 0, v, j + 1, x, h => by simp [stL] at h; exact Or.inr ⟨by omega, by simpa using h, by omega⟩
  | a :: l, 1, v, 0, x, h => by
    simp [stL] at h
    refine Or.inr ⟨by omega, ?_, fun _ => ?_⟩
    · cases a with
      | none => simp [clr] at h
      | some y => cases y <;> simp [clr] at h <;> subst h <;> rfl
    · cases a with
      | none => simp [clr] at h
      | some y => cases y <;> simp [clr] at h <;> subst h <;> rfl
  | a :: l, 1, v, j + 1, x, h => by
    simp [stL] at h
    rcases stL_at l 0 v j x h with ⟨q1, q2⟩ | ⟨q1, q2, q3⟩
    · exact Or.inl ⟨by omega, q2⟩
    · exact Or.inr ⟨by omega, by simpa using q2, by omega⟩
  | a :: l, n + 2, v, 0, x, h => by simp [stL] at h; exact Or.inr ⟨by omega, by simpa using h, by omega⟩
  | a :: l, n + 2, v, j + 1, x, h => by
    simp [stL] at h
    rcases stL_at l (n + 1) v j x h with ⟨q1, q2⟩ | ⟨q1, q2, q3⟩
    · exact Or.inl ⟨by omega, q2⟩
    · exact Or.inr ⟨by omega, by simpa using q2, fun h => q3 (by omega)⟩
theorem rL.st1 {G : gT} {ad : List Nat} {ls : List (Option Value)} {lc lc' : Array Slot} {nL i : Nat} {v c : Value} (hs : ∀ j, (G.sad j).category = 1) (h : rL G ad ls lc nL) (hv : rV G ad v c)
    (h' : lv_has lc' nL ((i, c) :: (allL lc).filter (fun q => !(q.1 == i) && !(q.1 + 1 == i && q.2.category == 2)))) : rL G ad (stL ls i v) lc' nL := by
  refine ⟨h'.1, h'.2.1, fun j x hx => ?_⟩
  rcases stL_at ls i v j x hx with ⟨rfl, rfl⟩ | ⟨h1, h2, h3⟩
  · exact ⟨c, hv, h'.2.2 (j, c) List.mem_cons_self⟩
  · obtain ⟨c2, q1, q2⟩ := h.2.2 j x h2
    refine ⟨c2, q1, h'.2.2 (j, c2) (List.mem_cons_of_mem _ (List.mem_filter.mpr ⟨allL_in.mpr q2, ?_⟩))⟩
    have hc := q1.cat hs
    by_cases hj : j + 1 = i
    · have := h3 hj
      simp [h1, hc, this]
    · simp [h1, hj]
theorem stN_at {α : Type} {l : List α} {i j : Nat} {x y : α} (h : (stN l i x)[j]? = some y) : (j = i ∧ y = x) ∨ (¬ j = i ∧ l[j]? = some y) := by
  rw [stN_eq] at h
  by_cases hj : i = j
  · subst hj
    have hlt : i < (l.set i x).length := (List.getElem?_eq_some_iff.mp h).1
    rw [List.getElem?_set_self (by simpa using hlt)] at h
    cases h
    exact Or.inl ⟨rfl, rfl⟩
  · rw [List.getElem?_set_ne hj] at h
    exact Or.inr ⟨fun q => hj q.symm, h⟩
theorem rL.st2 {G : gT} {ad : List Nat} {ls : List (Option Value)} {lc lc' : Array Slot} {nL i : Nat} {v c : Value} (hs : ∀ j, (G.sad j).category = 1) (h : rL G ad ls lc nL) (hv : rV G ad v c)
    (h' : lv_has lc' nL ((i, c) :: (allL lc).filter (fun q => !(q.1 == i) && (!(q.1 == i + 1) && !(q.1 + 1 == i && q.2.category == 2))))) : rL G ad (st2 ls i v) lc' nL := by
  refine ⟨h'.1, h'.2.1, fun j x hx => ?_⟩
  have hx : (stN (stL ls i v) (i + 1) none)[j]? = some (some x) := hx
  rcases stN_at hx with ⟨-, h0⟩ | ⟨h0, hx⟩
  · cases h0
  rcases stL_at ls i v j x hx with ⟨rfl, rfl⟩ | ⟨h1, h2, h3⟩
  · exact ⟨c, hv, h'.2.2 (j, c) List.mem_cons_self⟩
  · obtain ⟨c2, q1, q2⟩ := h.2.2 j x h2
    refine ⟨c2, q1, h'.2.2 (j, c2) (List.mem_cons_of_mem _ (List.mem_filter.mpr ⟨allL_in.mpr q2, ?_⟩))⟩
    have hc := q1.cat hs
    by_cases hj : j + 1 = i
    · have := h3 hj
      simp [h1, h0, hc, this]
    · simp [h1, h0, hj]
section QQ
variable {G : gT} {M : mT} {d bc bs pc : Nat} {ls : List (Option Value)} {st : List Value} {w : xW} {K : Option Value → xW → Prop} {KX : Nat → xW → Prop} {go : recT}
theorem q_iconst (hgo : ∀ bc bs pc ls st w, go bc bs pc ls st w → AW G M d bc bs pc ls st w K KX) {n : Int} (hd : decode M.m.cc pc = .ok (.iconst n, 1)) (h : go bc bs (pc + 1) ls (.int (Int32.ofInt n) :: st) w) : AW G M d bc bs pc ls st w K KX := by
  intro A ad0 R p e s m args below meth c Q C F ad ws H locs cells slots lc sc hW hL hS h1 h2
  exact lv_iconst C.1 C.2.1 hd rfl (hgo _ _ _ _ _ _ h A ad0 R p e s m args below meth c Q C F ad ws H locs cells slots lc _ hW hL (.cons rfl hS) h1 h2)
theorem q_bipush (hgo : ∀ bc bs pc ls st w, go bc bs pc ls st w → AW G M d bc bs pc ls st w K KX) {n : Int} (hd : decode M.m.cc pc = .ok (.bipush n, 2)) (h : go bc bs (pc + 2) ls (.int (Int8.ofInt n).toInt32 :: st) w) : AW G M d bc bs pc ls st w K KX := by
  intro A ad0 R p e s m args below meth c Q C F ad ws H locs cells slots lc sc hW hL hS h1 h2
  exact lv_bipush C.1 C.2.1 hd rfl (hgo _ _ _ _ _ _ h A ad0 R p e s m args below meth c Q C F ad ws H locs cells slots lc _ hW hL (.cons rfl hS) h1 h2)
theorem q_sipush (hgo : ∀ bc bs pc ls st w, go bc bs pc ls st w → AW G M d bc bs pc ls st w K KX) {n : Int} (hd : decode M.m.cc pc = .ok (.sipush n, 3)) (h : go bc bs (pc + 3) ls (.int (Int16.ofInt n).toInt32 :: st) w) : AW G M d bc bs pc ls st w K KX := by
  intro A ad0 R p e s m args below meth c Q C F ad ws H locs cells slots lc sc hW hL hS h1 h2
  exact lv_sipush C.1 C.2.1 hd rfl (hgo _ _ _ _ _ _ h A ad0 R p e s m args below meth c Q C F ad ws H locs cells slots lc _ hW hL (.cons rfl hS) h1 h2)
theorem q_aconst_null (hgo : ∀ bc bs pc ls st w, go bc bs pc ls st w → AW G M d bc bs pc ls st w K KX) (hd : decode M.m.cc pc = .ok (.aconst_null, 1)) (h : go bc bs (pc + 1) ls (.null :: st) w) : AW G M d bc bs pc ls st w K KX := by
  intro A ad0 R p e s m args below meth c Q C F ad ws H locs cells slots lc sc hW hL hS h1 h2
  exact lv_null C.1 C.2.1 hd (hgo _ _ _ _ _ _ h A ad0 R p e s m args below meth c Q C F ad ws H locs cells slots lc _ hW hL (.cons rfl hS) h1 h2)
theorem q_fconst0 (hgo : ∀ bc bs pc ls st w, go bc bs pc ls st w → AW G M d bc bs pc ls st w K KX) (hd : decode M.m.cc pc = .ok (.fconst 0, 1)) (h : go bc bs (pc + 1) ls (.float FP.fconst0 :: st) w) : AW G M d bc bs pc ls st w K KX := by
  intro A ad0 R p e s m args below meth c Q C F ad ws H locs cells slots lc sc hW hL hS h1 h2
  exact lv_fconst0 C.1 C.2.1 hd (hgo _ _ _ _ _ _ h A ad0 R p e s m args below meth c Q C F ad ws H locs cells slots lc _ hW hL (.cons rfl hS) h1 h2)
theorem q_dconst0 (hgo : ∀ bc bs pc ls st w, go bc bs pc ls st w → AW G M d bc bs pc ls st w K KX) (hd : decode M.m.cc pc = .ok (.dconst 0, 1)) (h : go bc bs (pc + 1) ls (.double FP.dconst0 :: st) w) : AW G M d bc bs pc ls st w K KX := by
  intro A ad0 R p e s m args below meth c Q C F ad ws H locs cells slots lc sc hW hL hS h1 h2
  exact lv_dconst0 C.1 C.2.1 hd (hgo _ _ _ _ _ _ h A ad0 R p e s m args below meth c Q C F ad ws H locs cells slots lc _ hW hL (.cons rfl hS) h1 h2)
theorem q_iload_n (hgo : ∀ bc bs pc ls st w, go bc bs pc ls st w → AW G M d bc bs pc ls st w K KX) {k : Fin 4} {x : Int32} (hd : decode M.m.cc pc = .ok (.iload_n k, 1)) (hx : gtL ls k = some (.int x)) (h : go bc bs (pc + 1) ls (.int x :: st) w) : AW G M d bc bs pc ls st w K KX := by
  intro A ad0 R p e s m args below meth c Q C F ad ws H locs cells slots lc sc hW hL hS h1 h2
  obtain ⟨v, hv, hq⟩ := hL.at hx
  cases (show v = _ from hv)
  exact lv_iload_n C.1 C.2.1 hd rfl hq (hgo _ _ _ _ _ _ h A ad0 R p e s m args below meth c Q C F ad ws H locs cells slots lc _ hW hL (.cons rfl hS) h1 h2)
theorem q_iload (hgo : ∀ bc bs pc ls st w, go bc bs pc ls st w → AW G M d bc bs pc ls st w K KX) {k : Nat} {x : Int32} (hd : decode M.m.cc pc = .ok (.iload k, 2)) (hx : gtL ls k = some (.int x)) (h : go bc bs (pc + 2) ls (.int x :: st) w) : AW G M d bc bs pc ls st w K KX := by
  intro A ad0 R p e s m args below meth c Q C F ad ws H locs cells slots lc sc hW hL hS h1 h2
  obtain ⟨v, hv, hq⟩ := hL.at hx
  cases (show v = _ from hv)
  exact lv_iload C.1 C.2.1 hd hq (hgo _ _ _ _ _ _ h A ad0 R p e s m args below meth c Q C F ad ws H locs cells slots lc _ hW hL (.cons rfl hS) h1 h2)
theorem q_fload (hgo : ∀ bc bs pc ls st w, go bc bs pc ls st w → AW G M d bc bs pc ls st w K KX) {k : Nat} {x : UInt32} (hd : decode M.m.cc pc = .ok (.fload k, 2)) (hx : gtL ls k = some (.float x)) (h : go bc bs (pc + 2) ls (.float x :: st) w) : AW G M d bc bs pc ls st w K KX := by
  intro A ad0 R p e s m args below meth c Q C F ad ws H locs cells slots lc sc hW hL hS h1 h2
  obtain ⟨v, hv, hq⟩ := hL.at hx
  cases (show v = _ from hv)
  exact lv_fload C.1 C.2.1 hd hq (hgo _ _ _ _ _ _ h A ad0 R p e s m args below meth c Q C F ad ws H locs cells slots lc _ hW hL (.cons rfl hS) h1 h2)
theorem q_dload (hgo : ∀ bc bs pc ls st w, go bc bs pc ls st w → AW G M d bc bs pc ls st w K KX) {k : Nat} {x : UInt64} (hd : decode M.m.cc pc = .ok (.dload k, 2)) (hx : gtL ls k = some (.double x)) (h : go bc bs (pc + 2) ls (.double x :: st) w) : AW G M d bc bs pc ls st w K KX := by
  intro A ad0 R p e s m args below meth c Q C F ad ws H locs cells slots lc sc hW hL hS h1 h2
  obtain ⟨v, hv, hq⟩ := hL.at hx
  cases (show v = _ from hv)
  exact lv_dload C.1 C.2.1 hd hq (hgo _ _ _ _ _ _ h A ad0 R p e s m args below meth c Q C F ad ws H locs cells slots lc _ hW hL (.cons rfl hS) h1 h2)
theorem q_aload_n (hgo : ∀ bc bs pc ls st w, go bc bs pc ls st w → AW G M d bc bs pc ls st w K KX) (hsa : ∀ j, G.sad j = .null ∨ ∃ a, G.sad j = .ref a) {k : Fin 4} {v : Value} (hr : v = .null ∨ (∃ a, v = .ref a) ∨ ∃ a, v = .retAddr a) (hd : decode M.m.cc pc = .ok (.aload_n k, 1)) (hx : gtL ls k = some v) (h : go bc bs (pc + 1) ls (v :: st) w) : AW G M d bc bs pc ls st w K KX := by
  intro A ad0 R p e s m args below meth c Q C F ad ws H locs cells slots lc sc hW hL hS h1 h2
  obtain ⟨cv, hv, hq⟩ := hL.at hx
  have hc : cv = .null ∨ ∃ a, cv = .ref a := by
    rcases hr with rfl | ⟨a, rfl⟩ | ⟨a, rfl⟩
    · exact Or.inl hv
    · obtain ⟨b, -, h9⟩ := hv
      exact Or.inr ⟨b, h9⟩
    · rw [show cv = _ from hv]; exact hsa a
  have hk := hgo _ _ _ _ _ _ h A ad0 R p e s m args below meth c Q C F ad ws H locs cells slots lc _ hW hL (.cons hv hS) h1 h2
  rcases hc with rfl | ⟨a, rfl⟩
  · exact lv_aload_nN C.1 C.2.1 hd rfl hq hk
  · exact lv_aload_n C.1 C.2.1 hd rfl hq hk
theorem q_aload (hgo : ∀ bc bs pc ls st w, go bc bs pc ls st w → AW G M d bc bs pc ls st w K KX) (hsa : ∀ j, G.sad j = .null ∨ ∃ a, G.sad j = .ref a) {k : Nat} {v : Value} (hr : v = .null ∨ (∃ a, v = .ref a) ∨ ∃ a, v = .retAddr a) (hd : decode M.m.cc pc = .ok (.aload k, 2)) (hx : gtL ls k = some v) (h : go bc bs (pc + 2) ls (v :: st) w) : AW G M d bc bs pc ls st w K KX := by
  intro A ad0 R p e s m args below meth c Q C F ad ws H locs cells slots lc sc hW hL hS h1 h2
  obtain ⟨cv, hv, hq⟩ := hL.at hx
  have hc : cv = .null ∨ ∃ a, cv = .ref a := by
    rcases hr with rfl | ⟨a, rfl⟩ | ⟨a, rfl⟩
    · exact Or.inl hv
    · obtain ⟨b, -, h9⟩ := hv
      exact Or.inr ⟨b, h9⟩
    · rw [show cv = _ from hv]; exact hsa a
  have hk := hgo _ _ _ _ _ _ h A ad0 R p e s m args below meth c Q C F ad ws H locs cells slots lc _ hW hL (.cons hv hS) h1 h2
  rcases hc with rfl | ⟨a, rfl⟩
  · exact lv_aloadN C.1 C.2.1 hd hq hk
  · exact lv_aload C.1 C.2.1 hd hq hk
theorem q_istore_n (hgo : ∀ bc bs pc ls st w, go bc bs pc ls st w → AW G M d bc bs pc ls st w K KX) (hs : ∀ j, (G.sad j).category = 1) {k : Fin 4} {x : Int32} (hn : k < M.m.nL) (hd : decode M.m.cc pc = .ok (.istore_n k, 1)) (h : go bc bs (pc + 1) (stL ls k (.int x)) st w) : AW G M d bc bs pc ls (.int x :: st) w K KX := by
  intro A ad0 R p e s m args below meth c Q C F ad ws H locs cells slots lc sc hW hL hS h1 h2
  obtain ⟨cv, sc, rfl, hv, hS⟩ := hS
  cases (show cv = _ from hv)
  exact lv_istore_n C.1 C.2.1 hd rfl hL.all hn rfl (fun lc2 hl2 => hgo _ _ _ _ _ _ h A ad0 R p e s m args below meth c Q C F ad ws H locs cells slots lc2 _ hW (hL.st1 hs rfl hl2) hS h1 h2)
theorem q_istore (hgo : ∀ bc bs pc ls st w, go bc bs pc ls st w → AW G M d bc bs pc ls st w K KX) (hs : ∀ j, (G.sad j).category = 1) {k : Nat} {x : Int32} (hn : k < M.m.nL) (hd : decode M.m.cc pc = .ok (.istore k, 2)) (h : go bc bs (pc + 2) (stL ls k (.int x)) st w) : AW G M d bc bs pc ls (.int x :: st) w K KX := by
  intro A ad0 R p e s m args below meth c Q C F ad ws H locs cells slots lc sc hW hL hS h1 h2
  obtain ⟨cv, sc, rfl, hv, hS⟩ := hS
  cases (show cv = _ from hv)
  exact lv_istore C.1 C.2.1 hd hL.all hn rfl (fun lc2 hl2 => hgo _ _ _ _ _ _ h A ad0 R p e s m args below meth c Q C F ad ws H locs cells slots lc2 _ hW (hL.st1 hs rfl hl2) hS h1 h2)
theorem q_fstore (hgo : ∀ bc bs pc ls st w, go bc bs pc ls st w → AW G M d bc bs pc ls st w K KX) (hs : ∀ j, (G.sad j).category = 1) {k : Nat} {x : UInt32} (hn : k < M.m.nL) (hd : decode M.m.cc pc = .ok (.fstore k, 2)) (h : go bc bs (pc + 2) (stL ls k (.float x)) st w) : AW G M d bc bs pc ls (.float x :: st) w K KX := by
  intro A ad0 R p e s m args below meth c Q C F ad ws H locs cells slots lc sc hW hL hS h1 h2
  obtain ⟨cv, sc, rfl, hv, hS⟩ := hS
  cases (show cv = _ from hv)
  exact lv_fstore C.1 C.2.1 hd hL.all hn rfl (fun lc2 hl2 => hgo _ _ _ _ _ _ h A ad0 R p e s m args below meth c Q C F ad ws H locs cells slots lc2 _ hW (hL.st1 hs rfl hl2) hS h1 h2)
theorem q_dstore (hgo : ∀ bc bs pc ls st w, go bc bs pc ls st w → AW G M d bc bs pc ls st w K KX) (hs : ∀ j, (G.sad j).category = 1) {k : Nat} {x : UInt64} (hn : k + 1 < M.m.nL) (hd : decode M.m.cc pc = .ok (.dstore k, 2)) (h : go bc bs (pc + 2) (st2 ls k (.double x)) st w) : AW G M d bc bs pc ls (.double x :: st) w K KX := by
  intro A ad0 R p e s m args below meth c Q C F ad ws H locs cells slots lc sc hW hL hS h1 h2
  obtain ⟨cv, sc, rfl, hv, hS⟩ := hS
  cases (show cv = _ from hv)
  exact lv_dstore C.1 C.2.1 hd hL.all hn rfl (fun lc2 hl2 => hgo _ _ _ _ _ _ h A ad0 R p e s m args below meth c Q C F ad ws H locs cells slots lc2 _ hW (hL.st2 hs rfl hl2) hS h1 h2)
theorem q_astore_n (hgo : ∀ bc bs pc ls st w, go bc bs pc ls st w → AW G M d bc bs pc ls st w K KX) (hs : ∀ j, (G.sad j).category = 1) (hsa : ∀ j, G.sad j = .null ∨ ∃ a, G.sad j = .ref a) {k : Fin 4} {v : Value} (hr : v = .null ∨ (∃ a, v = .ref a) ∨ ∃ a, v = .retAddr a) (hn : k < M.m.nL) (hd : decode M.m.cc pc = .ok (.astore_n k, 1)) (h : go bc bs (pc + 1) (stL ls k v) st w) : AW G M d bc bs pc ls (v :: st) w K KX := by
  intro A ad0 R p e s m args below meth c Q C F ad ws H locs cells slots lc sc hW hL hS h1 h2
  obtain ⟨cv, sc, rfl, hv, hS⟩ := hS
  have hc : cv = .null ∨ ∃ a, cv = .ref a := by
    rcases hr with rfl | ⟨a, rfl⟩ | ⟨a, rfl⟩
    · exact Or.inl hv
    · obtain ⟨b, -, h9⟩ := hv
      exact Or.inr ⟨b, h9⟩
    · rw [show cv = _ from hv]; exact hsa a
  rcases hc with rfl | ⟨a, rfl⟩
  · exact lv_astore_nN C.1 C.2.1 hd rfl hL.all hn rfl (fun lc2 hl2 => hgo _ _ _ _ _ _ h A ad0 R p e s m args below meth c Q C F ad ws H locs cells slots lc2 _ hW (hL.st1 hs hv hl2) hS h1 h2)
  · exact lv_astore_n C.1 C.2.1 hd rfl hL.all hn rfl (fun lc2 hl2 => hgo _ _ _ _ _ _ h A ad0 R p e s m args below meth c Q C F ad ws H locs cells slots lc2 _ hW (hL.st1 hs hv hl2) hS h1 h2)
theorem q_astore (hgo : ∀ bc bs pc ls st w, go bc bs pc ls st w → AW G M d bc bs pc ls st w K KX) (hs : ∀ j, (G.sad j).category = 1) (hsa : ∀ j, G.sad j = .null ∨ ∃ a, G.sad j = .ref a) {k : Nat} {v : Value} (hr : v = .null ∨ (∃ a, v = .ref a) ∨ ∃ a, v = .retAddr a) (hn : k < M.m.nL) (hd : decode M.m.cc pc = .ok (.astore k, 2)) (h : go bc bs (pc + 2) (stL ls k v) st w) : AW G M d bc bs pc ls (v :: st) w K KX := by
  intro A ad0 R p e s m args below meth c Q C F ad ws H locs cells slots lc sc hW hL hS h1 h2
  obtain ⟨cv, sc, rfl, hv, hS⟩ := hS
  have hc : cv = .null ∨ ∃ a, cv = .ref a := by
    rcases hr with rfl | ⟨a, rfl⟩ | ⟨a, rfl⟩
    · exact Or.inl hv
    · obtain ⟨b, -, h9⟩ := hv
      exact Or.inr ⟨b, h9⟩
    · rw [show cv = _ from hv]; exact hsa a
  rcases hc with rfl | ⟨a, rfl⟩
  · exact lv_astoreN C.1 C.2.1 hd hL.all hn rfl (fun lc2 hl2 => hgo _ _ _ _ _ _ h A ad0 R p e s m args below meth c Q C F ad ws H locs cells slots lc2 _ hW (hL.st1 hs hv hl2) hS h1 h2)
  · exact lv_astore C.1 C.2.1 hd hL.all hn rfl (fun lc2 hl2 => hgo _ _ _ _ _ _ h A ad0 R p e s m args below meth c Q C F ad ws H locs cells slots lc2 _ hW (hL.st1 hs hv hl2) hS h1 h2)
theorem q_iinc (hgo : ∀ bc bs pc ls st w, go bc bs pc ls st w → AW G M d bc bs pc ls st w K KX) (hs : ∀ j, (G.sad j).category = 1) {k : Nat} {n : Int} {x : Int32} (hn : k < M.m.nL) (hd : decode M.m.cc pc = .ok (.iinc k n, 3)) (hx : gtL ls k = some (.int x)) (h : go bc bs (pc + 3) (stL ls k (.int (x + Int32.ofInt n))) st w) : AW G M d bc bs pc ls st w K KX := by
  intro A ad0 R p e s m args below meth c Q C F ad ws H locs cells slots lc sc hW hL hS h1 h2
  obtain ⟨v, hv, hq⟩ := hL.at hx
  cases (show v = _ from hv)
  obtain ⟨j, hj⟩ := List.getElem?_of_mem (allL_in.mpr hq)
  exact lv_iinc C.1 C.2.1 hd hL.all hj rfl hn rfl (fun lc2 hl2 => hgo _ _ _ _ _ _ h A ad0 R p e s m args below meth c Q C F ad ws H locs cells slots lc2 _ hW (hL.st1 hs rfl hl2) hS h1 h2)
theorem q_iadd (hgo : ∀ bc bs pc ls st w, go bc bs pc ls st w → AW G M d bc bs pc ls st w K KX) {x y : Int32} (hd : decode M.m.cc pc = .ok (.iadd, 1)) (h : go bc bs (pc + 1) ls (.int (x + y) :: st) w) : AW G M d bc bs pc ls (.int y :: .int x :: st) w K KX := by
  intro A ad0 R p e s m args below meth c Q C F ad ws H locs cells slots lc sc hW hL hS h1 h2
  obtain ⟨cy, sc, rfl, hy, cx, sc, rfl, hx, hS⟩ := hS
  cases (show cy = _ from hy); cases (show cx = _ from hx)
  exact lv_iadd C.1 C.2.1 hd (hgo _ _ _ _ _ _ h A ad0 R p e s m args below meth c Q C F ad ws H locs cells slots lc _ hW hL (.cons rfl hS) h1 h2)
theorem q_isub (hgo : ∀ bc bs pc ls st w, go bc bs pc ls st w → AW G M d bc bs pc ls st w K KX) {x y : Int32} (hd : decode M.m.cc pc = .ok (.isub, 1)) (h : go bc bs (pc + 1) ls (.int (x - y) :: st) w) : AW G M d bc bs pc ls (.int y :: .int x :: st) w K KX := by
  intro A ad0 R p e s m args below meth c Q C F ad ws H locs cells slots lc sc hW hL hS h1 h2
  obtain ⟨cy, sc, rfl, hy, cx, sc, rfl, hx, hS⟩ := hS
  cases (show cy = _ from hy); cases (show cx = _ from hx)
  exact lv_isub C.1 C.2.1 hd (hgo _ _ _ _ _ _ h A ad0 R p e s m args below meth c Q C F ad ws H locs cells slots lc _ hW hL (.cons rfl hS) h1 h2)
theorem q_imul (hgo : ∀ bc bs pc ls st w, go bc bs pc ls st w → AW G M d bc bs pc ls st w K KX) {x y : Int32} (hd : decode M.m.cc pc = .ok (.imul, 1)) (h : go bc bs (pc + 1) ls (.int (x * y) :: st) w) : AW G M d bc bs pc ls (.int y :: .int x :: st) w K KX := by
  intro A ad0 R p e s m args below meth c Q C F ad ws H locs cells slots lc sc hW hL hS h1 h2
  obtain ⟨cy, sc, rfl, hy, cx, sc, rfl, hx, hS⟩ := hS
  cases (show cy = _ from hy); cases (show cx = _ from hx)
  exact lv_imul C.1 C.2.1 hd (hgo _ _ _ _ _ _ h A ad0 R p e s m args below meth c Q C F ad ws H locs cells slots lc _ hW hL (.cons rfl hS) h1 h2)
theorem q_iand (hgo : ∀ bc bs pc ls st w, go bc bs pc ls st w → AW G M d bc bs pc ls st w K KX) {x y : Int32} (hd : decode M.m.cc pc = .ok (.iand, 1)) (h : go bc bs (pc + 1) ls (.int (x &&& y) :: st) w) : AW G M d bc bs pc ls (.int y :: .int x :: st) w K KX := by
  intro A ad0 R p e s m args below meth c Q C F ad ws H locs cells slots lc sc hW hL hS h1 h2
  obtain ⟨cy, sc, rfl, hy, cx, sc, rfl, hx, hS⟩ := hS
  cases (show cy = _ from hy); cases (show cx = _ from hx)
  exact lv_iand C.1 C.2.1 hd (hgo _ _ _ _ _ _ h A ad0 R p e s m args below meth c Q C F ad ws H locs cells slots lc _ hW hL (.cons rfl hS) h1 h2)
theorem q_ior (hgo : ∀ bc bs pc ls st w, go bc bs pc ls st w → AW G M d bc bs pc ls st w K KX) {x y : Int32} (hd : decode M.m.cc pc = .ok (.ior, 1)) (h : go bc bs (pc + 1) ls (.int (x ||| y) :: st) w) : AW G M d bc bs pc ls (.int y :: .int x :: st) w K KX := by
  intro A ad0 R p e s m args below meth c Q C F ad ws H locs cells slots lc sc hW hL hS h1 h2
  obtain ⟨cy, sc, rfl, hy, cx, sc, rfl, hx, hS⟩ := hS
  cases (show cy = _ from hy); cases (show cx = _ from hx)
  exact lv_ior C.1 C.2.1 hd (hgo _ _ _ _ _ _ h A ad0 R p e s m args below meth c Q C F ad ws H locs cells slots lc _ hW hL (.cons rfl hS) h1 h2)
theorem q_ixor (hgo : ∀ bc bs pc ls st w, go bc bs pc ls st w → AW G M d bc bs pc ls st w K KX) {x y : Int32} (hd : decode M.m.cc pc = .ok (.ixor, 1)) (h : go bc bs (pc + 1) ls (.int (x ^^^ y) :: st) w) : AW G M d bc bs pc ls (.int y :: .int x :: st) w K KX := by
  intro A ad0 R p e s m args below meth c Q C F ad ws H locs cells slots lc sc hW hL hS h1 h2
  obtain ⟨cy, sc, rfl, hy, cx, sc, rfl, hx, hS⟩ := hS
  cases (show cy = _ from hy); cases (show cx = _ from hx)
  exact lv_ixor C.1 C.2.1 hd (hgo _ _ _ _ _ _ h A ad0 R p e s m args below meth c Q C F ad ws H locs cells slots lc _ hW hL (.cons rfl hS) h1 h2)
theorem q_ishl (hgo : ∀ bc bs pc ls st w, go bc bs pc ls st w → AW G M d bc bs pc ls st w K KX) {x y : Int32} (hd : decode M.m.cc pc = .ok (.ishl, 1)) (h : go bc bs (pc + 1) ls (.int (x <<< (y &&& 31)) :: st) w) : AW G M d bc bs pc ls (.int y :: .int x :: st) w K KX := by
  intro A ad0 R p e s m args below meth c Q C F ad ws H locs cells slots lc sc hW hL hS h1 h2
  obtain ⟨cy, sc, rfl, hy, cx, sc, rfl, hx, hS⟩ := hS
  cases (show cy = _ from hy); cases (show cx = _ from hx)
  exact lv_ishl C.1 C.2.1 hd (hgo _ _ _ _ _ _ h A ad0 R p e s m args below meth c Q C F ad ws H locs cells slots lc _ hW hL (.cons rfl hS) h1 h2)
theorem q_ishr (hgo : ∀ bc bs pc ls st w, go bc bs pc ls st w → AW G M d bc bs pc ls st w K KX) {x y : Int32} (hd : decode M.m.cc pc = .ok (.ishr, 1)) (h : go bc bs (pc + 1) ls (.int (x >>> (y &&& 31)) :: st) w) : AW G M d bc bs pc ls (.int y :: .int x :: st) w K KX := by
  intro A ad0 R p e s m args below meth c Q C F ad ws H locs cells slots lc sc hW hL hS h1 h2
  obtain ⟨cy, sc, rfl, hy, cx, sc, rfl, hx, hS⟩ := hS
  cases (show cy = _ from hy); cases (show cx = _ from hx)
  exact lv_ishr C.1 C.2.1 hd (hgo _ _ _ _ _ _ h A ad0 R p e s m args below meth c Q C F ad ws H locs cells slots lc _ hW hL (.cons rfl hS) h1 h2)
theorem q_idiv (hgo : ∀ bc bs pc ls st w, go bc bs pc ls st w → AW G M d bc bs pc ls st w K KX) {x y : Int32} (hn : ¬ y = 0) (hd : decode M.m.cc pc = .ok (.idiv, 1)) (h : go bc bs (pc + 1) ls (.int (x / y) :: st) w) : AW G M d bc bs pc ls (.int y :: .int x :: st) w K KX := by
  intro A ad0 R p e s m args below meth c Q C F ad ws H locs cells slots lc sc hW hL hS h1 h2
  obtain ⟨cy, sc, rfl, hy, cx, sc, rfl, hx, hS⟩ := hS
  cases (show cy = _ from hy); cases (show cx = _ from hx)
  exact lv_idiv C.1 C.2.1 hd hn (hgo _ _ _ _ _ _ h A ad0 R p e s m args below meth c Q C F ad ws H locs cells slots lc _ hW hL (.cons rfl hS) h1 h2)
theorem q_irem (hgo : ∀ bc bs pc ls st w, go bc bs pc ls st w → AW G M d bc bs pc ls st w K KX) {x y : Int32} (hn : ¬ y = 0) (hd : decode M.m.cc pc = .ok (.irem, 1)) (h : go bc bs (pc + 1) ls (.int (x - x / y * y) :: st) w) : AW G M d bc bs pc ls (.int y :: .int x :: st) w K KX := by
  intro A ad0 R p e s m args below meth c Q C F ad ws H locs cells slots lc sc hW hL hS h1 h2
  obtain ⟨cy, sc, rfl, hy, cx, sc, rfl, hx, hS⟩ := hS
  cases (show cy = _ from hy); cases (show cx = _ from hx)
  exact lv_irem C.1 C.2.1 hd hn (hgo _ _ _ _ _ _ h A ad0 R p e s m args below meth c Q C F ad ws H locs cells slots lc _ hW hL (.cons rfl hS) h1 h2)
theorem q_ddiv (hgo : ∀ bc bs pc ls st w, go bc bs pc ls st w → AW G M d bc bs pc ls st w K KX) {x y : UInt64} (hn : vf_n64 (FP.ddiv x y)) (hd : decode M.m.cc pc = .ok (.ddiv, 1)) (h : go bc bs (pc + 1) ls (.double (FP.ddiv x y) :: st) w) : AW G M d bc bs pc ls (.double y :: .double x :: st) w K KX := by
  intro A ad0 R p e s m args below meth c Q C F ad ws H locs cells slots lc sc hW hL hS h1 h2
  obtain ⟨cy, sc, rfl, hy, cx, sc, rfl, hx, hS⟩ := hS
  cases (show cy = _ from hy); cases (show cx = _ from hx)
  exact lv_ddiv C.1 C.2.1 hd hn (hgo _ _ _ _ _ _ h A ad0 R p e s m args below meth c Q C F ad ws H locs cells slots lc _ hW hL (.cons rfl hS) h1 h2)
theorem q_fdiv (hgo : ∀ bc bs pc ls st w, go bc bs pc ls st w → AW G M d bc bs pc ls st w K KX) {x y : UInt32} (hn : vf_n32 (FP.fdiv x y)) (hd : decode M.m.cc pc = .ok (.fdiv, 1)) (h : go bc bs (pc + 1) ls (.float (FP.fdiv x y) :: st) w) : AW G M d bc bs pc ls (.float y :: .float x :: st) w K KX := by
  intro A ad0 R p e s m args below meth c Q C F ad ws H locs cells slots lc sc hW hL hS h1 h2
  obtain ⟨cy, sc, rfl, hy, cx, sc, rfl, hx, hS⟩ := hS
  cases (show cy = _ from hy); cases (show cx = _ from hx)
  exact lv_fdiv C.1 C.2.1 hd hn (hgo _ _ _ _ _ _ h A ad0 R p e s m args below meth c Q C F ad ws H locs cells slots lc _ hW hL (.cons rfl hS) h1 h2)
theorem q_lcmp (hgo : ∀ bc bs pc ls st w, go bc bs pc ls st w → AW G M d bc bs pc ls st w K KX) {x y : Int64} (hd : decode M.m.cc pc = .ok (.lcmp, 1)) (h : go bc bs (pc + 1) ls (.int (lg_cmp x y) :: st) w) : AW G M d bc bs pc ls (.long y :: .long x :: st) w K KX := by
  intro A ad0 R p e s m args below meth c Q C F ad ws H locs cells slots lc sc hW hL hS h1 h2
  obtain ⟨cy, sc, rfl, hy, cx, sc, rfl, hx, hS⟩ := hS
  cases (show cy = _ from hy); cases (show cx = _ from hx)
  exact W.lcmp C.1 C.2.1 hd (hgo _ _ _ _ _ _ h A ad0 R p e s m args below meth c Q C F ad ws H locs cells slots lc _ hW hL (.cons rfl hS) h1 h2)
theorem q_dcmp (hgo : ∀ bc bs pc ls st w, go bc bs pc ls st w → AW G M d bc bs pc ls st w K KX) {op : CmpOp} {x y : UInt64} (hd : decode M.m.cc pc = .ok (.dcmp op, 1)) (h : go bc bs (pc + 1) ls (.int (Op.cmpValue (FP.dcmp x y) op) :: st) w) : AW G M d bc bs pc ls (.double y :: .double x :: st) w K KX := by
  intro A ad0 R p e s m args below meth c Q C F ad ws H locs cells slots lc sc hW hL hS h1 h2
  obtain ⟨cy, sc, rfl, hy, cx, sc, rfl, hx, hS⟩ := hS
  cases (show cy = _ from hy); cases (show cx = _ from hx)
  exact lv_dcmp C.1 C.2.1 hd (hgo _ _ _ _ _ _ h A ad0 R p e s m args below meth c Q C F ad ws H locs cells slots lc _ hW hL (.cons rfl hS) h1 h2)
theorem q_fcmp (hgo : ∀ bc bs pc ls st w, go bc bs pc ls st w → AW G M d bc bs pc ls st w K KX) {op : CmpOp} {x y : UInt32} (hd : decode M.m.cc pc = .ok (.fcmp op, 1)) (h : go bc bs (pc + 1) ls (.int (Op.cmpValue (FP.fcmp x y) op) :: st) w) : AW G M d bc bs pc ls (.float y :: .float x :: st) w K KX := by
  intro A ad0 R p e s m args below meth c Q C F ad ws H locs cells slots lc sc hW hL hS h1 h2
  obtain ⟨cy, sc, rfl, hy, cx, sc, rfl, hx, hS⟩ := hS
  cases (show cy = _ from hy); cases (show cx = _ from hx)
  exact lv_fcmp C.1 C.2.1 hd (hgo _ _ _ _ _ _ h A ad0 R p e s m args below meth c Q C F ad ws H locs cells slots lc _ hW hL (.cons rfl hS) h1 h2)
theorem q_ineg (hgo : ∀ bc bs pc ls st w, go bc bs pc ls st w → AW G M d bc bs pc ls st w K KX) {x : Int32} (hd : decode M.m.cc pc = .ok (.ineg, 1)) (h : go bc bs (pc + 1) ls (.int (-x) :: st) w) : AW G M d bc bs pc ls (.int x :: st) w K KX := by
  intro A ad0 R p e s m args below meth c Q C F ad ws H locs cells slots lc sc hW hL hS h1 h2
  obtain ⟨cx, sc, rfl, hx, hS⟩ := hS
  cases (show cx = _ from hx)
  exact lv_ineg C.1 C.2.1 hd (hgo _ _ _ _ _ _ h A ad0 R p e s m args below meth c Q C F ad ws H locs cells slots lc _ hW hL (.cons rfl hS) h1 h2)
theorem q_i2l (hgo : ∀ bc bs pc ls st w, go bc bs pc ls st w → AW G M d bc bs pc ls st w K KX) {x : Int32} (hd : decode M.m.cc pc = .ok (.i2l, 1)) (h : go bc bs (pc + 1) ls (.long x.toInt64 :: st) w) : AW G M d bc bs pc ls (.int x :: st) w K KX := by
  intro A ad0 R p e s m args below meth c Q C F ad ws H locs cells slots lc sc hW hL hS h1 h2
  obtain ⟨cx, sc, rfl, hx, hS⟩ := hS
  cases (show cx = _ from hx)
  exact lv_i2l C.1 C.2.1 hd rfl (hgo _ _ _ _ _ _ h A ad0 R p e s m args below meth c Q C F ad ws H locs cells slots lc _ hW hL (.cons rfl hS) h1 h2)
theorem q_i2b (hgo : ∀ bc bs pc ls st w, go bc bs pc ls st w → AW G M d bc bs pc ls st w K KX) {x : Int32} (hd : decode M.m.cc pc = .ok (.i2b, 1)) (h : go bc bs (pc + 1) ls (.int x.toInt8.toInt32 :: st) w) : AW G M d bc bs pc ls (.int x :: st) w K KX := by
  intro A ad0 R p e s m args below meth c Q C F ad ws H locs cells slots lc sc hW hL hS h1 h2
  obtain ⟨cx, sc, rfl, hx, hS⟩ := hS
  cases (show cx = _ from hx)
  exact lv_i2b C.1 C.2.1 hd rfl (hgo _ _ _ _ _ _ h A ad0 R p e s m args below meth c Q C F ad ws H locs cells slots lc _ hW hL (.cons rfl hS) h1 h2)
theorem q_i2c (hgo : ∀ bc bs pc ls st w, go bc bs pc ls st w → AW G M d bc bs pc ls st w K KX) {x : Int32} (hd : decode M.m.cc pc = .ok (.i2c, 1)) (h : go bc bs (pc + 1) ls (.int (x.toUInt32 % 65536).toInt32 :: st) w) : AW G M d bc bs pc ls (.int x :: st) w K KX := by
  intro A ad0 R p e s m args below meth c Q C F ad ws H locs cells slots lc sc hW hL hS h1 h2
  obtain ⟨cx, sc, rfl, hx, hS⟩ := hS
  cases (show cx = _ from hx)
  exact lv_i2c C.1 C.2.1 hd rfl (hgo _ _ _ _ _ _ h A ad0 R p e s m args below meth c Q C F ad ws H locs cells slots lc _ hW hL (.cons rfl hS) h1 h2)
theorem q_i2d (hgo : ∀ bc bs pc ls st w, go bc bs pc ls st w → AW G M d bc bs pc ls st w K KX) {x : Int32} (hd : decode M.m.cc pc = .ok (.i2d, 1)) (h : go bc bs (pc + 1) ls (.double (FP.i2d x) :: st) w) : AW G M d bc bs pc ls (.int x :: st) w K KX := by
  intro A ad0 R p e s m args below meth c Q C F ad ws H locs cells slots lc sc hW hL hS h1 h2
  obtain ⟨cx, sc, rfl, hx, hS⟩ := hS
  cases (show cx = _ from hx)
  exact lv_i2d C.1 C.2.1 hd (hgo _ _ _ _ _ _ h A ad0 R p e s m args below meth c Q C F ad ws H locs cells slots lc _ hW hL (.cons rfl hS) h1 h2)
theorem q_i2f (hgo : ∀ bc bs pc ls st w, go bc bs pc ls st w → AW G M d bc bs pc ls st w K KX) {x : Int32} (hd : decode M.m.cc pc = .ok (.i2f, 1)) (h : go bc bs (pc + 1) ls (.float (FP.i2f x) :: st) w) : AW G M d bc bs pc ls (.int x :: st) w K KX := by
  intro A ad0 R p e s m args below meth c Q C F ad ws H locs cells slots lc sc hW hL hS h1 h2
  obtain ⟨cx, sc, rfl, hx, hS⟩ := hS
  cases (show cx = _ from hx)
  exact lv_i2f C.1 C.2.1 hd (hgo _ _ _ _ _ _ h A ad0 R p e s m args below meth c Q C F ad ws H locs cells slots lc _ hW hL (.cons rfl hS) h1 h2)
theorem q_f2d (hgo : ∀ bc bs pc ls st w, go bc bs pc ls st w → AW G M d bc bs pc ls st w K KX) {x : UInt32} (hn : vf_n64 (FP.f2d x)) (hd : decode M.m.cc pc = .ok (.f2d, 1)) (h : go bc bs (pc + 1) ls (.double (FP.f2d x) :: st) w) : AW G M d bc bs pc ls (.float x :: st) w K KX := by
  intro A ad0 R p e s m args below meth c Q C F ad ws H locs cells slots lc sc hW hL hS h1 h2
  obtain ⟨cx, sc, rfl, hx, hS⟩ := hS
  cases (show cx = _ from hx)
  exact lv_f2d C.1 C.2.1 hd hn (hgo _ _ _ _ _ _ h A ad0 R p e s m args below meth c Q C F ad ws H locs cells slots lc _ hW hL (.cons rfl hS) h1 h2)
theorem q_dup (hgo : ∀ bc bs pc ls st w, go bc bs pc ls st w → AW G M d bc bs pc ls st w K KX) (hs : ∀ j, (G.sad j).category = 1) {v : Value} (hc : v.category = 1) (hd : decode M.m.cc pc = .ok (.dup, 1)) (h : go bc bs (pc + 1) ls (v :: v :: st) w) : AW G M d bc bs pc ls (v :: st) w K KX := by
  intro A ad0 R p e s m args below meth c Q C F ad ws H locs cells slots lc sc hW hL hS h1 h2
  obtain ⟨cx, sc, rfl, hx, hS⟩ := hS
  exact lv_dup C.1 C.2.1 hd ((hx.cat hs).trans hc) (hgo _ _ _ _ _ _ h A ad0 R p e s m args below meth c Q C F ad ws H locs cells slots lc _ hW hL (.cons hx (.cons hx hS)) h1 h2)
theorem q_pop (hgo : ∀ bc bs pc ls st w, go bc bs pc ls st w → AW G M d bc bs pc ls st w K KX) (hs : ∀ j, (G.sad j).category = 1) {v : Value} (hc : v.category = 1) (hd : decode M.m.cc pc = .ok (.pop, 1)) (h : go bc bs (pc + 1) ls st w) : AW G M d bc bs pc ls (v :: st) w K KX := by
  intro A ad0 R p e s m args below meth c Q C F ad ws H locs cells slots lc sc hW hL hS h1 h2
  obtain ⟨cx, sc, rfl, hx, hS⟩ := hS
  exact lv_pop C.1 C.2.1 hd ((hx.cat hs).trans hc) (hgo _ _ _ _ _ _ h A ad0 R p e s m args below meth c Q C F ad ws H locs cells slots lc _ hW hL hS h1 h2)
theorem q_dup2 (hgo : ∀ bc bs pc ls st w, go bc bs pc ls st w → AW G M d bc bs pc ls st w K KX) (hs : ∀ j, (G.sad j).category = 1) {v u : Value} (hc : v.category = 1) (hc2 : u.category = 1) (hd : decode M.m.cc pc = .ok (.dup2, 1)) (h : go bc bs (pc + 1) ls (v :: u :: v :: u :: st) w) : AW G M d bc bs pc ls (v :: u :: st) w K KX := by
  intro A ad0 R p e s m args below meth c Q C F ad ws H locs cells slots lc sc hW hL hS h1 h2
  obtain ⟨cx, sc, rfl, hx, cy, sc, rfl, hy, hS⟩ := hS
  exact lv_dup2_11 C.1 C.2.1 hd ((hx.cat hs).trans hc) ((hy.cat hs).trans hc2) (hgo _ _ _ _ _ _ h A ad0 R p e s m args below meth c Q C F ad ws H locs cells slots lc _ hW hL (.cons hx (.cons hy (.cons hx (.cons hy hS)))) h1 h2)
theorem q_dup_x1 (hgo : ∀ bc bs pc ls st w, go bc bs pc ls st w → AW G M d bc bs pc ls st w K KX) (hs : ∀ j, (G.sad j).category = 1) {v u : Value} (hc : v.category = 1) (hc2 : u.category = 1) (hd : decode M.m.cc pc = .ok (.dup_x1, 1)) (h : go bc bs (pc + 1) ls (v :: u :: v :: st) w) : AW G M d bc bs pc ls (v :: u :: st) w K KX := by
  intro A ad0 R p e s m args below meth c Q C F ad ws H locs cells slots lc sc hW hL hS h1 h2
  obtain ⟨cx, sc, rfl, hx, cy, sc, rfl, hy, hS⟩ := hS
  exact lv_dup_x1 C.1 C.2.1 hd ((hx.cat hs).trans hc) ((hy.cat hs).trans hc2) (hgo _ _ _ _ _ _ h A ad0 R p e s m args below meth c Q C F ad ws H locs cells slots lc _ hW hL (.cons hx (.cons hy (.cons hx hS))) h1 h2)
theorem q_goto (hgo : ∀ bc bs pc ls st w, go bc bs pc ls st w → AW G M d bc bs pc ls st w K KX) {off : Int} {tg : Nat} (ht : (pc : Int) + off = (tg : Int)) (hd : decode M.m.cc pc = .ok (.goto off, 3)) (h : go bc bs tg ls st w) : AW G M d bc bs pc ls st w K KX := by
  intro A ad0 R p e s m args below meth c Q C F ad ws H locs cells slots lc sc hW hL hS h1 h2
  exact lv_goto C.1 C.2.1 hd ht (hgo _ _ _ _ _ _ h A ad0 R p e s m args below meth c Q C F ad ws H locs cells slots lc _ hW hL hS h1 h2)
theorem q_if_eq (hgo : ∀ bc bs pc ls st w, go bc bs pc ls st w → AW G M d bc bs pc ls st w K KX) {off : Int} {tg : Nat} {x : Int32} (ht : (pc : Int) + off = (tg : Int)) (hd : decode M.m.cc pc = .ok (.ifCond .eq off, 3)) (h : (cI .eq x 0 → go bc bs tg ls st w) ∧ (cN .eq x 0 → go bc bs (pc + 3) ls st w)) : AW G M d bc bs pc ls (.int x :: st) w K KX := by
  intro A ad0 R p e s m args below meth c Q C F ad ws H locs cells slots lc sc hW hL hS h1 h2
  obtain ⟨cx, sc, rfl, hx, hS⟩ := hS
  cases (show cx = _ from hx)
  exact lv_if_eq C.1 C.2.1 hd ht (fun q => hgo _ _ _ _ _ _ (h.1 q) A ad0 R p e s m args below meth c Q C F ad ws H locs cells slots lc _ hW hL hS h1 h2) (fun q => hgo _ _ _ _ _ _ (h.2 q) A ad0 R p e s m args below meth c Q C F ad ws H locs cells slots lc _ hW hL hS h1 h2)
theorem q_ic_eq (hgo : ∀ bc bs pc ls st w, go bc bs pc ls st w → AW G M d bc bs pc ls st w K KX) {off : Int} {tg : Nat} {x y : Int32} (ht : (pc : Int) + off = (tg : Int)) (hd : decode M.m.cc pc = .ok (.if_icmp .eq off, 3)) (h : (cI .eq x y → go bc bs tg ls st w) ∧ (cN .eq x y → go bc bs (pc + 3) ls st w)) : AW G M d bc bs pc ls (.int y :: .int x :: st) w K KX := by
  intro A ad0 R p e s m args below meth c Q C F ad ws H locs cells slots lc sc hW hL hS h1 h2
  obtain ⟨cy, sc, rfl, hy, cx, sc, rfl, hx, hS⟩ := hS
  cases (show cy = _ from hy); cases (show cx = _ from hx)
  exact lv_icmp_eq C.1 C.2.1 hd ht (fun q => hgo _ _ _ _ _ _ (h.1 q) A ad0 R p e s m args below meth c Q C F ad ws H locs cells slots lc _ hW hL hS h1 h2) (fun q => hgo _ _ _ _ _ _ (h.2 q) A ad0 R p e s m args below meth c Q C F ad ws H locs cells slots lc _ hW hL hS h1 h2)
theorem q_if_ne (hgo : ∀ bc bs pc ls st w, go bc bs pc ls st w → AW G M d bc bs pc ls st w K KX) {off : Int} {tg : Nat} {x : Int32} (ht : (pc : Int) + off = (tg : Int)) (hd : decode M.m.cc pc = .ok (.ifCond .ne off, 3)) (h : (cI .ne x 0 → go bc bs tg ls st w) ∧ (cN .ne x 0 → go bc bs (pc + 3) ls st w)) : AW G M d bc bs pc ls (.int x :: st) w K KX := by
  intro A ad0 R p e s m args below meth c Q C F ad ws H locs cells slots lc sc hW hL hS h1 h2
  obtain ⟨cx, sc, rfl, hx, hS⟩ := hS
  cases (show cx = _ from hx)
  exact lv_if_ne C.1 C.2.1 hd ht (fun q => hgo _ _ _ _ _ _ (h.1 q) A ad0 R p e s m args below meth c Q C F ad ws H locs cells slots lc _ hW hL hS h1 h2) (fun q => hgo _ _ _ _ _ _ (h.2 q) A ad0 R p e s m args below meth c Q C F ad ws H locs cells slots lc _ hW hL hS h1 h2)
theorem q_ic_ne (hgo : ∀ bc bs pc ls st w, go bc bs pc ls st w → AW G M d bc bs pc ls st w K KX) {off : Int} {tg : Nat} {x y : Int32} (ht : (pc : Int) + off = (tg : Int)) (hd : decode M.m.cc pc = .ok (.if_icmp .ne off, 3)) (h : (cI .ne x y → go bc bs tg ls st w) ∧ (cN .ne x y → go bc bs (pc + 3) ls st w)) : AW G M d bc bs pc ls (.int y :: .int x :: st) w K KX := by
  intro A ad0 R p e s m args below meth c Q C F ad ws H locs cells slots lc sc hW hL hS h1 h2
  obtain ⟨cy, sc, rfl, hy, cx, sc, rfl, hx, hS⟩ := hS
  cases (show cy = _ from hy); cases (show cx = _ from hx)
  exact lv_icmp_ne C.1 C.2.1 hd ht (fun q => hgo _ _ _ _ _ _ (h.1 q) A ad0 R p e s m args below meth c Q C F ad ws H locs cells slots lc _ hW hL hS h1 h2) (fun q => hgo _ _ _ _ _ _ (h.2 q) A ad0 R p e s m args below meth c Q C F ad ws H locs cells slots lc _ hW hL hS h1 h2)
theorem q_if_lt (hgo : ∀ bc bs pc ls st w, go bc bs pc ls st w → AW G M d bc bs pc ls st w K KX) {off : Int} {tg : Nat} {x : Int32} (ht : (pc : Int) + off = (tg : Int)) (hd : decode M.m.cc pc = .ok (.ifCond .lt off, 3)) (h : (cI .lt x 0 → go bc bs tg ls st w) ∧ (cN .lt x 0 → go bc bs (pc + 3) ls st w)) : AW G M d bc bs pc ls (.int x :: st) w K KX := by
  intro A ad0 R p e s m args below meth c Q C F ad ws H locs cells slots lc sc hW hL hS h1 h2
  obtain ⟨cx, sc, rfl, hx, hS⟩ := hS
  cases (show cx = _ from hx)
  exact lv_if_lt C.1 C.2.1 hd ht (fun q => hgo _ _ _ _ _ _ (h.1 q) A ad0 R p e s m args below meth c Q C F ad ws H locs cells slots lc _ hW hL hS h1 h2) (fun q => hgo _ _ _ _ _ _ (h.2 q) A ad0 R p e s m args below meth c Q C F ad ws H locs cells slots lc _ hW hL hS h1 h2)
theorem q_ic_lt (hgo : ∀ bc bs pc ls st w, go bc bs pc ls st w → AW G M d bc bs pc ls st w K KX) {off : Int} {tg : Nat} {x y : Int32} (ht : (pc : Int) + off = (tg : Int)) (hd : decode M.m.cc pc = .ok (.if_icmp .lt off, 3)) (h : (cI .lt x y → go bc bs tg ls st w) ∧ (cN .lt x y → go bc bs (pc + 3) ls st w)) : AW G M d bc bs pc ls (.int y :: .int x :: st) w K KX := by
  intro A ad0 R p e s m args below meth c Q C F ad ws H locs cells slots lc sc hW hL hS h1 h2
  obtain ⟨cy, sc, rfl, hy, cx, sc, rfl, hx, hS⟩ := hS
  cases (show cy = _ from hy); cases (show cx = _ from hx)
  exact lv_icmp_lt C.1 C.2.1 hd ht (fun q => hgo _ _ _ _ _ _ (h.1 q) A ad0 R p e s m args below meth c Q C F ad ws H locs cells slots lc _ hW hL hS h1 h2) (fun q => hgo _ _ _ _ _ _ (h.2 q) A ad0 R p e s m args below meth c Q C F ad ws H locs cells slots lc _ hW hL hS h1 h2)
theorem q_if_ge (hgo : ∀ bc bs pc ls st w, go bc bs pc ls st w → AW G M d bc bs pc ls st w K KX) {off : Int} {tg : Nat} {x : Int32} (ht : (pc : Int) + off = (tg : Int)) (hd : decode M.m.cc pc = .ok (.ifCond .ge off, 3)) (h : (cI .ge x 0 → go bc bs tg ls st w) ∧ (cN .ge x 0 → go bc bs (pc + 3) ls st w)) : AW G M d bc bs pc ls (.int x :: st) w K KX := by
  intro A ad0 R p e s m args below meth c Q C F ad ws H locs cells slots lc sc hW hL hS h1 h2
  obtain ⟨cx, sc, rfl, hx, hS⟩ := hS
  cases (show cx = _ from hx)
  exact lv_if_ge C.1 C.2.1 hd ht (fun q => hgo _ _ _ _ _ _ (h.1 q) A ad0 R p e s m args below meth c Q C F ad ws H locs cells slots lc _ hW hL hS h1 h2) (fun q => hgo _ _ _ _ _ _ (h.2 q) A ad0 R p e s m args below meth c Q C F ad ws H locs cells slots lc _ hW hL hS h1 h2)
theorem q_ic_ge (hgo : ∀ bc bs pc ls st w, go bc bs pc ls st w → AW G M d bc bs pc ls st w K KX) {off : Int} {tg : Nat} {x y : Int32} (ht : (pc : Int) + off = (tg : Int)) (hd : decode M.m.cc pc = .ok (.if_icmp .ge off, 3)) (h : (cI .ge x y → go bc bs tg ls st w) ∧ (cN .ge x y → go bc bs (pc + 3) ls st w)) : AW G M d bc bs pc ls (.int y :: .int x :: st) w K KX := by
  intro A ad0 R p e s m args below meth c Q C F ad ws H locs cells slots lc sc hW hL hS h1 h2
  obtain ⟨cy, sc, rfl, hy, cx, sc, rfl, hx, hS⟩ := hS
  cases (show cy = _ from hy); cases (show cx = _ from hx)
  exact lv_icmp_ge C.1 C.2.1 hd ht (fun q => hgo _ _ _ _ _ _ (h.1 q) A ad0 R p e s m args below meth c Q C F ad ws H locs cells slots lc _ hW hL hS h1 h2) (fun q => hgo _ _ _ _ _ _ (h.2 q) A ad0 R p e s m args below meth c Q C F ad ws H locs cells slots lc _ hW hL hS h1 h2)
theorem q_if_gt (hgo : ∀ bc bs pc ls st w, go bc bs pc ls st w → AW G M d bc bs pc ls st w K KX) {off : Int} {tg : Nat} {x : Int32} (ht : (pc : Int) + off = (tg : Int)) (hd : decode M.m.cc pc = .ok (.ifCond .gt off, 3)) (h : (cI .gt x 0 → go bc bs tg ls st w) ∧ (cN .gt x 0 → go bc bs (pc + 3) ls st w)) : AW G M d bc bs pc ls (.int x :: st) w K KX := by
  intro A ad0 R p e s m args below meth c Q C F ad ws H locs cells slots lc sc hW hL hS h1 h2
  obtain ⟨cx, sc, rfl, hx, hS⟩ := hS
  cases (show cx = _ from hx)
  exact lv_if_gt C.1 C.2.1 hd ht (fun q => hgo _ _ _ _ _ _ (h.1 q) A ad0 R p e s m args below meth c Q C F ad ws H locs cells slots lc _ hW hL hS h1 h2) (fun q => hgo _ _ _ _ _ _ (h.2 q) A ad0 R p e s m args below meth c Q C F ad ws H locs cells slots lc _ hW hL hS h1 h2)
theorem q_ic_gt (hgo : ∀ bc bs pc ls st w, go bc bs pc ls st w → AW G M d bc bs pc ls st w K KX) {off : Int} {tg : Nat} {x y : Int32} (ht : (pc : Int) + off = (tg : Int)) (hd : decode M.m.cc pc = .ok (.if_icmp .gt off, 3)) (h : (cI .gt x y → go bc bs tg ls st w) ∧ (cN .gt x y → go bc bs (pc + 3) ls st w)) : AW G M d bc bs pc ls (.int y :: .int x :: st) w K KX := by
  intro A ad0 R p e s m args below meth c Q C F ad ws H locs cells slots lc sc hW hL hS h1 h2
  obtain ⟨cy, sc, rfl, hy, cx, sc, rfl, hx, hS⟩ := hS
  cases (show cy = _ from hy); cases (show cx = _ from hx)
  exact lv_icmp_gt C.1 C.2.1 hd ht (fun q => hgo _ _ _ _ _ _ (h.1 q) A ad0 R p e s m args below meth c Q C F ad ws H locs cells slots lc _ hW hL hS h1 h2) (fun q => hgo _ _ _ _ _ _ (h.2 q) A ad0 R p e s m args below meth c Q C F ad ws H locs cells slots lc _ hW hL hS h1 h2)
theorem q_if_le (hgo : ∀ bc bs pc ls st w, go bc bs pc ls st w → AW G M d bc bs pc ls st w K KX) {off : Int} {tg : Nat} {x : Int32} (ht : (pc : Int) + off = (tg : Int)) (hd : decode M.m.cc pc = .ok (.ifCond .le off, 3)) (h : (cI .le x 0 → go bc bs tg ls st w) ∧ (cN .le x 0 → go bc bs (pc + 3) ls st w)) : AW G M d bc bs pc ls (.int x :: st) w K KX := by
  intro A ad0 R p e s m args below meth c Q C F ad ws H locs cells slots lc sc hW hL hS h1 h2
  obtain ⟨cx, sc, rfl, hx, hS⟩ := hS
  cases (show cx = _ from hx)
  exact lv_if_le C.1 C.2.1 hd ht (fun q => hgo _ _ _ _ _ _ (h.1 q) A ad0 R p e s m args below meth c Q C F ad ws H locs cells slots lc _ hW hL hS h1 h2) (fun q => hgo _ _ _ _ _ _ (h.2 q) A ad0 R p e s m args below meth c Q C F ad ws H locs cells slots lc _ hW hL hS h1 h2)
theorem q_ic_le (hgo : ∀ bc bs pc ls st w, go bc bs pc ls st w → AW G M d bc bs pc ls st w K KX) {off : Int} {tg : Nat} {x y : Int32} (ht : (pc : Int) + off = (tg : Int)) (hd : decode M.m.cc pc = .ok (.if_icmp .le off, 3)) (h : (cI .le x y → go bc bs tg ls st w) ∧ (cN .le x y → go bc bs (pc + 3) ls st w)) : AW G M d bc bs pc ls (.int y :: .int x :: st) w K KX := by
  intro A ad0 R p e s m args below meth c Q C F ad ws H locs cells slots lc sc hW hL hS h1 h2
  obtain ⟨cy, sc, rfl, hy, cx, sc, rfl, hx, hS⟩ := hS
  cases (show cy = _ from hy); cases (show cx = _ from hx)
  exact lv_icmp_le C.1 C.2.1 hd ht (fun q => hgo _ _ _ _ _ _ (h.1 q) A ad0 R p e s m args below meth c Q C F ad ws H locs cells slots lc _ hW hL hS h1 h2) (fun q => hgo _ _ _ _ _ _ (h.2 q) A ad0 R p e s m args below meth c Q C F ad ws H locs cells slots lc _ hW hL hS h1 h2)
theorem q_if (hgo : ∀ bc bs pc ls st w, go bc bs pc ls st w → AW G M d bc bs pc ls st w K KX) {cd : ClassFile.Cond} {off : Int} {tg : Nat} {x : Int32} (ht : (pc : Int) + off = (tg : Int)) (hd : decode M.m.cc pc = .ok (.ifCond cd off, 3)) (h : (cI cd x 0 → go bc bs tg ls st w) ∧ (cN cd x 0 → go bc bs (pc + 3) ls st w)) : AW G M d bc bs pc ls (.int x :: st) w K KX := by
  cases cd
  all_goals first | exact q_if_eq hgo ht hd h | exact q_if_ne hgo ht hd h | exact q_if_lt hgo ht hd h | exact q_if_ge hgo ht hd h | exact q_if_gt hgo ht hd h | exact q_if_le hgo ht hd h
theorem q_ic (hgo : ∀ bc bs pc ls st w, go bc bs pc ls st w → AW G M d bc bs pc ls st w K KX) {cd : ClassFile.Cond} {off : Int} {tg : Nat} {x y : Int32} (ht : (pc : Int) + off = (tg : Int)) (hd : decode M.m.cc pc = .ok (.if_icmp cd off, 3)) (h : (cI cd x y → go bc bs tg ls st w) ∧ (cN cd x y → go bc bs (pc + 3) ls st w)) : AW G M d bc bs pc ls (.int y :: .int x :: st) w K KX := by
  cases cd
  all_goals first | exact q_ic_eq hgo ht hd h | exact q_ic_ne hgo ht hd h | exact q_ic_lt hgo ht hd h | exact q_ic_ge hgo ht hd h | exact q_ic_gt hgo ht hd h | exact q_ic_le hgo ht hd h
theorem q_ifnonnull (hgo : ∀ bc bs pc ls st w, go bc bs pc ls st w → AW G M d bc bs pc ls st w K KX) {off : Int} {tg a : Nat} (ht : (pc : Int) + off = (tg : Int)) (hd : decode M.m.cc pc = .ok (.ifnonnull off, 3)) (h : go bc bs tg ls st w) : AW G M d bc bs pc ls (.ref a :: st) w K KX := by
  intro A ad0 R p e s m args below meth c Q C F ad ws H locs cells slots lc sc hW hL hS h1 h2
  obtain ⟨cx, sc, rfl, ⟨b, -, rfl⟩, hS⟩ := hS
  exact lv_ifnonnull C.1 C.2.1 hd ht (hgo _ _ _ _ _ _ h A ad0 R p e s m args below meth c Q C F ad ws H locs cells slots lc _ hW hL hS h1 h2)
theorem q_ifnonnullN (hgo : ∀ bc bs pc ls st w, go bc bs pc ls st w → AW G M d bc bs pc ls st w K KX) {off : Int} (hd : decode M.m.cc pc = .ok (.ifnonnull off, 3)) (h : go bc bs (pc + 3) ls st w) : AW G M d bc bs pc ls (.null :: st) w K KX := by
  intro A ad0 R p e s m args below meth c Q C F ad ws H locs cells slots lc sc hW hL hS h1 h2
  obtain ⟨cx, sc, rfl, hx, hS⟩ := hS
  cases (show cx = _ from hx)
  exact lv_ifnonnullN C.1 C.2.1 hd (hgo _ _ _ _ _ _ h A ad0 R p e s m args below meth c Q C F ad ws H locs cells slots lc _ hW hL hS h1 h2)
theorem q_ifnull (hgo : ∀ bc bs pc ls st w, go bc bs pc ls st w → AW G M d bc bs pc ls st w K KX) {off : Int} {a : Nat} (hd : decode M.m.cc pc = .ok (.ifnull off, 3)) (h : go bc bs (pc + 3) ls st w) : AW G M d bc bs pc ls (.ref a :: st) w K KX := by
  intro A ad0 R p e s m args below meth c Q C F ad ws H locs cells slots lc sc hW hL hS h1 h2
  obtain ⟨cx, sc, rfl, ⟨b, -, rfl⟩, hS⟩ := hS
  exact lv_ifnull C.1 C.2.1 hd (hgo _ _ _ _ _ _ h A ad0 R p e s m args below meth c Q C F ad ws H locs cells slots lc _ hW hL hS h1 h2)
theorem q_ifnullN (hgo : ∀ bc bs pc ls st w, go bc bs pc ls st w → AW G M d bc bs pc ls st w K KX) {off : Int} {tg : Nat} (ht : (pc : Int) + off = (tg : Int)) (hd : decode M.m.cc pc = .ok (.ifnull off, 3)) (h : go bc bs tg ls st w) : AW G M d bc bs pc ls (.null :: st) w K KX := by
  intro A ad0 R p e s m args below meth c Q C F ad ws H locs cells slots lc sc hW hL hS h1 h2
  obtain ⟨cx, sc, rfl, hx, hS⟩ := hS
  cases (show cx = _ from hx)
  exact lv_ifnullN C.1 C.2.1 hd ht (hgo _ _ _ _ _ _ h A ad0 R p e s m args below meth c Q C F ad ws H locs cells slots lc _ hW hL hS h1 h2)
theorem q_switch (hgo : ∀ bc bs pc ls st w, go bc bs pc ls st w → AW G M d bc bs pc ls st w K KX) {dfl lo hi : Int} {offs : Array Int} {len tg df : Nat} {ts : List Nat} {x : Int32} (hd : decode M.m.cc pc = .ok (.tableswitch dfl lo hi offs, len)) (hsw : hi = lo + ts.length - 1 ∧ (pc : Int) + dfl = (df : Int) ∧ ∀ (j t : Nat), ts[j]? = some t → ∃ o, offs[j]? = some o ∧ (pc : Int) + o = (t : Int)) (hx : swTo x lo ts df tg) (h : go bc bs tg ls st w) : AW G M d bc bs pc ls (.int x :: st) w K KX := by
  intro A ad0 R p e s m args below meth c Q C F ad ws H locs cells slots lc sc hW hL hS h1 h2
  obtain ⟨cx, sc, rfl, hx9, hS⟩ := hS
  cases (show cx = _ from hx9)
  have hk := hgo _ _ _ _ _ _ h A ad0 R p e s m args below meth c Q C F ad ws H locs cells slots lc _ hW hL hS h1 h2
  obtain ⟨e1, e2, e3⟩ := hsw
  rcases hx with ⟨j, hj, ht⟩ | ⟨hj, rfl⟩
  · obtain ⟨o, ho, hot⟩ := e3 j tg ht
    have hlt : j < ts.length := (List.getElem?_eq_some_iff.mp ht).1
    exact lv_tableIn C.1 C.2.1 hd (by omega) (by omega) (by rw [show (x.toInt - lo).toNat = j by omega]; exact ho) hot hk
  · exact lv_tableOut C.1 C.2.1 hd (by omega) e2 hk
end QQ
