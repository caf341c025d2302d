/-! ===== tables: how a method's lists give what its walk asks ===== -/
def lkp {α : Type} : List (Nat × α) → Nat → Option α
  | [], _ => none
  | (k, v) :: l, x => match Nat.beq k x with
    | true => some v
    | false => lkp l x
def lk2 {α : Type} : List (Nat × List (Nat × α)) → Nat → Option α
  | [], _ => none
  | (b, l) :: r, x => match Nat.blt x b with
    | true => lkp l x
    | false => lk2 r x
theorem lkp_mem {α : Type} : ∀ {l : List (Nat × α)} {x : Nat} {v : α}, lkp l x = some v → (x, v) ∈ l
  | [], x, v, h => by cases h
  | (k, u) :: l, x, v, h => by
    unfold lkp at h
    split at h
    · rename_i e
      have := Nat.eq_of_beq_eq_true e
      cases h
      rw [this]
      exact List.mem_cons_self
    · exact List.mem_cons_of_mem _ (lkp_mem h)
theorem lk2_mem {α : Type} : ∀ {l : List (Nat × List (Nat × α))} {x : Nat} {v : α}, lk2 l x = some v → ∃ c ∈ l, (x, v) ∈ c.2
  | [], x, v, h => by cases h
  | (k, u) :: l, x, v, h => by
    unfold lk2 at h
    split at h
    · exact ⟨_, List.mem_cons_self, lkp_mem h⟩
    · obtain ⟨c, h1, h2⟩ := lk2_mem h
      exact ⟨c, List.mem_cons_of_mem _ h1, h2⟩
abbrev cdT : Type := List (Nat × List (Nat × (Instr × Nat × Nat)))
abbrev swT : Type := List (Nat × (Int × List Nat × Nat))
/-- every instruction of a list passes a test -/
def allI (cs : cdT) (f : Nat → Instr → Nat → Nat → Bool) : Bool := cs.all (fun c => c.2.all (fun q => f q.1 q.2.1 q.2.2.1 q.2.2.2))
theorem allI_at {cs : cdT} {f : Nat → Instr → Nat → Nat → Bool} (h : allI cs f = true) {pc : Nat} {i : Instr} {np tg : Nat} (hc : lk2 cs pc = some (i, np, tg)) : f pc i np tg = true := by
  obtain ⟨c, h1, h2⟩ := lk2_mem hc
  exact List.all_eq_true.mp (List.all_eq_true.mp h c h1) _ h2
def swC (sw : swT) (pc : Nat) (i : Instr) : Bool := match i with
  | .tableswitch dfl lo hi offs => (match lkp sw pc with
    | some (lo2, ts, df) => decide (lo2 = lo) && (decide (hi = lo + ts.length - 1) && (decide ((pc : Int) + dfl = (df : Int)) && decide (offs.toList.map (fun o => (pc : Int) + o) = ts.map (fun t : Nat => (t : Int)))))
    | none => true)
  | _ => true
def chkI (cc : ByteArray) (sw : swT) (pc : Nat) (i : Instr) (np tg : Nat) : Bool :=
  (match decode cc pc with
    | .ok (j, n) => decide (j = i) && (isSw i || (decide (n = iLen i) && decide (np = pc + iLen i)))
    | _ => false) &&
  ((match brO i with
    | some o => decide ((pc : Int) + o = (tg : Int))
    | none => true) && swC sw pc i)
theorem codeOK_of {M : mT} {cs : cdT} {sw : swT} (h1 : M.cd = lk2 cs) (h2 : M.sw = lkp sw) (h : allI cs (chkI M.m.cc sw) = true) : codeOK M := by
  intro pc i np tg hc
  rw [h1] at hc
  have hq := allI_at h hc
  unfold chkI at hq
  simp only [Bool.and_eq_true] at hq
  obtain ⟨q1, q2, q3⟩ := hq
  refine ⟨?_, ?_, ?_⟩
  · split at q1
    · rename_i j n hd
      simp only [Bool.and_eq_true, decide_eq_true_eq, Bool.or_eq_true] at q1
      obtain ⟨rfl, q1⟩ := q1
      refine ⟨n, hd, fun hs => ?_⟩
      rcases q1 with q1 | q1
      · rw [hs] at q1; cases q1
      · exact q1
    · cases q1
  · intro o ho
    rw [ho] at q2
    exact of_decide_eq_true q2
  · unfold swI
    split
    · rename_i dfl lo hi offs
      intro lo2 ts df hsw
      rw [h2] at hsw
      unfold swC at q3
      dsimp only at q3
      rw [hsw] at q3
      simp only [Bool.and_eq_true, decide_eq_true_eq] at q3
      obtain ⟨e1, e2, e3, e4⟩ := q3
      refine ⟨e1, e2, e3, fun j t ht => ?_⟩
      have hm : (ts.map (fun t : Nat => (t : Int)))[j]? = some (t : Int) := by rw [List.getElem?_map, ht]; rfl
      rw [← e4, List.getElem?_map] at hm
      cases ho : offs.toList[j]? with
      | none => rw [ho] at hm; cases hm
      | some o =>
        rw [ho] at hm
        refine ⟨o, by rw [← Array.getElem?_toList]; exact ho, Option.some.inj hm⟩
    · trivial
/-- no exception is made here -/
def noX (cls : Nat → Option (Nat ⊕ Nat)) (_ : Nat) (i : Instr) (_ _ : Nat) : Bool := match i with
  | .new k => (match cls k with
    | some (.inr _) => false
    | _ => true)
  | _ => true
theorem thrOK_no {M : mT} {cs : cdT} (h1 : M.cd = lk2 cs) (h : allI cs (noX M.cp.cls) = true) : thrOK M := by
  intro pc x ⟨k, n, t, hc, hk⟩
  rw [h1] at hc
  have := allI_at h hc
  unfold noX at this
  dsimp only at this
  rw [hk] at this
  cases this
/-- the throws of a class: of the x-th exception, its constructor's entry; its texts -/
def thC (cc : ByteArray) (cls : Nat → Option (Nat ⊕ Nat)) (ic : Nat → Nat) (strs : List (Nat × String)) (pc : Nat) (i : Instr) (_ _ : Nat) : Bool := match i with
  | .new k => (match cls k with
    | some (.inr x) => decide (decode cc pc = .ok (.new k, 3)) && (decide (decode cc (pc + 3) = .ok (.dup, 1)) && (match decode cc (pc + 4) with
      | .ok (.ldc iS, 2) => (lkp strs iS).isSome && (decide (decode cc (pc + 6) = .ok (.invokespecial (ic x), 3)) && decide (decode cc (pc + 9) = .ok (.athrow, 1)))
      | .ok (.ldc_w iS, 3) => (lkp strs iS).isSome && (decide (decode cc (pc + 7) = .ok (.invokespecial (ic x), 3)) && decide (decode cc (pc + 10) = .ok (.athrow, 1)))
      | _ => false))
    | _ => true)
  | _ => true
theorem thrOK_of {M : mT} {cs : cdT} {ic : Nat → Nat} {strs : List (Nat × String)} (h1 : M.cd = lk2 cs) (hh : M.m.hh = []) (hcl : ∀ k x, M.cp.cls k = some (.inr x) → Jvm.Cond.classLink M.m.y.cls k (exN x) ∈ lw_tbl ∧ Jvm.Cond.initialized (exN x) ∈ lw_tbl ∧ thrW M.m.y.cls (ic x) x) (hst : ∀ q ∈ strs, Jvm.Cond.stringRef M.m.y.cls q.1 q.2 ∈ lw_tbl) (h : allI cs (thC M.m.cc M.cp.cls ic strs) = true) : thrOK M := by
  intro pc x ⟨k, n, t, hc, hk⟩
  refine ⟨hh, ?_⟩
  rw [h1] at hc
  have hq := allI_at h hc
  unfold thC at hq
  dsimp only at hq
  rw [hk] at hq
  simp only [Bool.and_eq_true, decide_eq_true_eq] at hq
  obtain ⟨q1, q2, q3⟩ := hq
  obtain ⟨w1, w2, w3⟩ := hcl k x hk
  split at q3
  · rename_i iS hd
    simp only [Bool.and_eq_true, decide_eq_true_eq] at q3
    obtain ⟨r1, r2, r3⟩ := q3
    obtain ⟨text, ht⟩ := Option.isSome_iff_exists.mp r1
    exact ⟨k, iS, ic x, text, w1, w2, hst _ (lkp_mem ht), w3, q1, q2, Or.inl ⟨hd, r2, r3⟩⟩
  · rename_i iS hd
    simp only [Bool.and_eq_true, decide_eq_true_eq] at q3
    obtain ⟨r1, r2, r3⟩ := q3
    obtain ⟨text, ht⟩ := Option.isSome_iff_exists.mp r1
    exact ⟨k, iS, ic x, text, w1, w2, hst _ (lkp_mem ht), w3, q1, q2, Or.inr ⟨hd, r2, r3⟩⟩
  · cases q3
def rtC (ret : Option FieldType) (_ : Nat) (i : Instr) (_ _ : Nat) : Bool := match i with
  | .areturn => (match ret with
    | some (.object _) => true
    | some (.array _) => true
    | _ => false)
  | .dreturn => decide (ret = some .double)
  | .freturn => decide (ret = some .float)
  | .return_ => decide (ret = none)
  | _ => true
theorem rtOK_of {M : mT} {cs : cdT} (h1 : M.cd = lk2 cs) (h : allI cs (rtC M.m.ret) = true) : ∀ pc i np tg, M.cd pc = some (i, np, tg) → rtOK M i := by
  intro pc i np tg hc
  rw [h1] at hc
  have hq := allI_at h hc
  unfold rtC at hq
  unfold rtOK
  split
  · dsimp only at hq
    split at hq
    · rename_i h9; exact Or.inl ⟨_, h9⟩
    · rename_i h9; exact Or.inr ⟨_, h9⟩
    · cases hq
  · exact of_decide_eq_true hq
  · exact of_decide_eq_true hq
  · exact of_decide_eq_true hq
  · trivial
theorem hndOK_no {M : mT} (h : M.hs = []) (pc : Nat) : hndOK M pc := by
  intro x v hf
  rw [h] at hf
  cases hf
theorem mem_fa {α : Type} {P : α → Prop} {l : List α} (h : ∀ a ∈ l, P a) {a : α} (ha : a ∈ l) : P a := h a ha
theorem fa_nil {α : Type} {P : α → Prop} : ∀ a ∈ ([] : List α), P a := fun _ h => nomatch h
theorem fa_cons {α : Type} {P : α → Prop} {x : α} {l : List α} (h1 : P x) (h2 : ∀ a ∈ l, P a) : ∀ a ∈ x :: l, P a := List.forall_mem_cons.mpr ⟨h1, h2⟩
theorem hsF_mem : ∀ {l : List (Nat × Int32)} {x : Nat} {v : Int32}, hsF l x = some v → (x, v) ∈ l
  | [], x, v, h => by cases h
  | (k, u) :: l, x, v, h => by
    unfold hsF at h
    split at h
    · rename_i e
      have := Nat.eq_of_beq_eq_true e
      cases h
      rw [this]
      exact List.mem_cons_self
    · exact List.mem_cons_of_mem _ (hsF_mem h)
