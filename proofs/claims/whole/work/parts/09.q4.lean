/-! ===== the walk is right: inherited methods, natives, ends, throws, handlers ===== -/
theorem sel_priv {y : MethodName} {s : State} {args : Array Value} {n : Nat} {D : String} (hy : y.cls ≠ "java/lang/invoke/MethodHandle" ∧ y.cls ≠ "java/lang/invoke/VarHandle")
    (hins : (Cond.instantiable D n).before args s = true) (hsame : (Cond.sameMethod y.cls y.cls y.name y.desc).before args s = true) (hpriv : (Cond.privateMethod y).before args s = true) (hinst : (Cond.instanceMethod y).before args s = true) :
    (Cond.selects D y y).before args s = true := by
  obtain ⟨c, k, hc, hk, -, -, -, -⟩ := Cond.instantiable_spec hins
  obtain ⟨mk, methM, hnamed, hmethM, -, -⟩ := Cond.instanceMethod_spec hinst
  have hfound : s.methodFound? y.cls y.name y.desc = some mk := State.methodFound?_of_named hnamed hy
  obtain ⟨-, k2, hk2, hni⟩ := Cond.sameMethod_spec (findClass_of_methodNamed hnamed) hfound hsame
  have hsel : selectMethod {} s.vm c mk = .method mk := selectMethod_private hmethM (Cond.privateMethod_at hpriv mk methM hnamed hmethM)
  simp only [Cond.before, Cond.holds, Cond.value, hc, hfound, hnamed, hsel, hk2]
  simp; exact hni
section QD
variable {G : gT} {M : mT} {d bc bs pc : Nat} {ls : List (Option Value)} {st : List Value} {w : xW} {K : Option Value → xW → Prop} {KX : Nat → xW → Prop} {go : recT}
variable {A : Nat → Prop} {ad0 : List Nat} {R : Room} {p : Program} {e : Env} {s : State} {m : MethodId} {args : Array Value} {below : List Frame} {meth : Method} {c : Code} {Q : State → Prop}
theorem in_sb : Jvm.Cond.instantiable RJ4 4 ∈ lw_tbl := List.mem_append_right _ (List.mem_of_getElem? (i := 208) (by decide +kernel))
theorem q_callU (hg : gOK G) (hgo : hgoT G M d K KX go) {k b : Nat} {y : m0T} {fs as rest : List Value} (hx : uOK M.m.y.cls k y) (hpop : popN y.na [] st = some (as, .ref b :: rest)) (hb : nth w b = some (.inr (1, fs))) (hcat : catS rest ≤ 8) (hd : decode M.m.cc pc = .ok (.invokevirtual k, 3)) (h : CallC G d bc bs y (.ref b :: as) w (wpC go (pc + 3) ls rest) (fun _ _ => False)) : AW G M d bc bs pc ls st w K KX := by
  intro A ad0 R p e s m args below meth c Q C F ad ws H locs cells slots lc sc hW hL hS h1 h2
  obtain ⟨d', mc, ms, hd', hmc, hms, hSp⟩ := h
  obtain ⟨ca, cr, rfl, hca, ⟨cb, cr, rfl, ⟨a, ha, rfl⟩, hcr⟩, hlen⟩ := popN_rel hpop hS
  obtain ⟨hy, hhh, hl, hin, hsm, hsel⟩ := hx
  obtain ⟨e', q2, ⟨fs', rfl, hfs⟩⟩ := hW.cell hb ha
  have hM := met_of (hSp ad ws H.size (.ref a :: ca) hW.2.1 (.cons ⟨a, ha, rfl⟩ hca)) xcs_no
  rw [m0T.w_nil hhh] at hM
  have hpay := pay C hg hy
  have hwc := C.wrd hg hy.1 hy.2.1
  rw [m0T.w_nil hhh] at hpay hwc
  have hrm := room_le (mc := mc) (ms := ms) hy hd' C.2.2.2.2.2.2.2.2.2.2.1 C.2.2.2.2.2.2.2.2.2.2.2.1
  have hsl : (Jvm.Cond.selects RJ4 y.y y.y).before args s = true := by
    rcases hsel with hsel | hp
    · exact C.wrd hg hsel rfl
    · exact word_at C.2.2.2.2.2.2.1 (good_of_word rfl) (sel_priv hy.2.2.2.2.1 (hg.1 _ in_sb) (hg.1 _ hsm) (hg.1 _ hp) (hg.1 _ hin))
  refine call_end (KXc := fun _ _ => False) C hW (run_of_run (va_runU (x := y.y) (owner := y.y.cls) (C := RJ4) (Ts := []) ⟨C.1, C.2.1, C.2.2.2.1, C.2.2.2.2.1, fun w h => by cases h⟩ hM ⟨⟨rfl, rfl, hrm.1, hrm.2, hpay, List.mem_cons_self⟩, hwc, C.wrd hg hy.2.2.2.1 rfl, hy.2.2.2.2.1, hy.len, C.wrd hg hl rfl, C.wrd hg hsm rfl, va_Decl.of (C.wrd hg hin rfl) hwc, hsl, C.wrd hg hin rfl⟩ ⟨PcS.blind, va_recv (C.kk hg) hW.2.2.1 (q := (RJ4, TJ4, 4)) rfl q2, PcS.pre C hW _⟩ rfl hlen hL.1 rfl (by rw [catS_rel hg.cat hcr]; show 2 * 0 + _ ≤ 8; omega) hd ⟨by omega, by omega⟩)) ?_ ?_
  · intro v cv w' ad' ws' H' locs' hK ho hm hW'
    exact go_ret hgo C F hK ho hm hW' hL hcr h1 h2 hmc hms
  · intro E w' ad' ws' H' locs' q ce hKX
    exact hKX.elim
theorem q_callSU (hg : gOK G) (hgo : hgoT G M d K KX go) {k b : Nat} {y : m0T} {fs as rest : List Value} (hx : suOK M.m.y.cls k y) (hpop : popN y.na [] st = some (as, .ref b :: rest)) (hb : nth w b = some (.inr (1, fs))) (hcat : catS rest ≤ 8) (hd : decode M.m.cc pc = .ok (.invokespecial k, 3)) (h : CallC G d bc bs y (.ref b :: as) w (wpC go (pc + 3) ls rest) (fun _ _ => False)) : AW G M d bc bs pc ls st w K KX := by
  intro A ad0 R p e s m args below meth c Q C F ad ws H locs cells slots lc sc hW hL hS h1 h2
  obtain ⟨d', mc, ms, hd', hmc, hms, hSp⟩ := h
  obtain ⟨ca, cr, rfl, hca, ⟨cb, cr, rfl, ⟨a, ha, rfl⟩, hcr⟩, hlen⟩ := popN_rel hpop hS
  obtain ⟨hy, hhh, hl, hin, hsm, hsup, hnm⟩ := hx
  obtain ⟨e', q2, ⟨fs', rfl, hfs⟩⟩ := hW.cell hb ha
  have hM := met_of (hSp ad ws H.size (.ref a :: ca) hW.2.1 (.cons ⟨a, ha, rfl⟩ hca)) xcs_no
  rw [m0T.w_nil hhh] at hM
  have hpay := pay C hg hy
  have hwc := C.wrd hg hy.1 hy.2.1
  rw [m0T.w_nil hhh] at hpay hwc
  have hrm := room_le (mc := mc) (ms := ms) hy hd' C.2.2.2.2.2.2.2.2.2.2.1 C.2.2.2.2.2.2.2.2.2.2.2.1
  refine call_end (KXc := fun _ _ => False) C hW (run_of_run (va_runSU (Ts := []) ((C.kk hg).1 1 (RJ4, TJ4, 4) rfl).2 ⟨C.1, C.2.1, C.2.2.2.1, C.2.2.2.2.1, fun w h => by cases h⟩ hM ⟨⟨rfl, rfl, hrm.1, hrm.2, hpay, List.mem_cons_self⟩, C.wrd hg hl rfl, C.wrd hg hsm rfl, C.wrd hg hsup rfl, C.wrd hg hin rfl, C.wrd hg hy.2.2.2.1 rfl, hwc, hnm, hy.len⟩ ⟨PcS.blind, va_recv (C.kk hg) hW.2.2.1 (q := (RJ4, TJ4, 4)) rfl q2, PcS.pre C hW _⟩ rfl hlen hL.1 rfl (by rw [catS_rel hg.cat hcr]; show 2 * 0 + _ ≤ 8; omega) hd ⟨by omega, by omega⟩)) ?_ ?_
  · intro v cv w' ad' ws' H' locs' hK ho hm hW'
    exact go_ret hgo C F hK ho hm hW' hL hcr h1 h2 hmc hms
  · intro E w' ad' ws' H' locs' q ce hKX
    exact hKX.elim
def oiOK (own : String) (k : Nat) : Prop := Jvm.Cond.methodLink own k Lib.objectInit ∈ lw_tbl ∧ Jvm.Cond.instanceMethod Lib.objectInit ∈ lw_tbl ∧ Jvm.Cond.code Lib.objectInit ⟨#[0xb1]⟩ 1 none ∈ lw_tbl
theorem q_objInit (hg : gOK G) (hgo : hgoT G M d K KX go) {k b : Nat} {rest : List Value} (hx : oiOK M.m.y.cls k) (hcat : catS rest ≤ 8) (h1d : 1 ≤ d) (hd : decode M.m.cc pc = .ok (.invokespecial k, 3)) (h : go bc bs (pc + 3) ls rest w) : AW G M d bc bs pc ls (.ref b :: rest) w K KX := by
  intro A ad0 R p e s m args below meth c Q C F ad ws H locs cells slots lc sc hW hL hS h1 h2
  obtain ⟨cb, cr, rfl, ⟨a, ha, rfl⟩, hcr⟩ := hS
  have hf := C.2.2.2.2.2.2.2.2.2.2.1
  have hlo := C.2.2.2.2.2.2.2.2.2.2.2.1
  have hk := hgo _ _ _ _ _ _ h A ad0 R p e s m args below meth c Q C F ad ws H locs cells slots lc cr hW hL hcr h1 h2
  exact W.objInit C.1 C.2.1 C.2.2.2.2.1 (C.wrd hg hx.1 rfl) (C.wrd hg hx.2.1 rfl) (C.wrd hg hx.2.2 rfl) rfl (by rw [C.2.2.2.1]; exact hL.1) rfl hd (by omega) (by rw [catS_rel hg.cat hcr]; show 2 * 0 + _ + 12 ≤ _; omega) hk
def mmOK (own : String) (k : Nat) : Prop := Jvm.Cond.methodLink own k Lib.Math.max.name ∈ lw_tbl ∧ Jvm.Cond.static Lib.Math.max.name ∈ lw_tbl ∧ Jvm.Cond.initialized "java/lang/Math" ∈ lw_tbl ∧ Jvm.Cond.code Lib.Math.max.name Lib.Math.max.code 2 (some .int) ∈ lw_tbl
def mnOK (own : String) (k : Nat) : Prop := Jvm.Cond.methodLink own k Lib.Math.min.name ∈ lw_tbl ∧ Jvm.Cond.static Lib.Math.min.name ∈ lw_tbl ∧ Jvm.Cond.initialized "java/lang/Math" ∈ lw_tbl ∧ Jvm.Cond.code Lib.Math.min.name Lib.Math.min.code 2 (some .int) ∈ lw_tbl
theorem q_max (hg : gOK G) (hgo : hgoT G M d K KX go) {k : Nat} {x y : Int32} {rest : List Value} (hx : mmOK M.m.y.cls k) (hcat : catS rest ≤ 8) (h1d : 1 ≤ d) (hd : decode M.m.cc pc = .ok (.invokestatic k, 3)) (h : go bc bs (pc + 3) ls (.int (if x < y then y else x) :: rest) w) : AW G M d bc bs pc ls (.int y :: .int x :: rest) w K KX := by
  intro A ad0 R p e s m args below meth c Q C F ad ws H locs cells slots lc sc hW hL hS h1 h2
  obtain ⟨cy, sc, rfl, hy, cx, cr, rfl, hx9, hcr⟩ := hS
  cases (show cy = _ from hy); cases (show cx = _ from hx9)
  have hf := C.2.2.2.2.2.2.2.2.2.2.1
  have hlo := C.2.2.2.2.2.2.2.2.2.2.2.1
  exact va_mmax C.1 C.2.1 (by rw [C.2.2.2.1]; exact hL.1.symm) C.2.2.2.2.1 (C.wrd hg hx.1 rfl) (C.wrd hg hx.2.1 rfl) (C.wrd hg hx.2.2.1 rfl) (C.wrd hg hx.2.2.2 rfl) (by omega) (by rw [catS_rel hg.cat hcr]; omega) (by omega) (by omega) hd (hgo _ _ _ _ _ _ h A ad0 R p e s m args below meth c Q C F ad ws H locs cells slots lc _ hW hL (.cons rfl hcr) h1 h2)
theorem q_min (hg : gOK G) (hgo : hgoT G M d K KX go) {k : Nat} {x y : Int32} {rest : List Value} (hx : mnOK M.m.y.cls k) (hcat : catS rest ≤ 8) (h1d : 1 ≤ d) (hd : decode M.m.cc pc = .ok (.invokestatic k, 3)) (h : go bc bs (pc + 3) ls (.int (if y < x then y else x) :: rest) w) : AW G M d bc bs pc ls (.int y :: .int x :: rest) w K KX := by
  intro A ad0 R p e s m args below meth c Q C F ad ws H locs cells slots lc sc hW hL hS h1 h2
  obtain ⟨cy, sc, rfl, hy, cx, cr, rfl, hx9, hcr⟩ := hS
  cases (show cy = _ from hy); cases (show cx = _ from hx9)
  have hf := C.2.2.2.2.2.2.2.2.2.2.1
  have hlo := C.2.2.2.2.2.2.2.2.2.2.2.1
  exact va_mmin C.1 C.2.1 (by rw [C.2.2.2.1]; exact hL.1.symm) C.2.2.2.2.1 (C.wrd hg hx.1 rfl) (C.wrd hg hx.2.1 rfl) (C.wrd hg hx.2.2.1 rfl) (C.wrd hg hx.2.2.2 rfl) (by omega) (by rw [catS_rel hg.cat hcr]; omega) (by omega) (by omega) hd (hgo _ _ _ _ _ _ h A ad0 R p e s m args below meth c Q C F ad ws H locs cells slots lc _ hW hL (.cons rfl hcr) h1 h2)
def acOK (own : String) (k : Nat) : Prop := Jvm.Cond.methodLink own k arraycopyName ∈ lw_tbl ∧ Jvm.Cond.native arraycopyName ∈ lw_tbl ∧ Jvm.Cond.static arraycopyName ∈ lw_tbl ∧ Jvm.Cond.initialized "java/lang/System" ∈ lw_tbl
theorem q_copy (hg : gOK G) (hgo : hgoT G M d K KX go) {k x y n0 n1 : Nat} {f g : Nat → Int32} {sp dp n : Int32} {rest : List Value} (hx : acOK M.m.y.cls k) (hcat : catS rest ≤ 8) (h4d : 4 ≤ d) (hw0 : nth w x = some (.inl (3, n0, .inl f))) (hw1 : nth w y = some (.inl (3, n1, .inl g)))
    (e1 : ¬ sp < 0) (e2 : ¬ dp < 0) (e3 : ¬ n < 0) (e4 : sp.toNatClampNeg + n.toNatClampNeg ≤ n0) (e5 : dp.toNatClampNeg + n.toNatClampNeg ≤ n1) (e6 : ∀ i, i < n.toNatClampNeg → fits .byte (.int (f (sp.toNatClampNeg + i))) = true)
    (hd : decode M.m.cc pc = .ok (.invokestatic k, 3)) (h : go bc bs (pc + 3) ls rest (stN w y (.inl (3, n1, .inl (va_cpy f g sp.toNatClampNeg dp.toNatClampNeg n.toNatClampNeg))))) : AW G M d bc bs pc ls (.int n :: .int dp :: .ref y :: .int sp :: .ref x :: rest) w K KX := by
  intro A ad0 R p e s m args below meth c Q C F ad ws H locs cells slots lc sc hW hL hS h1 h2
  obtain ⟨cn, sc, rfl, hn, cd, sc, rfl, hdp, cy, sc, rfl, ⟨b, hb, rfl⟩, cs, sc, rfl, hsp, cx, cr, rfl, ⟨a, ha, rfl⟩, hcr⟩ := hS
  cases (show cn = _ from hn); cases (show cd = _ from hdp); cases (show cs = _ from hsp)
  have hf := C.2.2.2.2.2.2.2.2.2.2.1
  have hlo := C.2.2.2.2.2.2.2.2.2.2.2.1
  obtain ⟨e0, q0, u0, d0, hu0, rfl, r0⟩ := hW.cell hw0 ha
  obtain ⟨e9, q1, u1, d1, hu1, rfl, r1⟩ := hW.cell hw1 hb
  cases (show d0 = _ from r0); cases (show d1 = _ from r1)
  obtain ⟨c0, t0⟩ := u0
  obtain ⟨c1, t1⟩ := u1
  have ht0 := hg.ty hu0
  have ht1 := hg.ty hu1
  cases ht0; cases ht1
  have hnf : nativeFrameWords "java/lang/System" "arraycopy" 5 + 11 ≤ 248 := by decide +kernel
  exact va_copyi C.1 C.2.1 (by rw [C.2.2.2.1]; exact hL.1.symm) C.2.2.2.2.1 (C.wrd hg hx.1 rfl) (C.wrd hg hx.2.1 rfl) (C.wrd hg hx.2.2.1 rfl) (C.wrd hg hx.2.2.2 rfl) (C.kk hg) hW.2.2.1 hW.2.2.2.1 hW.2.2.2.2 x y 3 3 q0 q1 hu0 hu1 rfl e1 e2 e3 e4 e5 e6 (by omega) (by rw [catS_rel hg.cat hcr]; omega) hd
    (fun H1 locs1 r1 r2 r3 => hgo _ _ _ _ _ _ h A ad0 R p e s m args below meth c Q C F ad _ H1 locs1 cells slots lc _ (hW.put hb ⟨_, _, hu1, rfl, rfl⟩ r1 r2 r3) hL hcr h1 h2)
theorem q_ret {v : Option Value} (hr : retI M pc v) (hst : st = v.toList) (h : K v w) : AW G M d bc bs pc ls st w K KX := by
  intro A ad0 R p e s m args below meth c Q C F ad ws H locs cells slots lc sc hW hL hS h1 h2
  subst hst
  cases v with
  | none =>
    cases (show sc = [] from hS)
    exact F.1 pc none none w ad ws H locs cells slots lc h hr rfl hW (by omega) (by omega)
  | some v =>
    obtain ⟨cv, sc, rfl, hv, hS⟩ := hS
    cases (show sc = [] from hS)
    exact F.1 pc (some v) (some cv) w ad ws H locs cells slots lc h hr ⟨cv, rfl, hv⟩ hW (by omega) (by omega)
theorem q_throw {x : Nat} (hr : thrI M pc x) (h6 : 6 ≤ d) (hb : 1 ≤ bc) (hs6 : 6 ≤ bs) (h : KX x w) : AW G M d bc bs pc ls [] w K KX := by
  intro A ad0 R p e s m args below meth c Q C F ad ws H locs cells slots lc sc hW hL hS h1 h2
  cases (show sc = [] from hS)
  exact F.2 pc x w ad ws H locs cells slots lc h hr (by have := C.2.2.2.2.2.2.2.2.2.2.1; omega) (by have := C.2.2.2.2.2.2.2.2.2.2.2.1; omega) hL.1 hW (by omega) (by omega)
end QD
