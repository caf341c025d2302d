/-! ===== the walk is right: handlers, the ends of a method; the whole ===== -/
def trW : Jvm.Cond → Bool
  | .castable .. => true
  | .declares _ => true
  | x => goodWord x
theorem tr_at {args a' : Array Value} {s U : State} (hW : s.WarmedH U.vm) {x : Jvm.Cond} (hx : trW x = true) (h : x.before args s = true) : x.before a' U = true := by
  cases x with
  | castable a b => exact va_Nw.use rfl (va_Nw.warmC hW (va_Nw.of rfl h))
  | declares y => exact va_Nw.use rfl (va_Nw.warmD hW (va_Nw.of rfl h))
  | _ => exact word_at hW (good_of_word hx) h
def exIx (x : Nat) : Nat := if x = 3 then 13 else 7
def exRx (x : Nat) : ByteArray := if x = 3 then ⟨#[0x2a, 0x2b, 0xb7, 0x00, 0x0d, 0xb1]⟩ else ⟨#[0x2a, 0x2b, 0xb7, 0x00, 0x07, 0xb1]⟩
theorem exRx_ok (x : Nat) : decode (exRx x) 0 = .ok (.aload_n 0, 1) ∧ decode (exRx x) 1 = .ok (.aload_n 1, 1) ∧ decode (exRx x) 2 = .ok (.invokespecial (exIx x), 3) ∧ decode (exRx x) 5 = .ok (.return_, 1) := by
  unfold exRx exIx
  split <;> decide +kernel
def exW (own : String) (ic x : Nat) : List Jvm.Cond := (trA own ic (exN x) "java/lang/RuntimeException" (exIx x) (exRx x) ["java/lang/Exception"]).filter vx_no
/-- the words of a throw of the x-th exception -/
def thrW (own : String) (ic x : Nat) : Prop := ∀ q ∈ exW own ic x, q ∈ lw_tbl ∧ trW q = true ∧ vx_ot q = true
def thrOK (M : mT) : Prop := ∀ (pc x : Nat), thrI M pc x → M.m.hh = [] ∧ ∃ (ik iS ic : Nat) (text : String), Jvm.Cond.classLink M.m.y.cls ik (exN x) ∈ lw_tbl ∧ Jvm.Cond.initialized (exN x) ∈ lw_tbl ∧ Jvm.Cond.stringRef M.m.y.cls iS text ∈ lw_tbl ∧ thrW M.m.y.cls ic x ∧
  decode M.m.cc pc = .ok (.new ik, 3) ∧ decode M.m.cc (pc + 3) = .ok (.dup, 1) ∧
  ((decode M.m.cc (pc + 4) = .ok (.ldc iS, 2) ∧ decode M.m.cc (pc + 6) = .ok (.invokespecial ic, 3) ∧ decode M.m.cc (pc + 9) = .ok (.athrow, 1)) ∨
   (decode M.m.cc (pc + 4) = .ok (.ldc_w iS, 3) ∧ decode M.m.cc (pc + 7) = .ok (.invokespecial ic, 3) ∧ decode M.m.cc (pc + 10) = .ok (.athrow, 1)))
/-- the handlers: each class of the list has its row, that answers its number -/
def hndOK (M : mT) (pc : Nat) : Prop := ∀ (x : Nat) (v : Int32), hsF M.hs x = some v → ∃ (pre suf : List ExceptionTableEntry) (z : ExceptionTableEntry) (j : Nat) (j4 : Fin 4) (n : Int), tableOf M.m.hh = pre ++ z :: suf ∧ covers z pc = true ∧ z.catchType ≠ 0 ∧ Jvm.Cond.classLink M.m.y.cls z.catchType (exN x) ∈ lw_tbl ∧ Jvm.Cond.castable (exN x) (exN x) ∈ lw_tbl ∧
  (∀ u ∈ pre, u.catchType ≠ 0 ∧ ∃ nm : String, Jvm.Cond.classLink M.m.y.cls u.catchType nm ∈ lw_tbl ∧ (exN x, nm) ∈ ncL) ∧
  (decode M.m.cc z.handlerPc = .ok (.astore_n j4, 1) ∧ (j4 : Nat) = j ∧ decode M.m.cc (z.handlerPc + 1) = .ok (.iconst n, 1) ∧ retI M (z.handlerPc + 2) (some (.int v)) ∨ decode M.m.cc z.handlerPc = .ok (.astore j, 2) ∧ decode M.m.cc (z.handlerPc + 2) = .ok (.iconst n, 1) ∧ retI M (z.handlerPc + 3) (some (.int v))) ∧ j < M.m.nL ∧ Int32.ofInt n = v
section QE
variable {G : gT} {M : mT} {d bc bs pc : Nat} {ls : List (Option Value)} {st : List Value} {w : xW} {K : Option Value → xW → Prop} {KX : Nat → xW → Prop} {go : recT}
variable {A : Nat → Prop} {ad0 : List Nat} {R : Room} {p : Program} {e : Env} {s : State} {m : MethodId} {args : Array Value} {below : List Frame} {meth : Method} {c : Code} {Q : State → Prop}
theorem q_callV (hg : gOK G) (hgo : hgoT G M d K KX go) {k ci b : Nat} {y : m0T} {fs as rest : List Value} (hh : hndOK M pc) (hx : vOK M.m.y.cls k y ci) (hpop : popN y.na [] st = some (as, .ref b :: rest)) (hb : nth w b = some (.inr (ci, fs))) (hcat : catS rest ≤ 8) (hd : decode M.m.cc pc = .ok (.invokevirtual k, 3)) (h : CallC G d bc bs y (.ref b :: as) w (wpC go (pc + 3) ls rest) (wpX M K)) : AW G M d bc bs pc ls st w K KX := by
  intro A ad0 R p e s m args below meth c Q C F ad ws H locs cells slots lc sc hW hL hS h1 h2
  obtain ⟨d', mc, ms, hd', hmc, hms, hSp⟩ := h
  obtain ⟨ca, cr, rfl, hca, ⟨cb, cr, rfl, ⟨a, ha, rfl⟩, hcr⟩, hlen⟩ := popN_rel hpop hS
  obtain ⟨hy, hhh, hl, hin, hsel, T, N, hcl⟩ := hx
  obtain ⟨e', q2, ⟨fs', rfl, hfs⟩⟩ := hW.cell hb ha
  have hM := hSp ad ws H.size (.ref a :: ca) hW.2.1 (.cons ⟨a, ha, rfl⟩ hca)
  rw [m0T.w_nil hhh] at hM
  have hpay := pay C hg hy
  have hwc := C.wrd hg hy.1 hy.2.1
  rw [m0T.w_nil hhh] at hpay hwc
  have hrm := room_le (mc := mc) (ms := ms) hy hd' C.2.2.2.2.2.2.2.2.2.2.1 C.2.2.2.2.2.2.2.2.2.2.2.1
  refine call_end C hW (vx_runV (Ts := []) ⟨C.1, C.2.1, C.2.2.2.1, C.2.2.2.2.1, fun w h => by cases h⟩ hM ⟨⟨rfl, rfl, hrm.1, hrm.2, hpay, List.mem_cons_self, hwc, C.wrd hg hy.2.2.2.1 rfl, hy.2.2.2.2.1, hy.len, C.wrd hg hl rfl⟩, C.wrd hg hin rfl, C.wrd hg hsel rfl⟩ ⟨PcS.blind, va_recv (C.kk hg) hW.2.2.1 hcl q2, PcS.pre C hW _⟩ rfl hlen hL.1 rfl (by rw [catS_rel hg.cat hcr]; show 2 * 0 + _ ≤ 8; omega) hd ⟨by omega, by omega⟩) ?_ ?_
  · intro v cv w' ad' ws' H' locs' hK ho hm hW'
    exact go_ret hgo C F hK ho hm hW' hL hcr h1 h2 hmc hms
  · intro x w' ad' ws' H' locs' q ce hKX hm hW' hq hqv hqc
    have hKX : wpX M K x w' := hKX
    unfold wpX at hKX
    cases hf : hsF M.hs x with
    | none => rw [hf] at hKX; exact hKX.elim
    | some v =>
      rw [hf] at hKX
      obtain ⟨pre, suf, z, j, j4, n, t1, t2, t3, t4, t5, t6, t7, t8, t9⟩ := hh x v hf
      have hW0 := C.2.2.2.2.2.2.1
      refine vx_catch C.2.2.2.2.1 pre z suf (by rw [C.2.2.2.2.2.2.2.2.2.2.2.2.2]; exact t1) (fun u hu => ?_) t2 t3 (C.wrd hg t4 rfl) (tr_at hW0 rfl (hg.1 _ t5)) hq hqv hqc ?_
      · obtain ⟨u1, nm, u2, u3⟩ := t6 u hu
        exact Or.inr ⟨u1, nm, C.wrd hg u2 rfl, va_Nc.moved hW0.alike (hg.2.2.2.2.2.2.2.2.2.2.2.2 _ u3)⟩
      · rcases t7 with ⟨t71, t72, t73, t74⟩ | ⟨t71, t73, t74⟩
        · refine lv_astore_n C.1 C.2.1 t71 t72 hL.all t8 rfl (fun lc2 hl2 => ?_)
          refine lv_iconst C.1 C.2.1 t73 t9 ?_
          exact F.1 _ (some (.int v)) (some (.int v)) w' ad' ws' H' locs' _ _ lc2 hKX t74 ⟨_, rfl, rfl⟩ hW' (by omega) (by omega)
        · refine lv_astore C.1 C.2.1 t71 hL.all t8 rfl (fun lc2 hl2 => ?_)
          refine lv_iconst C.1 C.2.1 t73 t9 ?_
          exact F.1 _ (some (.int v)) (some (.int v)) w' ad' ws' H' locs' _ _ lc2 hKX t74 ⟨_, rfl, rfl⟩ hW' (by omega) (by omega)
end QE
/-- what is checked of a method, once -/
def brO : Instr → Option Int
  | .goto o => some o
  | .ifCond _ o => some o
  | .if_icmp _ o => some o
  | .if_acmp _ o => some o
  | .ifnull o => some o
  | .ifnonnull o => some o
  | _ => none
def iLen : Instr → Nat
  | .bipush _ => 2 | .sipush _ => 3 | .ldc _ => 2 | .iload _ => 2 | .fload _ => 2 | .dload _ => 2 | .aload _ => 2 | .istore _ => 2 | .fstore _ => 2 | .dstore _ => 2 | .astore _ => 2 | .newarray _ => 2
  | .iinc _ _ => 3 | .goto _ => 3 | .ifCond _ _ => 3 | .if_icmp _ _ => 3 | .if_acmp _ _ => 3 | .ifnull _ => 3 | .ifnonnull _ => 3 | .getfield _ => 3 | .putfield _ => 3 | .getstatic _ => 3 | .new _ => 3 | .anewarray _ => 3
  | .invokevirtual _ => 3 | .invokestatic _ => 3 | .invokespecial _ => 3 | .ldc_w _ => 3 | .checkcast _ => 3
  | _ => 1
def isSw : Instr → Bool
  | .tableswitch .. => true
  | _ => false
def swI (M : mT) (pc : Nat) (i : Instr) : Prop := match i with
  | .tableswitch dfl lo hi offs => ∀ lo2 ts df, M.sw pc = some (lo2, ts, df) → lo2 = lo ∧ hi = lo + ts.length - 1 ∧ (pc : Int) + dfl = (df : Int) ∧ ∀ (j t : Nat), ts[j]? = some t → ∃ o, offs[j]? = some o ∧ (pc : Int) + o = (t : Int)
  | _ => True
def codeOK (M : mT) : Prop := ∀ (pc : Nat) (i : Instr) (np tg : Nat), M.cd pc = some (i, np, tg) → (∃ n, decode M.m.cc pc = .ok (i, n) ∧ (isSw i = false → n = iLen i ∧ np = pc + iLen i)) ∧ (∀ o, brO i = some o → (pc : Int) + o = (tg : Int)) ∧ swI M pc i
def cpOK (own : String) (ini : Bool) (cp : cpT) : Prop :=
  (∀ k ci j ty fin, cp.fld k = some (ci, j, ty, fin) → fldOK own ini k ci j ty fin) ∧
  (∀ k v, cp.stc k = some v → stcOK own k v) ∧
  (∀ k t y ci, cp.mth k = some (t, y, ci) → match t with
    | 0 => vOK own k y ci
    | 1 => sOK own k y
    | 2 => iOK own k y
    | 3 => snOK own k y
    | 4 => inOK own k y
    | 5 => oiOK own k
    | 6 => mmOK own k
    | 7 => mnOK own k
    | 8 => acOK own k
    | 9 => uOK own k y
    | 10 => suOK own k y
    | 11 => swOK own k y
    | _ => False) ∧
  (∀ k ci, cp.cls k = some (.inl ci) → (∀ n fs, newF ci = some (n, fs) → newOK own k ci n fs) ∧ (ci = 4 → Jvm.Cond.classLink own k RX0 ∈ lw_tbl)) ∧
  (∀ k v, cp.num k = some v → Jvm.Cond.constant own k v ∈ lw_tbl)
def rtOK (M : mT) (i : Instr) : Prop := match i with
  | .areturn => (∃ C, M.m.ret = some (.object C)) ∨ ∃ C, M.m.ret = some (.array C)
  | .dreturn => M.m.ret = some .double
  | .freturn => M.m.ret = some .float
  | .return_ => M.m.ret = none
  | _ => True
def mOK (M : mT) : Prop := m0OK M.m ∧ cpOK M.m.y.cls M.ini M.cp ∧ codeOK M ∧ thrOK M ∧ (∀ pc k np tg, M.cd pc = some (.invokevirtual k, np, tg) → hndOK M pc) ∧ (M.ini = true → M.m.y.name = "<init>") ∧ (M.m.hh ≠ [] → M.ini = false) ∧ plainName M.m.y.cls = true ∧ (∀ pc i np tg, M.cd pc = some (i, np, tg) → rtOK M i)
