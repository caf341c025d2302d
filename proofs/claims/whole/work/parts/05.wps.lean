/-! ===== the walk of one instruction, and of many ===== -/
/-- a call: within what is left, the callee keeps its contract -/
def CallC (G : gT) (d bc bs : Nat) (m : m0T) (as : List Value) (w : xW) (Kc : Nat → Nat → Option Value → xW → Prop) (KXc : Nat → xW → Prop) : Prop :=
  ∃ d' mc ms, d' < d ∧ mc ≤ bc ∧ ms ≤ bs ∧ Spec G d' mc ms m as w (Kc (bc - mc) (bs - ms)) KXc
/-- where a switch goes -/
def swTo (x : Int32) (lo : Int) (ts : List Nat) (df t : Nat) : Prop :=
  (∃ (j : Nat), x.toInt = lo + j ∧ ts[j]? = some t) ∨ ((x.toInt < lo ∨ lo + ts.length ≤ x.toInt) ∧ t = df)
abbrev recT : Type := Nat → Nat → Nat → List (Option Value) → List Value → xW → Prop
section WPS
variable (G : gT) (M : mT) (cut : Nat → Option (List Bool)) (d : Nat) (K : Option Value → xW → Prop) (KX : Nat → xW → Prop)
def wpG (rec : recT) (bc bs pc : Nat) (ls : List (Option Value)) (st : List Value) (w : xW) : Prop := match cut pc with
  | some lv => AW G M d bc bs pc (msk lv ls) st w K KX
  | none => rec bc bs pc ls st w
/-- behind a call -/
def wpC (go : recT) (np : Nat) (ls : List (Option Value)) (rest : List Value) (bc bs : Nat) (v : Option Value) (w : xW) : Prop := match v with
  | none => fW w (fun w => go bc bs np ls rest w)
  | some v => fV v (fun v => fW w (fun w => go bc bs np ls (v :: rest) w))
/-- a call's exception: caught by a handler that answers a number, or nothing may come -/
def hsF : List (Nat × Int32) → Nat → Option Int32
  | [], _ => none
  | (y, v) :: l, x => match Nat.beq y x with
    | true => some v
    | false => hsF l x
def wpX (x : Nat) (w : xW) : Prop := match hsF M.hs x with
  | some v => K (some (.int v)) w
  | none => False
def wpCall (go : recT) (bc bs np : Nat) (ls : List (Option Value)) (w : xW) (m : m0T) (as rest : List Value) : Prop :=
  match Nat.ble (catS rest) 8 with
  | true => CallC G d bc bs m as w (wpC go np ls rest) (wpX M K)
  | false => False
def wpCall0 (go : recT) (bc bs np : Nat) (ls : List (Option Value)) (w : xW) (m : m0T) (as rest : List Value) : Prop :=
  match Nat.ble (catS rest) 8 with
  | true => CallC G d bc bs m as w (wpC go np ls rest) (fun _ _ => False)
  | false => False
def wpKV (go : recT) (bc bs np : Nat) (ls : List (Option Value)) (st : List Value) (w : xW) (m : m0T) (ci : Nat) : Prop := match popN m.na [] st with
  | some (as, .ref b :: rest) => (match nth w b with
    | some (.inr (c2, _)) => (match Nat.beq c2 ci with
      | true => wpCall G M d K go bc bs np ls w m (.ref b :: as) rest
      | false => False)
    | _ => False)
  | _ => False
def wpKS (go : recT) (bc bs np : Nat) (ls : List (Option Value)) (st : List Value) (w : xW) (m : m0T) : Prop := match popN m.na [] st with
  | some (as, rest) => wpCall0 G d go bc bs np ls w m as rest
  | _ => False
def wpKI (go : recT) (bc bs np : Nat) (ls : List (Option Value)) (st : List Value) (w : xW) (m : m0T) : Prop := match popN m.na [] st with
  | some (as, .ref b :: rest) => wpCall0 G d go bc bs np ls w m (.ref b :: as) rest
  | _ => False
def wpKO (go : recT) (bc bs np : Nat) (ls : List (Option Value)) (st : List Value) (w : xW) : Prop := match st with
  | .ref b :: rest => (match Nat.ble (catS rest) 8 with
    | true => 1 ≤ d ∧ go bc bs np ls rest w
    | false => False)
  | _ => False
def wpKX (go : recT) (bc bs np : Nat) (ls : List (Option Value)) (st : List Value) (w : xW) : Prop := match st with
  | .int y :: .int x :: rest => (match Nat.ble (catS rest) 8 with
    | true => 1 ≤ d ∧ go bc bs np ls (.int (if x < y then y else x) :: rest) w
    | false => False)
  | _ => False
def wpKM (go : recT) (bc bs np : Nat) (ls : List (Option Value)) (st : List Value) (w : xW) : Prop := match st with
  | .int y :: .int x :: rest => (match Nat.ble (catS rest) 8 with
    | true => 1 ≤ d ∧ go bc bs np ls (.int (if y < x then y else x) :: rest) w
    | false => False)
  | _ => False
def wpKC (go : recT) (bc bs np : Nat) (ls : List (Option Value)) (st : List Value) (w : xW) : Prop := match st with
  | .int n :: .int dp :: .ref b :: .int sp :: .ref a :: rest => (match nth w a, nth w b with
    | some (.inl (3, n0, .inl f)), some (.inl (3, n1, .inl g)) => (match Nat.ble (catS rest) 8 with
      | true => 4 ≤ d ∧ ¬ sp < 0 ∧ ¬ dp < 0 ∧ ¬ n < 0 ∧ sp.toNatClampNeg + n.toNatClampNeg ≤ n0 ∧ dp.toNatClampNeg + n.toNatClampNeg ≤ n1 ∧ (∀ i, i < n.toNatClampNeg → fits .byte (.int (f (sp.toNatClampNeg + i))) = true) ∧
        fL (stN w b (.inl (3, n1, .inl (va_cpy f g sp.toNatClampNeg dp.toNatClampNeg n.toNatClampNeg)))) (fun w => go bc bs np ls rest w)
      | false => False)
    | _, _ => False)
  | _ => False
def wpKU (go : recT) (bc bs np : Nat) (ls : List (Option Value)) (st : List Value) (w : xW) (m : m0T) : Prop := match popN m.na [] st with
  | some (as, .ref b :: rest) => (match nth w b with
    | some (.inr (c2, _)) => (match Nat.beq c2 1 with
      | true => wpCall0 G d go bc bs np ls w m (.ref b :: as) rest
      | false => False)
    | _ => False)
  | _ => False
def wpLd (go : recT) (bc bs np : Nat) (ls : List (Option Value)) (st : List Value) (w : xW) (v : Value) : Prop := go bc bs np ls (v :: st) w
/-- storing a value of one slot, of two slots -/
def wpS1 (go : recT) (bc bs np : Nat) (ls : List (Option Value)) (st : List Value) (w : xW) (i : Nat) (v : Value) : Prop := match Nat.blt i M.m.nL with
  | true => fL (stL ls i v) (fun ls => go bc bs np ls st w)
  | false => False
def wpS2 (go : recT) (bc bs np : Nat) (ls : List (Option Value)) (st : List Value) (w : xW) (i : Nat) (v : Value) : Prop := match Nat.blt (i + 1) M.m.nL with
  | true => fL (st2 ls i v) (fun ls => go bc bs np ls st w)
  | false => False
def wpPut (go : recT) (bc bs np : Nat) (ls : List (Option Value)) (st : List Value) (w : xW) (a ci k : Nat) (v : Value) : Prop := match nth w a with
  | some (.inr (c2, fs)) => (match Nat.beq c2 ci, Nat.blt k (lenL fs) with
    | true, true => fL (stN fs k v) (fun fs => fL (stN w a (.inr (ci, fs))) (fun w => go bc bs np ls st w))
    | _, _ => False)
  | _ => False
def wpNewA (go : recT) (bc bs np : Nat) (ls : List (Option Value)) (st : List Value) (w : xW) (t : Nat) (n : Int32) (zero : Nat → va_E) : Prop :=
  ¬ n < 0 ∧ n.toNatClampNeg ≤ 65536 ∧ 1 ≤ bc ∧ n.toNatClampNeg ≤ bs ∧ fN (lenL w) (fun q => fL (w ++ [zero n.toNatClampNeg]) (fun w => go (bc - 1) (bs - n.toNatClampNeg) np ls (.ref q :: st) w))
def wpI (go : recT) (bc bs pc : Nat) (ls : List (Option Value)) (st : List Value) (w : xW) (i : Instr) (np tg : Nat) : Prop := match i with
  | .iconst n => wpLd go bc bs np ls st w (.int (Int32.ofInt n))
  | .bipush n => wpLd go bc bs np ls st w (.int (Int8.ofInt n).toInt32)
  | .sipush n => wpLd go bc bs np ls st w (.int (Int16.ofInt n).toInt32)
  | .aconst_null => wpLd go bc bs np ls st w .null
  | .fconst f => (match f with | 0 => wpLd go bc bs np ls st w (.float FP.fconst0) | _ => False)
  | .dconst f => (match f with | 0 => wpLd go bc bs np ls st w (.double FP.dconst0) | _ => False)
  | .ldc k => (match M.cp.num k with | some v => wpLd go bc bs np ls st w (.int v) | none => False)
  | .iload_n k => (match gtL ls k with | some (.int x) => wpLd go bc bs np ls st w (.int x) | _ => False)
  | .iload k => (match gtL ls k with | some (.int x) => wpLd go bc bs np ls st w (.int x) | _ => False)
  | .fload k => (match gtL ls k with | some (.float x) => wpLd go bc bs np ls st w (.float x) | _ => False)
  | .dload k => (match gtL ls k with | some (.double x) => wpLd go bc bs np ls st w (.double x) | _ => False)
  | .aload_n k => (match gtL ls k with | some (.ref x) => wpLd go bc bs np ls st w (.ref x) | some .null => wpLd go bc bs np ls st w .null | some (.retAddr x) => wpLd go bc bs np ls st w (.retAddr x) | _ => False)
  | .aload k => (match gtL ls k with | some (.ref x) => wpLd go bc bs np ls st w (.ref x) | some .null => wpLd go bc bs np ls st w .null | some (.retAddr x) => wpLd go bc bs np ls st w (.retAddr x) | _ => False)
  | .istore_n k => (match st with | .int x :: st => wpS1 M go bc bs np ls st w k (.int x) | _ => False)
  | .istore k => (match st with | .int x :: st => wpS1 M go bc bs np ls st w k (.int x) | _ => False)
  | .fstore k => (match st with | .float x :: st => wpS1 M go bc bs np ls st w k (.float x) | _ => False)
  | .dstore k => (match st with | .double x :: st => wpS2 M go bc bs np ls st w k (.double x) | _ => False)
  | .astore_n k => (match st with | .ref x :: st => wpS1 M go bc bs np ls st w k (.ref x) | .null :: st => wpS1 M go bc bs np ls st w k .null | .retAddr x :: st => wpS1 M go bc bs np ls st w k (.retAddr x) | _ => False)
  | .astore k => (match st with | .ref x :: st => wpS1 M go bc bs np ls st w k (.ref x) | .null :: st => wpS1 M go bc bs np ls st w k .null | .retAddr x :: st => wpS1 M go bc bs np ls st w k (.retAddr x) | _ => False)
  | .iinc k n => (match gtL ls k with | some (.int x) => wpS1 M go bc bs np ls st w k (.int (x + Int32.ofInt n)) | _ => False)
  | .iadd => (match st with | .int y :: .int x :: st => wpLd go bc bs np ls st w (.int (x + y)) | _ => False)
  | .isub => (match st with | .int y :: .int x :: st => wpLd go bc bs np ls st w (.int (x - y)) | _ => False)
  | .imul => (match st with | .int y :: .int x :: st => wpLd go bc bs np ls st w (.int (x * y)) | _ => False)
  | .iand => (match st with | .int y :: .int x :: st => wpLd go bc bs np ls st w (.int (x &&& y)) | _ => False)
  | .ior => (match st with | .int y :: .int x :: st => wpLd go bc bs np ls st w (.int (x ||| y)) | _ => False)
  | .ixor => (match st with | .int y :: .int x :: st => wpLd go bc bs np ls st w (.int (x ^^^ y)) | _ => False)
  | .ishl => (match st with | .int y :: .int x :: st => wpLd go bc bs np ls st w (.int (x <<< (y &&& 31))) | _ => False)
  | .ishr => (match st with | .int y :: .int x :: st => wpLd go bc bs np ls st w (.int (x >>> (y &&& 31))) | _ => False)
  | .idiv => (match st with | .int y :: .int x :: st => ¬ y = 0 ∧ wpLd go bc bs np ls st w (.int (x / y)) | _ => False)
  | .irem => (match st with | .int y :: .int x :: st => ¬ y = 0 ∧ wpLd go bc bs np ls st w (.int (x - x / y * y)) | _ => False)
  | .ineg => (match st with | .int x :: st => wpLd go bc bs np ls st w (.int (-x)) | _ => False)
  | .i2l => (match st with | .int x :: st => wpLd go bc bs np ls st w (.long x.toInt64) | _ => False)
  | .i2b => (match st with | .int x :: st => wpLd go bc bs np ls st w (.int x.toInt8.toInt32) | _ => False)
  | .i2c => (match st with | .int x :: st => wpLd go bc bs np ls st w (.int (x.toUInt32 % 65536).toInt32) | _ => False)
  | .i2d => (match st with | .int x :: st => wpLd go bc bs np ls st w (.double (FP.i2d x)) | _ => False)
  | .i2f => (match st with | .int x :: st => wpLd go bc bs np ls st w (.float (FP.i2f x)) | _ => False)
  | .f2d => (match st with | .float x :: st => vf_n64 (FP.f2d x) ∧ wpLd go bc bs np ls st w (.double (FP.f2d x)) | _ => False)
  | .ddiv => (match st with | .double y :: .double x :: st => vf_n64 (FP.ddiv x y) ∧ wpLd go bc bs np ls st w (.double (FP.ddiv x y)) | _ => False)
  | .fdiv => (match st with | .float y :: .float x :: st => vf_n32 (FP.fdiv x y) ∧ wpLd go bc bs np ls st w (.float (FP.fdiv x y)) | _ => False)
  | .lcmp => (match st with | .long y :: .long x :: st => wpLd go bc bs np ls st w (.int (lg_cmp x y)) | _ => False)
  | .dcmp op => (match st with | .double y :: .double x :: st => wpLd go bc bs np ls st w (.int (Op.cmpValue (FP.dcmp x y) op)) | _ => False)
  | .fcmp op => (match st with | .float y :: .float x :: st => wpLd go bc bs np ls st w (.int (Op.cmpValue (FP.fcmp x y) op)) | _ => False)
  | .dup => (match st with
    | .ref x :: st => go bc bs np ls (.ref x :: .ref x :: st) w
    | .int x :: st => go bc bs np ls (.int x :: .int x :: st) w
    | _ => False)
  | .dup2 => (match st with
    | .int y :: .ref x :: st => go bc bs np ls (.int y :: .ref x :: .int y :: .ref x :: st) w
    | _ => False)
  | .dup_x1 => (match st with
    | .int y :: .ref x :: st => go bc bs np ls (.int y :: .ref x :: .int y :: st) w
    | _ => False)
  | .pop => (match st with
    | .ref x :: st => go bc bs np ls st w
    | .int x :: st => go bc bs np ls st w
    | _ => False)
  | .goto _ => go bc bs tg ls st w
  | .ifCond c _ => (match st with | .int x :: st => (cI c x 0 → go bc bs tg ls st w) ∧ (cN c x 0 → go bc bs np ls st w) | _ => False)
  | .if_icmp c _ => (match st with | .int y :: .int x :: st => (cI c x y → go bc bs tg ls st w) ∧ (cN c x y → go bc bs np ls st w) | _ => False)
  | .ifnonnull _ => (match st with | .ref x :: st => go bc bs tg ls st w | .null :: st => go bc bs np ls st w | _ => False)
  | .ifnull _ => (match st with | .ref x :: st => go bc bs np ls st w | .null :: st => go bc bs tg ls st w | _ => False)
  | .if_acmp c _ => (match c, st with
    | .eq, .retAddr y :: .retAddr x :: st => (match Nat.ble 3 x, Nat.ble x 5, Nat.ble 3 y, Nat.ble y 5, Nat.beq x y with
      | true, true, true, true, true => go bc bs tg ls st w
      | true, true, true, true, false => go bc bs np ls st w
      | _, _, _, _, _ => False)
    | .ne, .retAddr y :: .retAddr x :: st => (match Nat.ble 3 x, Nat.ble x 5, Nat.ble 3 y, Nat.ble y 5, Nat.beq x y with
      | true, true, true, true, true => go bc bs np ls st w
      | true, true, true, true, false => go bc bs tg ls st w
      | _, _, _, _, _ => False)
    | _, _ => False)
  | .tableswitch _ _ _ _ => (match st with
    | .int x :: st => (match M.sw pc with
      | some (lo, ts, df) => ∃ t, swTo x lo ts df t ∧ go bc bs t ls st w
      | none => False)
    | _ => False)
  | .getfield k => (match M.cp.fld k, st with
    | some (ci, j, _), .ref a :: st => (match nth w a with
      | some (.inr (c2, fs)) => (match Nat.beq c2 ci with
        | true => (match nth fs j with
          | some v => wpLd go bc bs np ls st w v
          | none => False)
        | false => False)
      | _ => False)
    | _, _ => False)
  | .putfield k => (match M.cp.fld k, st with
    | some (ci, j, ty, fin), v :: .ref a :: st => (match fin && !M.ini with
      | true => False
      | false => (match ty, v with
        | .int, .int x => wpPut go bc bs np ls st w a ci j (.int x)
        | .object _, .ref x => wpPut go bc bs np ls st w a ci j (.ref x)
        | .object _, .null => wpPut go bc bs np ls st w a ci j .null
        | .array _, .ref x => wpPut go bc bs np ls st w a ci j (.ref x)
        | ty, .int x => narrow ty (.int x) = .int x ∧ fits ty (.int x) = true ∧ wpPut go bc bs np ls st w a ci j (.int x)
        | _, _ => False))
    | _, _ => False)
  | .getstatic k => (match M.cp.stc k with | some v => wpLd go bc bs np ls st w v | none => False)
  | .new k => (match M.cp.cls k with
    | some (.inl ci) => (match newF ci with
      | some (n, fs) => 1 ≤ bc ∧ n ≤ bs ∧ fN (lenL w) (fun q => fL (w ++ [.inr (ci, fs)]) (fun w => go (bc - 1) (bs - n) np ls (.ref q :: st) w))
      | none => False)
    | some (.inr x) => (match st with
      | [] => 6 ≤ d ∧ 1 ≤ bc ∧ 6 ≤ bs ∧ KX x w
      | _ => False)
    | none => False)
  | .newarray t => (match st with
    | .int n :: st => (match t with
      | .int => wpNewA go bc bs np ls st w 0 n (fun n => .inl (0, n, .inl (fun _ => 0)))
      | .boolean => wpNewA go bc bs np ls st w 1 n (fun n => .inl (1, n, .inl (fun _ => 0)))
      | .char => wpNewA go bc bs np ls st w 2 n (fun n => .inl (2, n, .inl (fun _ => 0)))
      | .byte => wpNewA go bc bs np ls st w 3 n (fun n => .inl (3, n, .inl (fun _ => 0)))
      | .long => wpNewA go bc bs np ls st w 4 n (fun n => .inl (4, n, .inr (.inl (fun _ => 0))))
      | .double => wpNewA go bc bs np ls st w 5 n (fun n => .inl (5, n, .inr (.inr (.inr (.inl (fun _ => 0))))))
      | _ => False)
    | _ => False)
  | .anewarray k => (match M.cp.cls k, st with
    | some (.inl 4), .int n :: st => wpNewA go bc bs np ls st w 6 n (fun n => .inl (6, n, .inr (.inr (.inr (.inr (fun _ => none))))))
    | _, _ => False)
  | .arraylength => (match st with
    | .ref a :: st => (match nth w a with
      | some (.inl (_, n, _)) => wpLd go bc bs np ls st w (.int (nI n))
      | _ => False)
    | .retAddr j :: st => (match stF G j with
      | some (_, n, _) => wpLd go bc bs np ls st w (.int (nI n))
      | none => False)
    | _ => False)
  | .iaload => (match st with
    | .int i :: .ref a :: st => (match nth w a with
      | some (.inl (0, n, .inl f)) => vp_in i n ∧ wpLd go bc bs np ls st w (.int (f i.toNatClampNeg))
      | _ => False)
    | .int i :: .retAddr j :: st => (match stF G j with
      | some (0, n, f) => vp_in i n ∧ wpLd go bc bs np ls st w (.int (f i.toNatClampNeg))
      | _ => False)
    | _ => False)
  | .baload => (match st with
    | .int i :: .ref a :: st => (match nth w a with
      | some (.inl (1, n, .inl f)) => vp_in i n ∧ wpLd go bc bs np ls st w (.int (f i.toNatClampNeg))
      | some (.inl (3, n, .inl f)) => vp_in i n ∧ wpLd go bc bs np ls st w (.int (f i.toNatClampNeg))
      | _ => False)
    | .int i :: .retAddr j :: st => (match stF G j with
      | some (3, n, f) => vp_in i n ∧ wpLd go bc bs np ls st w (.int (f i.toNatClampNeg))
      | _ => False)
    | _ => False)
  | .caload => (match st with
    | .int i :: .ref a :: st => (match nth w a with
      | some (.inl (2, n, .inl f)) => vp_in i n ∧ wpLd go bc bs np ls st w (.int (f i.toNatClampNeg))
      | _ => False)
    | _ => False)
  | .laload => (match st with
    | .int i :: .ref a :: st => (match nth w a with
      | some (.inl (4, n, .inr (.inl f))) => vp_in i n ∧ wpLd go bc bs np ls st w (.long (f i.toNatClampNeg))
      | _ => False)
    | _ => False)
  | .daload => (match st with
    | .int i :: .ref a :: st => (match nth w a with
      | some (.inl (5, n, .inr (.inr (.inr (.inl f))))) => vp_in i n ∧ wpLd go bc bs np ls st w (.double (f i.toNatClampNeg))
      | _ => False)
    | _ => False)
  | .aaload => (match st with
    | .int i :: .ref a :: st => (match nth w a with
      | some (.inl (6, n, .inr (.inr (.inr (.inr f))))) => vp_in i n ∧ (match f i.toNatClampNeg with
        | none => wpLd go bc bs np ls st w .null
        | some x => wpLd go bc bs np ls st w (.ref x))
      | _ => False)
    | _ => False)
  | .iastore => (match st with
    | .int x :: .int i :: .ref a :: st => (match nth w a with
      | some (.inl (0, n, .inl f)) => vp_in i n ∧ fL (stN w a (.inl (0, n, .inl (upd f i.toNatClampNeg x)))) (fun w => go bc bs np ls st w)
      | _ => False)
    | _ => False)
  | .bastore => (match st with
    | .int x :: .int i :: .ref a :: st => (match nth w a with
      | some (.inl (1, n, .inl f)) => vp_in i n ∧ fL (stN w a (.inl (1, n, .inl (upd f i.toNatClampNeg (vp_nar .boolean x))))) (fun w => go bc bs np ls st w)
      | some (.inl (3, n, .inl f)) => vp_in i n ∧ fL (stN w a (.inl (3, n, .inl (upd f i.toNatClampNeg (vp_nar .byte x))))) (fun w => go bc bs np ls st w)
      | _ => False)
    | _ => False)
  | .castore => (match st with
    | .int x :: .int i :: .ref a :: st => (match nth w a with
      | some (.inl (2, n, .inl f)) => vp_in i n ∧ fL (stN w a (.inl (2, n, .inl (upd f i.toNatClampNeg (vp_nar .char x))))) (fun w => go bc bs np ls st w)
      | _ => False)
    | _ => False)
  | .lastore => (match st with
    | .long x :: .int i :: .ref a :: st => (match nth w a with
      | some (.inl (4, n, .inr (.inl f))) => vp_in i n ∧ fL (stN w a (.inl (4, n, .inr (.inl (vp_updL f i.toNatClampNeg x))))) (fun w => go bc bs np ls st w)
      | _ => False)
    | _ => False)
  | .dastore => (match st with
    | .double x :: .int i :: .ref a :: st => (match nth w a with
      | some (.inl (5, n, .inr (.inr (.inr (.inl f))))) => vp_in i n ∧ fL (stN w a (.inl (5, n, .inr (.inr (.inr (.inl (vf_upd f i.toNatClampNeg x))))))) (fun w => go bc bs np ls st w)
      | _ => False)
    | _ => False)
  | .aastore => (match st with
    | .ref x :: .int i :: .ref a :: st => (match nth w a, nth w x with
      | some (.inl (6, n, .inr (.inr (.inr (.inr f))))), some (.inr (4, _)) => vp_in i n ∧ fL (stN w a (.inl (6, n, .inr (.inr (.inr (.inr (va_up f i.toNatClampNeg (some x)))))))) (fun w => go bc bs np ls st w)
      | _, _ => False)
    | _ => False)
  | .invokevirtual k => (match M.cp.mth k with
    | some (0, m, ci) => wpKV G M d K go bc bs np ls st w m ci
    | some (9, m, ci) => wpKU G d go bc bs np ls st w m
    | _ => False)
  | .invokestatic k => (match M.cp.mth k with
    | some (1, m, ci) => wpKS G d go bc bs np ls st w m
    | some (3, m, ci) => wpKS G d go bc bs np ls st w m
    | some (6, m, ci) => wpKX d go bc bs np ls st w
    | some (7, m, ci) => wpKM d go bc bs np ls st w
    | some (8, m, ci) => wpKC d go bc bs np ls st w
    | some (11, m, ci) => wpKS G d go bc bs np ls st w m
    | _ => False)
  | .invokespecial k => (match M.cp.mth k with
    | some (2, m, ci) => wpKI G d go bc bs np ls st w m
    | some (4, m, ci) => wpKI G d go bc bs np ls st w m
    | some (5, m, ci) => wpKO d go bc bs np ls st w
    | some (10, m, ci) => wpKU G d go bc bs np ls st w m
    | _ => False)
  | .ireturn => (match st with
    | [.int x] => (match M.m.ret with
      | some .int => K (some (.int x)) w
      | some ty => narrow ty (.int x) = .int x ∧ K (some (.int x)) w
      | none => False)
    | _ => False)
  | .areturn => (match st with
    | [.ref x] => K (some (.ref x)) w
    | [.retAddr x] => K (some (.retAddr x)) w
    | _ => False)
  | .dreturn => (match st with | [.double x] => K (some (.double x)) w | _ => False)
  | .freturn => (match st with | [.float x] => K (some (.float x)) w | _ => False)
  | .return_ => (match st with | [] => K none w | _ => False)
  | _ => False
def wp : Nat → Nat → Nat → Nat → List (Option Value) → List Value → xW → Prop
  | 0, bc, bs, pc, ls, st, w => AW G M d bc bs pc ls st w K KX
  | n + 1, bc, bs, pc, ls, st, w => (match M.cd pc with
    | some (i, np, tg) => wpI G M d K KX (wpG G M cut d K KX (wp n)) bc bs pc ls st w i np tg
    | none => False)
end WPS
