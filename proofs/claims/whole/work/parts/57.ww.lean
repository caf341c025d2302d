/-! ===== the class's whole world, with a tail that is not known ===== -/
def plgs {α : Type} : List Nat → List α → List α → List α
  | [], [], w => w
  | [], x :: xs, w => w ++ (x :: xs)
  | _ :: _, [], w => w
  | a :: p, x :: xs, w => plgs p xs (stN w a x)
theorem plgs_eq {α : Type} : ∀ (p : List Nat) (xs w : List α), plgs p xs w = plg p xs w
  | [], [], w => (List.append_nil w).symm
  | [], _ :: _, _ => rfl
  | _ :: _, [], _ => rfl
  | a :: p, x :: xs, w => plgs_eq p xs (stN w a x)
/-- the first n cells made plain, the rest as it is -/
def fWn : Nat → xW → (xW → Prop) → Prop
  | 0, l, k => k l
  | _ + 1, [], k => k []
  | n + 1, e :: l, k => fWn n l (fun l' => k (e :: l'))
theorem fWn_eq : ∀ (n : Nat) (l : xW) (k : xW → Prop), fWn n l k = k l
  | 0, _, _ => rfl
  | _ + 1, [], _ => rfl
  | n + 1, e :: l, k => by
    unfold fWn
    rw [fWn_eq n l]
def wpN (n : Nat) (go : recT) (np : Nat) (ls : List (Option Value)) (rest : List Value) (bc bs : Nat) (v : Option Value) (w : xW) : Prop := match v with
  | none => fWn n w (fun w => go bc bs np ls rest w)
  | some v => fV v (fun v => fWn n w (fun w => go bc bs np ls (v :: rest) w))
theorem wpN_eq {n : Nat} {go : recT} {np : Nat} {ls : List (Option Value)} {rest : List Value} {bc bs : Nat} {v : Option Value} {w : xW} (h : wpN n go np ls rest bc bs v w) : wpC go np ls rest bc bs v w := by
  cases v with
  | none =>
    unfold wpN at h
    unfold wpC
    simp only [fW_eq, fWn_eq] at h ⊢
    exact h
  | some v =>
    unfold wpN at h
    unfold wpC
    simp only [fV_eq, fW_eq, fWn_eq] at h ⊢
    exact h
section TC
variable {G : gT} {d d' bc bs mc ms np : Nat} {as as0 : List Value} {w w0 : xW} {K0 : Option Value → xW → Prop} {KX0 KXc : Nat → xW → Prop} {m : m0T} {go : recT} {ls : List (Option Value)} {rest : List Value}
set_option maxRecDepth 20000 in
theorem ccn (n : Nat) (p : List Nat) (h : Spec G d' mc ms m as0 w0 K0 NX) (hd : d' < d) (hc : mc ≤ bc) (hs : ms ≤ bs) (hn : va_nd p = true) (hsel : selW p (lenL w) w p w0) (ha : as = renVs p (lenL w) as0)
    (hK : ∀ v w', K0 v w' → wpN n go np ls rest (bc - mc) (bs - ms) (renO p (lenL w) v) (plgs p (renW p (lenL w) w') w)) : CallC G d bc bs m as w (wpC go np ls rest) KXc :=
  cc0 p h hd hc hs hn hsel ha (fun v w' k => by
    have := wpN_eq (hK v w' k)
    rw [plgs_eq] at this
    exact this)
set_option maxRecDepth 20000 in
theorem cci (n : Nat) (h : Spec G d' mc ms m as0 w0 K0 KX0) (hd : d' < d) (hc : mc ≤ bc) (hs : ms ≤ bs) (hw : w = w0) (ha : as = as0)
    (hK : ∀ v w', K0 v w' → wpN n go np ls rest (bc - mc) (bs - ms) v w') (hX : ∀ x w', KX0 x w' → KXc x w') : CallC G d bc bs m as w (wpC go np ls rest) KXc := by
  subst hw ha
  exact ⟨d', mc, ms, hd, hc, hs, Spec.mono h (fun v w' k => wpN_eq (hK v w' k)) hX⟩
end TC
abbrev hT : Type := Nat × Nat × (Nat → Option Nat)
abbrev xT : Type := Nat × (Nat → Int32) × (Nat → Int32) × Nat × Nat
abbrev pT7 : Type := (Nat → Int32) × (Int32 × Int32 × Int32) × (Nat → Int32) × (Nat → Int32) × (Nat → Int32)
abbrev sT4 : Type := Nat × Nat × Int32 × (Nat → Int32)
/-- the class's object and all that it made in its constructor, then a tail -/
def ww (F E : fT) (H : hT) (r : Int32 × Int32) (X : xT) (ht : Nat → Int32) (P : pT7) (S : sT4) (sd : Value) (er : Int32) (t : xW) : xW :=
  .inr (11, [.ref 1, .ref 8, .ref 15, .ref 17, .ref 18, .ref 22, .ref 24, .ref 29, sd, .int er]) ::
  .inr (4, [.ref 2, .ref 4, .ref 6, .int F.h, .int F.p, .int F.br, .int F.lo, .int F.ld, .int F.hr, .int F.po]) :: .inr (9, [.int (nI 8), .int (nI 2), .ref 3, .int (nI F.M.1)]) :: .inl (0, 8 * 2, .inl F.M.2) :: .inr (9, [.int (nI 4), .int (nI 1), .ref 5, .int (nI F.R.1)]) :: .inl (0, 4 * 1, .inl F.R.2) :: .inr (9, [.int (nI 12), .int (nI 8), .ref 7, .int (nI F.B.1)]) :: .inl (0, 12 * 8, .inl F.B.2) ::
  .inr (4, [.ref 9, .ref 11, .ref 13, .int E.h, .int E.p, .int E.br, .int E.lo, .int E.ld, .int E.hr, .int E.po]) :: .inr (9, [.int (nI 8), .int (nI 2), .ref 10, .int (nI E.M.1)]) :: .inl (0, 8 * 2, .inl E.M.2) :: .inr (9, [.int (nI 4), .int (nI 1), .ref 12, .int (nI E.R.1)]) :: .inl (0, 4 * 1, .inl E.R.2) :: .inr (9, [.int (nI 12), .int (nI 8), .ref 14, .int (nI E.B.1)]) :: .inl (0, 12 * 8, .inl E.B.2) ::
  .inr (6, [.ref 16, .int (nI H.1), .int (nI H.2.1)]) :: .inl (6, 8, .inr (.inr (.inr (.inr H.2.2)))) ::
  .inr (8, [.int r.1, .int r.2]) ::
  .inr (10, [.ref 19, .ref 21, .int (nI X.2.2.2.1), .int (nI X.2.2.2.2)]) :: .inr (9, [.int (nI 21), .int (nI 3), .ref 20, .int (nI X.1)]) :: .inl (0, 21 * 3, .inl X.2.1) :: .inl (2, 60, .inl X.2.2.1) ::
  .inr (5, [.ref 23]) :: .inl (1, 113, .inl ht) ::
  .inr (7, [.ref 25, .int P.2.1.1, .int P.2.1.2.1, .int P.2.1.2.2, .ref 26, .ref 27, .ref 28]) :: .inl (0, 8, .inl P.1) :: .inl (0, 256, .inl P.2.2.1) :: .inl (0, 256, .inl P.2.2.2.1) :: .inl (0, 256, .inl P.2.2.2.2) ::
  .inr (1, [.ref S.1, .int 0, .int S.2.2.1, .int (nI S.2.1)]) :: .inl (3, 16, .inl S.2.2.2) :: t
abbrev f00 : fT := fmk (0, fun _ => 0) (0, fun _ => 0) (0, fun _ => 0) (nI 20) (nI 0) (nI 0) (nI 0) (nI 0) (nI 0) (nI 0)
section BC
variable {G : gT}
set_option maxRecDepth 20000 in
theorem be_init (hg : gOK G) : Spec G 5 31 1500 m_X8_init [.ref 0] [.inr (11, [.null, .null, .null, .null, .null, .null, .null, .null, .null, .int 0])] (fun v w' => v = none ∧ w' = ww f00 f00 (0, 0, fun _ => none) (nI 0, nI 0) (0, (fun _ => 0), (fun _ => 0), 0, 0) (fun _ => 0) ((fun _ => 0), (nI 0, nI 0, nI 0), (fun _ => 0), (fun _ => 0), (fun _ => 0)) (30, 0, 0, fun _ => 0) .null (-1) []) NX := by
  refine wp_spec (M := M_X8_init) hg ok_X8_init cut0 60 rfl rfl ?_
  repeat' (first | refine And.intro ?_ ?_ | (with_reducible intro h9; exact absurd h9 (by simp only [cI, cN]; decide +kernel)) | with_reducible intro _ | exact (rfl : narrow _ _ = _) | decide | (unfold vp_in; decide))
  refine cc0 [1] (fd_init hg) (by decide) (by decide) (by decide) rfl (by repeat' (first | exact trivial | refine And.intro ?_ ?_ | rfl)) (by first | rfl | (simp (discharger := omega) only [renVs, renV, rnI, cI, cN, ← nI_0, nI_ltI, nI_leI, nI_eq, nI_add, pk_mul, pk_sub, nI_clamp, vinI, not_true_eq_false, not_false_eq_true, iK0, iK1, iK2, iK3, iK4, iK5, iKm1, bK6, bK7, bK8, bK9, bK10, bK12, bK14, bK15, bK16, bK20, bK21, bK26, bK30, bK32, bK33, bK45, bK48, bK57, bK59, bK60, bK62, bK63, bK64, bK80, bK93, bK98, bK99, bK100, bK104, bK107, bK109, bK110, bK112, bK113, bK114, bK115, bK116, bK119, sK255, sK256, sK500, sK700, sK798, sK912, sK1400, sK2000])) ?_
  (rintro _ _ ⟨rfl, rfl⟩) <;> (repeat' (first | refine And.intro ?_ ?_ | (with_reducible intro h9; exact absurd h9 (by simp only [cI, cN]; decide +kernel)) | with_reducible intro _ | exact (rfl : narrow _ _ = _) | decide | (unfold vp_in; decide)))
  refine cc0 [8] (fd_init hg) (by decide) (by decide) (by decide) rfl (by repeat' (first | exact trivial | refine And.intro ?_ ?_ | rfl)) (by first | rfl | (simp (discharger := omega) only [renVs, renV, rnI, cI, cN, ← nI_0, nI_ltI, nI_leI, nI_eq, nI_add, pk_mul, pk_sub, nI_clamp, vinI, not_true_eq_false, not_false_eq_true, iK0, iK1, iK2, iK3, iK4, iK5, iKm1, bK6, bK7, bK8, bK9, bK10, bK12, bK14, bK15, bK16, bK20, bK21, bK26, bK30, bK32, bK33, bK45, bK48, bK57, bK59, bK60, bK62, bK63, bK64, bK80, bK93, bK98, bK99, bK100, bK104, bK107, bK109, bK110, bK112, bK113, bK114, bK115, bK116, bK119, sK255, sK256, sK500, sK700, sK798, sK912, sK1400, sK2000])) ?_
  (rintro _ _ ⟨rfl, rfl⟩) <;> (repeat' (first | refine And.intro ?_ ?_ | (with_reducible intro h9; exact absurd h9 (by simp only [cI, cN]; decide +kernel)) | with_reducible intro _ | exact (rfl : narrow _ _ = _) | decide | (unfold vp_in; decide)))
  refine cc0 [15] (hi_init hg) (by decide) (by decide) (by decide) rfl (by repeat' (first | exact trivial | refine And.intro ?_ ?_ | rfl)) (by first | rfl | (simp (discharger := omega) only [renVs, renV, rnI, cI, cN, ← nI_0, nI_ltI, nI_leI, nI_eq, nI_add, pk_mul, pk_sub, nI_clamp, vinI, not_true_eq_false, not_false_eq_true, iK0, iK1, iK2, iK3, iK4, iK5, iKm1, bK6, bK7, bK8, bK9, bK10, bK12, bK14, bK15, bK16, bK20, bK21, bK26, bK30, bK32, bK33, bK45, bK48, bK57, bK59, bK60, bK62, bK63, bK64, bK80, bK93, bK98, bK99, bK100, bK104, bK107, bK109, bK110, bK112, bK113, bK114, bK115, bK116, bK119, sK255, sK256, sK500, sK700, sK798, sK912, sK1400, sK2000])) ?_
  (rintro _ _ ⟨rfl, rfl⟩) <;> (repeat' (first | refine And.intro ?_ ?_ | (with_reducible intro h9; exact absurd h9 (by simp only [cI, cN]; decide +kernel)) | with_reducible intro _ | exact (rfl : narrow _ _ = _) | decide | (unfold vp_in; decide)))
  refine cc0 [17] (rf_init hg) (by decide) (by decide) (by decide) rfl (by repeat' (first | exact trivial | refine And.intro ?_ ?_ | rfl)) (by first | rfl | (simp (discharger := omega) only [renVs, renV, rnI, cI, cN, ← nI_0, nI_ltI, nI_leI, nI_eq, nI_add, pk_mul, pk_sub, nI_clamp, vinI, not_true_eq_false, not_false_eq_true, iK0, iK1, iK2, iK3, iK4, iK5, iKm1, bK6, bK7, bK8, bK9, bK10, bK12, bK14, bK15, bK16, bK20, bK21, bK26, bK30, bK32, bK33, bK45, bK48, bK57, bK59, bK60, bK62, bK63, bK64, bK80, bK93, bK98, bK99, bK100, bK104, bK107, bK109, bK110, bK112, bK113, bK114, bK115, bK116, bK119, sK255, sK256, sK500, sK700, sK798, sK912, sK1400, sK2000])) ?_
  (rintro _ _ ⟨rfl, rfl⟩) <;> (repeat' (first | refine And.intro ?_ ?_ | (with_reducible intro h9; exact absurd h9 (by simp only [cI, cN]; decide +kernel)) | with_reducible intro _ | exact (rfl : narrow _ _ = _) | decide | (unfold vp_in; decide)))
  refine cc0 [18] (tx_init hg) (by decide) (by decide) (by decide) rfl (by repeat' (first | exact trivial | refine And.intro ?_ ?_ | rfl)) (by first | rfl | (simp (discharger := omega) only [renVs, renV, rnI, cI, cN, ← nI_0, nI_ltI, nI_leI, nI_eq, nI_add, pk_mul, pk_sub, nI_clamp, vinI, not_true_eq_false, not_false_eq_true, iK0, iK1, iK2, iK3, iK4, iK5, iKm1, bK6, bK7, bK8, bK9, bK10, bK12, bK14, bK15, bK16, bK20, bK21, bK26, bK30, bK32, bK33, bK45, bK48, bK57, bK59, bK60, bK62, bK63, bK64, bK80, bK93, bK98, bK99, bK100, bK104, bK107, bK109, bK110, bK112, bK113, bK114, bK115, bK116, bK119, sK255, sK256, sK500, sK700, sK798, sK912, sK1400, sK2000])) ?_
  (rintro _ _ ⟨rfl, rfl⟩) <;> (repeat' (first | refine And.intro ?_ ?_ | (with_reducible intro h9; exact absurd h9 (by simp only [cI, cN]; decide +kernel)) | with_reducible intro _ | exact (rfl : narrow _ _ = _) | decide | (unfold vp_in; decide)))
  refine cc0 [22] (hl_init hg) (by decide) (by decide) (by decide) rfl (by repeat' (first | exact trivial | refine And.intro ?_ ?_ | rfl)) (by first | rfl | (simp (discharger := omega) only [renVs, renV, rnI, cI, cN, ← nI_0, nI_ltI, nI_leI, nI_eq, nI_add, pk_mul, pk_sub, nI_clamp, vinI, not_true_eq_false, not_false_eq_true, iK0, iK1, iK2, iK3, iK4, iK5, iKm1, bK6, bK7, bK8, bK9, bK10, bK12, bK14, bK15, bK16, bK20, bK21, bK26, bK30, bK32, bK33, bK45, bK48, bK57, bK59, bK60, bK62, bK63, bK64, bK80, bK93, bK98, bK99, bK100, bK104, bK107, bK109, bK110, bK112, bK113, bK114, bK115, bK116, bK119, sK255, sK256, sK500, sK700, sK798, sK912, sK1400, sK2000])) ?_
  (rintro _ _ ⟨rfl, rfl⟩) <;> (repeat' (first | refine And.intro ?_ ?_ | (with_reducible intro h9; exact absurd h9 (by simp only [cI, cN]; decide +kernel)) | with_reducible intro _ | exact (rfl : narrow _ _ = _) | decide | (unfold vp_in; decide)))
  refine cc0 [24] (pr_init hg) (by decide) (by decide) (by decide) rfl (by repeat' (first | exact trivial | refine And.intro ?_ ?_ | rfl)) (by first | rfl | (simp (discharger := omega) only [renVs, renV, rnI, cI, cN, ← nI_0, nI_ltI, nI_leI, nI_eq, nI_add, pk_mul, pk_sub, nI_clamp, vinI, not_true_eq_false, not_false_eq_true, iK0, iK1, iK2, iK3, iK4, iK5, iKm1, bK6, bK7, bK8, bK9, bK10, bK12, bK14, bK15, bK16, bK20, bK21, bK26, bK30, bK32, bK33, bK45, bK48, bK57, bK59, bK60, bK62, bK63, bK64, bK80, bK93, bK98, bK99, bK100, bK104, bK107, bK109, bK110, bK112, bK113, bK114, bK115, bK116, bK119, sK255, sK256, sK500, sK700, sK798, sK912, sK1400, sK2000])) ?_
  (rintro _ _ ⟨rfl, rfl⟩) <;> (repeat' (first | refine And.intro ?_ ?_ | (with_reducible intro h9; exact absurd h9 (by simp only [cI, cN]; decide +kernel)) | with_reducible intro _ | exact (rfl : narrow _ _ = _) | decide | (unfold vp_in; decide)))
  refine cc0 [29] (sb_init hg) (by decide) (by decide) (by decide) rfl (by repeat' (first | exact trivial | refine And.intro ?_ ?_ | rfl)) (by first | rfl | (simp (discharger := omega) only [renVs, renV, rnI, cI, cN, ← nI_0, nI_ltI, nI_leI, nI_eq, nI_add, pk_mul, pk_sub, nI_clamp, vinI, not_true_eq_false, not_false_eq_true, iK0, iK1, iK2, iK3, iK4, iK5, iKm1, bK6, bK7, bK8, bK9, bK10, bK12, bK14, bK15, bK16, bK20, bK21, bK26, bK30, bK32, bK33, bK45, bK48, bK57, bK59, bK60, bK62, bK63, bK64, bK80, bK93, bK98, bK99, bK100, bK104, bK107, bK109, bK110, bK112, bK113, bK114, bK115, bK116, bK119, sK255, sK256, sK500, sK700, sK798, sK912, sK1400, sK2000])) ?_
  (rintro _ _ ⟨rfl, rfl⟩) <;> (repeat' (first | refine And.intro ?_ ?_ | (with_reducible intro h9; exact absurd h9 (by simp only [cI, cN]; decide +kernel)) | with_reducible intro _ | exact (rfl : narrow _ _ = _) | decide | (unfold vp_in; decide)))
  all_goals first | rfl | decide
end BC
