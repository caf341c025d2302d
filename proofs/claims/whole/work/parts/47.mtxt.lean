/-! ===== a text: its orders; the reference's reading of it ===== -/
abbrev orT : Type := Int32 × Nat × Nat
def txR (t : Nat → Int32) (n : Nat) : Nat → Nat → List orT → Option (List orT) × Nat
  | 0, a, _ => (none, a)
  | f + 1, a, L => match ordR t n a with
    | (none, e) => (none, e)
    | (some o, e) => if hre t n e = nI 59 then txR t n f (e + 1) (L ++ [o]) else if e = n then (some (L ++ [o]), e) else (none, e)
theorem numR_adv {t : Nat → Int32} {n a m v b : Nat} (hm : 0 < m) (h : numR t n a m = some (v, b)) : a + 1 ≤ b := by
  unfold numR at h
  split at h
  · rename_i q
    cases h
    obtain ⟨m, rfl⟩ : ∃ k, m = k + 1 := ⟨m - 1, by omega⟩
    unfold fgc
    rw [if_pos q]
    omega
  · cases h
theorem ord1_adv {t : Nat → Int32} {n a m e : Nat} {x : Int32} {o : orT} (hm : 0 < m) (h : ord1 t n a m x = (some o, e)) : a + 2 ≤ e := by
  unfold ord1 at h
  split at h
  · cases h
  · rename_i v b hb
    cases h
    have := numR_adv hm hb
    omega
theorem ord2_adv {t : Nat → Int32} {n a m e : Nat} {x s : Int32} {o : orT} (hm : 0 < m) (h : ord2 t n a m x s = (some o, e)) : a + 2 ≤ e := by
  unfold ord2 at h
  split at h
  · cases h
  · rename_i v b hb
    split at h
    · split at h
      · cases h
      · rename_i w c hc
        cases h
        have := numR_adv hm hb
        have := numR_adv (by omega) hc
        omega
    · cases h
theorem ordR_adv {t : Nat → Int32} {n a e : Nat} {o : orT} (h : ordR t n a = (some o, e)) : a + 2 ≤ e := by
  unfold ordR at h
  split at h
  · exact ord1_adv (by omega) h
  split at h
  · exact ord1_adv (by omega) h
  split at h
  · exact ord1_adv (by omega) h
  split at h
  · exact ord2_adv (by omega) h
  split at h
  · exact ord2_adv (by omega) h
  · cases h
/-- the orders stand among what is told -/
def tldO (td : Nat → Int32) (L : List orT) : Prop := ∀ (i : Nat) (o : orT), L[i]? = some o → td (3 * i) = o.1 ∧ td (3 * i + 1) = nI o.2.1 ∧ ((o.1 = nI 109 ∨ o.1 = nI 112) → td (3 * i + 2) = nI o.2.2)
theorem tldO_s {N : nT} {td : Nat → Int32} {L : List orT} {x : Int32} {v w : Nat} (h : tldO N.td L) (h2 : oOk N L.length x v w td) : tldO td (L ++ [(x, v, w)]) := by
  intro i o ho
  rcases Nat.lt_or_ge i L.length with z | z
  · rw [List.getElem?_append_left z] at ho
    obtain ⟨a, b, c⟩ := h i o ho
    refine ⟨by rw [h2.2.2.2 _ (by omega)]; exact a, by rw [h2.2.2.2 _ (by omega)]; exact b, fun q => by rw [h2.2.2.2 _ (by omega)]; exact c q⟩
  · rw [List.getElem?_append_right z] at ho
    have : i = L.length := by
      rcases Nat.lt_or_ge L.length i with y | y
      · rw [show i - L.length = (i - L.length - 1) + 1 by omega] at ho
        simp at ho
      · omega
    subst this
    simp at ho
    subst ho
    exact ⟨h2.1, h2.2.1, h2.2.2.1⟩
section NN
variable {G : gT}
/-- what isText answers -/
def txA (N : nT) (n : Nat) (R : Option (List orT) × Nat) (v : Option Value) (w' : xW) : Prop :=
  (∃ L e td, R = (some L, e) ∧ L.length ≤ 21 ∧ e = n ∧ v = some (.int (nI 1)) ∧ tldO td L ∧ w' = mw (((N.s_td td).s_ap (nI e)).s_tm (nI L.length))) ∨
  (∃ e td q, R = (none, e) ∧ v = some (.int (nI 0)) ∧ w' = mw (((N.s_td td).s_ap (nI e)).s_tm (nI q)))
set_option maxRecDepth 20000 in
theorem md_text_l (hg : gOK G) (N : nT) (n : Nat) (hn : N.ln = nI n) (hn6 : n ≤ 60) (R : Option (List orT) × Nat) {K : Option Value → xW → Prop} {KX : Nat → xW → Prop} (hK : ∀ v w', txA N n R v w' → K v w') : ∀ (f a : Nat) (L : List orT) (td : Nat → Int32) (ha : a ≤ n) (hq : 3 * L.length ≤ a) (hf : f + L.length = 21) (htd : tldO td L) (hR : txR N.ip n f a L = R),
    AW G M_X9_isText 4 0 0 10 [some (.ref 0)] [] (mw (((N.s_td td).s_ap (nI a)).s_tm (nI L.length))) K KX
  | 0, a, L, td, ha, hq, hf, htd, hR => by omega
  | f + 1, a, L, td, ha, hq, hf, htd, hR => by
    have hrd : (((N.s_td td).s_ap (nI a)).s_tm (nI L.length)).rd n a := ⟨hn, hn6, rfl, ha⟩
    refine wp_ok (M := M_X9_isText) hg ok_X9_isText (lkp [(10, [true])]) 60 _ _ _ _ _ _ ?_
    repeat' (first | refine And.intro ?_ ?_ | (with_reducible intro h9; exact absurd h9 (by simp only [cI, cN]; decide +kernel)) | with_reducible intro _ | exact (rfl : narrow _ _ = _) | decide | (unfold vp_in; decide))
    refine cc0 [0, 1, 2, 3, 4, 5, 6, 7, 8] (md_ord hg (((N.s_td td).s_ap (nI a)).s_tm (nI L.length)) n a L.length hrd rfl (by omega)) (by decide) (by decide) (by decide) rfl (by repeat' (first | exact trivial | refine And.intro ?_ ?_ | rfl)) (by first | rfl | (simp (discharger := omega) only [renVs, renV, rnI, cI, cN, ← nI_0, nI_ltI, nI_leI, nI_eq, nI_add, pk_mul, pk_sub, nI_clamp, vinI, not_true_eq_false, not_false_eq_true, iK0, iK1, iK2, iK3, iK4, iK5, iKm1, bK6, bK7, bK8, bK9, bK10, bK12, bK14, bK15, bK16, bK20, bK21, bK26, bK30, bK32, bK33, bK45, bK48, bK57, bK59, bK60, bK62, bK63, bK64, bK80, bK93, bK98, bK99, bK100, bK104, bK107, bK109, bK110, bK112, bK113, bK114, bK115, bK116, bK119, sK255, sK256, sK500, sK700, sK798, sK912, sK1400, sK2000])) ?_
    (rintro _ _ (⟨x, v, w, e, td2, ho, he, rfl, hok, rfl⟩ | ⟨e, td2, ho, rfl, hs, rfl⟩)) <;> (repeat' (first | refine And.intro ?_ ?_ | (with_reducible intro h9; exact absurd h9 (by simp only [cI, cN]; decide +kernel)) | with_reducible intro _ | exact (rfl : narrow _ _ = _) | decide | (unfold vp_in; decide)))
    · have ho' : ordR N.ip n a = (some (x, v, w), e) := ho
      have hadv := ordR_adv ho'
      have htd2 : tldO td2 (L ++ [(x, v, w)]) := tldO_s (N := ((N.s_td td).s_ap (nI a)).s_tm (nI L.length)) htd hok
      have hR2 : txR N.ip n (f + 1) a L = (if hre N.ip n e = nI 59 then txR N.ip n f (e + 1) (L ++ [(x, v, w)]) else if e = n then (some (L ++ [(x, v, w)]), e) else (none, e)) := by
        show (match ordR N.ip n a with | (none, e) => (none, e) | (some o, e) => if hre N.ip n e = nI 59 then txR N.ip n f (e + 1) (L ++ [o]) else if e = n then (some (L ++ [o]), e) else (none, e)) = _
        rw [ho']
      rw [hR] at hR2
      have hl : (L ++ [(x, v, w)]).length = L.length + 1 := by simp
      refine cc0 [0, 1, 2, 3, 4, 5, 6, 7, 8] (md_skips hg ((((N.s_td td2).s_ap (nI e)).s_tm (nI L.length + Int32.ofInt 1))) n e ⟨hn, hn6, rfl, he⟩ (nI 59) (by decide)) (by decide) (by decide) (by decide) rfl (by repeat' (first | exact trivial | refine And.intro ?_ ?_ | rfl)) (by first | rfl | (simp (discharger := omega) only [renVs, renV, rnI, cI, cN, ← nI_0, nI_ltI, nI_leI, nI_eq, nI_add, pk_mul, pk_sub, nI_clamp, vinI, not_true_eq_false, not_false_eq_true, iK0, iK1, iK2, iK3, iK4, iK5, iKm1, bK6, bK7, bK8, bK9, bK10, bK12, bK14, bK15, bK16, bK20, bK21, bK26, bK30, bK32, bK33, bK45, bK48, bK57, bK59, bK60, bK62, bK63, bK64, bK80, bK93, bK98, bK99, bK100, bK104, bK107, bK109, bK110, bK112, bK113, bK114, bK115, bK116, bK119, sK255, sK256, sK500, sK700, sK798, sK912, sK1400, sK2000])) ?_
      (rintro _ _ (⟨g, hlt, rfl, rfl⟩ | ⟨g, rfl, rfl⟩)) <;> (repeat' (first | refine And.intro ?_ ?_ | (with_reducible intro h9; exact absurd h9 (by simp only [cI, cN]; decide +kernel)) | with_reducible intro _ | exact (rfl : narrow _ _ = _) | decide | (unfold vp_in; decide)))
      · have g' : hre N.ip n e = nI 59 := g
        rw [if_pos g'] at hR2
        refine AW.cg (md_text_l hg N n hn hn6 R hK f (e + 1) (L ++ [(x, v, w)]) td2 hlt (by rw [hl]; omega) (by rw [hl]; omega) htd2 hR2.symm) rfl rfl rfl (by first | rfl | (simp (discharger := omega) only [msk, clr_i, clr_r, cI, cN, ← nI_0, nI_ltI, nI_leI, nI_eq, nI_add, pk_mul, pk_sub, nI_clamp, vinI, not_true_eq_false, not_false_eq_true, iK0, iK1, iK2, iK3, iK4, iK5, iKm1, bK6, bK7, bK8, bK9, bK10, bK12, bK14, bK15, bK16, bK20, bK21, bK26, bK30, bK32, bK33, bK45, bK48, bK57, bK59, bK60, bK62, bK63, bK64, bK80, bK93, bK98, bK99, bK100, bK104, bK107, bK109, bK110, bK112, bK113, bK114, bK115, bK116, bK119, sK255, sK256, sK500, sK700, sK798, sK912, sK1400, sK2000]; done) | (simp (discharger := omega) only [msk, clr_i, clr_r, cI, cN, ← nI_0, nI_ltI, nI_leI, nI_eq, nI_add, pk_mul, pk_sub, nI_clamp, vinI, not_true_eq_false, not_false_eq_true, iK0, iK1, iK2, iK3, iK4, iK5, iKm1, bK6, bK7, bK8, bK9, bK10, bK12, bK14, bK15, bK16, bK20, bK21, bK26, bK30, bK32, bK33, bK45, bK48, bK57, bK59, bK60, bK62, bK63, bK64, bK80, bK93, bK98, bK99, bK100, bK104, bK107, bK109, bK110, bK112, bK113, bK114, bK115, bK116, bK119, sK255, sK256, sK500, sK700, sK798, sK912, sK1400, sK2000]; rfl)) rfl ?_
        rw [hl, ← nI_add L.length 1]
        rfl
      · have g' : ¬ hre N.ip n e = nI 59 := g
        rename_i g9
        rw [if_neg g'] at hR2
        replace g9 : ¬ nI e = N.ln := g9
        rw [hn, nI_eq (by omega) (by omega)] at g9
        rw [if_neg g9] at hR2
        refine hK _ _ (Or.inr ⟨e, td2, L.length + 1, hR2, rfl, ?_⟩)
        rw [← nI_add L.length 1]
        rfl
      · have g' : ¬ hre N.ip n e = nI 59 := g
        rename_i g9
        rw [if_neg g'] at hR2
        replace g9 : nI e = N.ln := g9
        rw [hn, nI_eq (by omega) (by omega)] at g9
        rw [if_pos g9] at hR2
        refine hK _ _ (Or.inl ⟨L ++ [(x, v, w)], e, td2, hR2, by rw [hl]; omega, g9, rfl, htd2, ?_⟩)
        rw [hl, ← nI_add L.length 1]
        rfl
    · have ho' : ordR N.ip n a = (none, e) := ho
      have hR2 : txR N.ip n (f + 1) a L = (none, e) := by
        show (match ordR N.ip n a with | (none, e) => (none, e) | (some o, e) => if hre N.ip n e = nI 59 then txR N.ip n f (e + 1) (L ++ [o]) else if e = n then (some (L ++ [o]), e) else (none, e)) = _
        rw [ho']
      rw [hR] at hR2
      exact hK _ _ (Or.inr ⟨e, td2, L.length, hR2, rfl, rfl⟩)
set_option maxRecDepth 20000 in
theorem md_text (hg : gOK G) (N : nT) (n : Nat) (hn : N.ln = nI n) (hn6 : n ≤ 60) : Spec G 4 0 0 m_X9_isText [.ref 0] (mw N) (fun v w' => txA N n (txR N.ip n 21 0 []) v w') NX := by
  refine wp_spec (M := M_X9_isText) hg ok_X9_isText (lkp [(10, [true])]) 60 rfl rfl ?_
  repeat' (first | refine And.intro ?_ ?_ | (with_reducible intro h9; exact absurd h9 (by simp only [cI, cN]; decide +kernel)) | with_reducible intro _ | exact (rfl : narrow _ _ = _) | decide | (unfold vp_in; decide))
  exact AW.cg (md_text_l hg N n hn hn6 _ (fun v w' h => h) 21 0 [] N.td (Nat.zero_le _) (Nat.le_refl _) rfl (fun i o h => by simp at h) rfl) rfl rfl rfl (by first | rfl | (simp (discharger := omega) only [msk, clr_i, clr_r, cI, cN, ← nI_0, nI_ltI, nI_leI, nI_eq, nI_add, pk_mul, pk_sub, nI_clamp, vinI, not_true_eq_false, not_false_eq_true, iK0, iK1, iK2, iK3, iK4, iK5, iKm1, bK6, bK7, bK8, bK9, bK10, bK12, bK14, bK15, bK16, bK20, bK21, bK26, bK30, bK32, bK33, bK45, bK48, bK57, bK59, bK60, bK62, bK63, bK64, bK80, bK93, bK98, bK99, bK100, bK104, bK107, bK109, bK110, bK112, bK113, bK114, bK115, bK116, bK119, sK255, sK256, sK500, sK700, sK798, sK912, sK1400, sK2000]; done) | (simp (discharger := omega) only [msk, clr_i, clr_r, cI, cN, ← nI_0, nI_ltI, nI_leI, nI_eq, nI_add, pk_mul, pk_sub, nI_clamp, vinI, not_true_eq_false, not_false_eq_true, iK0, iK1, iK2, iK3, iK4, iK5, iKm1, bK6, bK7, bK8, bK9, bK10, bK12, bK14, bK15, bK16, bK20, bK21, bK26, bK30, bK32, bK33, bK45, bK48, bK57, bK59, bK60, bK62, bK63, bK64, bK80, bK93, bK98, bK99, bK100, bK104, bK107, bK109, bK110, bK112, bK113, bK114, bK115, bK116, bK119, sK255, sK256, sK500, sK700, sK798, sK912, sK1400, sK2000]; rfl)) rfl rfl
end NN
