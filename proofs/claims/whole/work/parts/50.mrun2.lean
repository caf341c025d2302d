/-! ===== the reference: run, whole; its constructor ===== -/
theorem ord1_kd {t : Nat → Int32} {n a m e : Nat} {x : Int32} {o : orT} (h : ord1 t n a m x = (some o, e)) : o.1 = x := by
  unfold ord1 at h
  split at h
  · cases h
  · cases h; rfl
theorem ord2_kd {t : Nat → Int32} {n a m e : Nat} {x s : Int32} {o : orT} (h : ord2 t n a m x s = (some o, e)) : o.1 = x := by
  unfold ord2 at h
  split at h
  · cases h
  · split at h
    · split at h
      · cases h
      · cases h; rfl
    · cases h
theorem ordR_kd {t : Nat → Int32} {n a e : Nat} {o : orT} (h : ordR t n a = (some o, e)) : isKd o.1 := by
  unfold ordR at h
  unfold isKd
  split at h
  · rename_i q
    rw [ord1_kd h]
    rcases q with q | q | q | q
    · exact Or.inl q
    · exact Or.inr (Or.inr (Or.inr (Or.inr (Or.inr (Or.inl q)))))
    · exact Or.inr (Or.inr (Or.inr (Or.inr (Or.inr (Or.inr (Or.inl q))))))
    · exact Or.inr (Or.inr (Or.inr (Or.inr (Or.inr (Or.inr (Or.inr q))))))
  split at h
  · exact Or.inr (Or.inl (ord1_kd h))
  split at h
  · exact Or.inr (Or.inr (Or.inr (Or.inl (ord1_kd h))))
  split at h
  · exact Or.inr (Or.inr (Or.inl (ord2_kd h)))
  split at h
  · exact Or.inr (Or.inr (Or.inr (Or.inr (Or.inl (ord2_kd h)))))
  · cases h
theorem txR_kd {t : Nat → Int32} {n : Nat} : ∀ {f a e : Nat} {L M : List orT}, (∀ o ∈ L, isKd o.1) → txR t n f a L = (some M, e) → ∀ o ∈ M, isKd o.1
  | 0, a, e, L, M, hL, h => by cases h
  | f + 1, a, e, L, M, hL, h => by
    unfold txR at h
    split at h
    · cases h
    · rename_i o e1 ho
      have hL2 : ∀ x ∈ L ++ [o], isKd x.1 := fun x hx => by
        rcases List.mem_append.mp hx with q | q
        · exact hL x q
        · rw [List.mem_singleton.mp q]
          exact ordR_kd ho
      split at h
      · exact txR_kd hL2 h
      · split at h
        · cases h
          exact hL2
        · cases h
theorem mRun_k {J : nT → Nat → Nat → Nat → Prop} : ∀ {L : List orT} {N N' : nT}, N.iW = nI 1 → mRun J N L N' → N'.iW = nI 1 ∧ N'.bf = N.bf ∧ N'.ch = N.ch ∧ N'.kp = N.kp ∧ N'.er = N.er ∧ N'.ln = N.ln ∧ N'.sv = N.sv ∧ N'.iS = N.iS ∧ N'.sn = N.sn ∧ N'.sm = N.sm
  | [], N, N', hw, h => by
    have : N' = N := h
    rw [this]
    exact ⟨hw, rfl, rfl, rfl, rfl, rfl, rfl, rfl, rfl, rfl⟩
  | o :: L, N, N', hw, ⟨nm, nr, nb, N1, hj, hs, h⟩ => by
    obtain ⟨k1, k2, k3, k4, k5, k6, k7, k8, k9, k10, k11⟩ := sOrd_k hs
    obtain ⟨k12, k13⟩ := k11 hw
    have base : N1.iW = nI 1 := k4.trans hw
    rcases h with ⟨-, h⟩ | ⟨-, h⟩
    · obtain ⟨a1, a2, a3, a4, a5, a6, a7, a8, a9, a10⟩ := mRun_k base h
      exact ⟨a1, a2.trans k3, a3.trans k13, a4.trans k12, a5.trans k5, a6.trans k6, a7.trans k7, a8.trans k8, a9.trans k9, a10.trans k10⟩
    · rw [h]
      exact ⟨base, k3, k13, k12, k5, k6, k7, k8, k9, k10⟩
section NN
variable {G : gT}
/-- what run answers -/
def rnA (J : nT → Nat → Nat → Nat → Prop) (N : nT) (R : Option (List orT) × Nat) (v : Option Value) (w' : xW) : Prop :=
  (∃ e td q y, R = (none, e) ∧ v = some (.int y) ∧ w' = mw ((((((N.s_td td).s_ap (nI e)).s_tm (nI q)).s_er (nI e)).s_ln (nI 0)).s_co (nI 1))) ∨
  (∃ L e td N', R = (some L, e) ∧ mRun J (N.bgn td e L.length) L N' ∧
    ((¬ N'.co ≤ nI 0 ∧ (∃ y, v = some (.int y)) ∧ w' = mw ((N'.s_iW (nI 0)).s_g (cpo N'.g N'.bf 0 0 114))) ∨
     (N'.co ≤ nI 0 ∧ v = some (.int (nI L.length)) ∧ w' = mw ((N'.s_iW (nI 0)).kps N'.bf))))
set_option maxRecDepth 20000 in
theorem mo_run_t (hg : gOK G) (N' : nT) (L : List orT) (hL : L.length ≤ 21) (hc : (N'.s_iW (nI 0)).cK) (htm : N'.tm = nI L.length) (is y : Int32) {K : Option Value → xW → Prop} {KX : Nat → xW → Prop} (hK1 : ¬ N'.co ≤ nI 0 → ∀ y, K (some (.int y)) (mw ((N'.s_iW (nI 0)).s_g (cpo N'.g N'.bf 0 0 114)))) (hK0 : N'.co ≤ nI 0 → K (some (.int (nI L.length))) (mw ((N'.s_iW (nI 0)).kps N'.bf))) : AW G M_X9_run 8 0 0 95 [some (.ref 0), some (.int is), none, some (.int y)] [] (mw N') K KX := by
  refine wp_ok (M := M_X9_run) hg ok_X9_run (lkp []) 60 _ _ _ _ _ _ ?_
  repeat' (first | refine And.intro ?_ ?_ | (with_reducible intro h9; exact absurd h9 (by simp only [cI, cN]; decide +kernel)) | with_reducible intro _ | exact (rfl : narrow _ _ = _) | decide | (unfold vp_in; decide))
  · rename_i g
    replace g : N'.co ≤ nI 0 := by rw [nI_0]; exact g
    refine cc0 [0, 1, 2, 3, 4, 5, 6, 7, 8] (md_keepB hg (N'.s_iW (nI 0)) hc) (by decide) (by decide) (by decide) rfl (by repeat' (first | exact trivial | refine And.intro ?_ ?_ | rfl)) (by first | rfl | (simp (discharger := omega) only [renVs, renV, rnI, cI, cN, ← nI_0, nI_ltI, nI_leI, nI_eq, nI_add, pk_mul, pk_sub, nI_clamp, vinI, not_true_eq_false, not_false_eq_true, iK0, iK1, iK2, iK3, iK4, iK5, iKm1, bK6, bK7, bK8, bK9, bK10, bK12, bK14, bK15, bK16, bK20, bK21, bK26, bK30, bK32, bK33, bK45, bK48, bK57, bK59, bK60, bK62, bK63, bK64, bK80, bK93, bK98, bK99, bK100, bK104, bK107, bK109, bK110, bK112, bK113, bK114, bK115, bK116, bK119, sK255, sK256, sK500, sK700, sK798, sK912, sK1400, sK2000])) ?_
    (rintro _ _ ⟨rfl, rfl⟩) <;> (repeat' (first | refine And.intro ?_ ?_ | (with_reducible intro h9; exact absurd h9 (by simp only [cI, cN]; decide +kernel)) | with_reducible intro _ | exact (rfl : narrow _ _ = _) | decide | (unfold vp_in; decide)))
    exact Kcg (K := K) (hK0 g) (by rw [← htm]) rfl
  · rename_i g
    replace g : ¬ N'.co ≤ nI 0 := by rw [nI_0]; exact g
    refine cc0 [4, 1] (md_copies hg 114 114 0 0 N'.bf N'.g (by omega) (by omega) (by omega) (by omega)) (by decide) (by decide) (by decide) rfl (by repeat' (first | exact trivial | refine And.intro ?_ ?_ | rfl)) (by first | rfl | (simp (discharger := omega) only [renVs, renV, rnI, cI, cN, ← nI_0, nI_ltI, nI_leI, nI_eq, nI_add, pk_mul, pk_sub, nI_clamp, vinI, not_true_eq_false, not_false_eq_true, iK0, iK1, iK2, iK3, iK4, iK5, iKm1, bK6, bK7, bK8, bK9, bK10, bK12, bK14, bK15, bK16, bK20, bK21, bK26, bK30, bK32, bK33, bK45, bK48, bK57, bK59, bK60, bK62, bK63, bK64, bK80, bK93, bK98, bK99, bK100, bK104, bK107, bK109, bK110, bK112, bK113, bK114, bK115, bK116, bK119, sK255, sK256, sK500, sK700, sK798, sK912, sK1400, sK2000])) ?_
    (rintro _ _ ⟨rfl, rfl⟩) <;> (repeat' (first | refine And.intro ?_ ?_ | (with_reducible intro h9; exact absurd h9 (by simp only [cI, cN]; decide +kernel)) | with_reducible intro _ | exact (rfl : narrow _ _ = _) | decide | (unfold vp_in; decide)))
    · exact hK1 g _
    · exact hK1 g _
set_option maxRecDepth 20000 in
theorem mo_run (hg : gOK G) (J : nT → Nat → Nat → Nat → Prop) (hJ : ∀ N nm nr nb, J N nm nr nb → N.ok nm nr nb) (hJ2 : ∀ N nm nr nb o N', J N nm nr nb → sOrd N nm nr nb o N' → N'.co = nI 0 → ∃ nm nr nb, J N' nm nr nb) (N : nT) (n : Nat) (hn : N.ln = nI n) (hn6 : n ≤ 60) (hch : ∃ c, c ≤ 8 ∧ N.ch = nI c) (hJ0 : ∀ td e q, ∃ nm nr nb, J (N.bgn td e q) nm nr nb) : Spec G 8 0 0 m_X9_run [.ref 0] (mw N) (fun v w' => rnA J N (txR N.ip n 21 0 []) v w') NX := by
  refine wp_spec (M := M_X9_run) hg ok_X9_run (lkp [(66, [true, true, true, true])]) 60 rfl rfl ?_
  repeat' (first | refine And.intro ?_ ?_ | (with_reducible intro h9; exact absurd h9 (by simp only [cI, cN]; decide +kernel)) | with_reducible intro _ | exact (rfl : narrow _ _ = _) | decide | (unfold vp_in; decide))
  refine cc0 [0, 1, 2, 3, 4, 5, 6, 7, 8] (md_text hg N n hn hn6) (by decide) (by decide) (by decide) rfl (by repeat' (first | exact trivial | refine And.intro ?_ ?_ | rfl)) (by first | rfl | (simp (discharger := omega) only [renVs, renV, rnI, cI, cN, ← nI_0, nI_ltI, nI_leI, nI_eq, nI_add, pk_mul, pk_sub, nI_clamp, vinI, not_true_eq_false, not_false_eq_true, iK0, iK1, iK2, iK3, iK4, iK5, iKm1, bK6, bK7, bK8, bK9, bK10, bK12, bK14, bK15, bK16, bK20, bK21, bK26, bK30, bK32, bK33, bK45, bK48, bK57, bK59, bK60, bK62, bK63, bK64, bK80, bK93, bK98, bK99, bK100, bK104, bK107, bK109, bK110, bK112, bK113, bK114, bK115, bK116, bK119, sK255, sK256, sK500, sK700, sK798, sK912, sK1400, sK2000])) ?_
  (rintro _ _ (⟨L, e, td, hR, hL, he, rfl, htd, rfl⟩ | ⟨e, td, q, hR, rfl, rfl⟩)) <;> (repeat' (first | refine And.intro ?_ ?_ | (with_reducible intro h9; exact absurd h9 (by simp only [cI, cN]; decide +kernel)) | with_reducible intro _ | exact (rfl : narrow _ _ = _) | decide | (unfold vp_in; decide)))
  · refine cc0 [0, 1, 2, 3, 4, 5, 6, 7, 8] (md_f0 hg ((((((N.s_td td).s_ap (nI e)).s_tm (nI L.length)).s_er (-1)).s_ln (nI 0)))) (by decide) (by decide) (by decide) rfl (by repeat' (first | exact trivial | refine And.intro ?_ ?_ | rfl)) (by first | rfl | (simp (discharger := omega) only [renVs, renV, rnI, cI, cN, ← nI_0, nI_ltI, nI_leI, nI_eq, nI_add, pk_mul, pk_sub, nI_clamp, vinI, not_true_eq_false, not_false_eq_true, iK0, iK1, iK2, iK3, iK4, iK5, iKm1, bK6, bK7, bK8, bK9, bK10, bK12, bK14, bK15, bK16, bK20, bK21, bK26, bK30, bK32, bK33, bK45, bK48, bK57, bK59, bK60, bK62, bK63, bK64, bK80, bK93, bK98, bK99, bK100, bK104, bK107, bK109, bK110, bK112, bK113, bK114, bK115, bK116, bK119, sK255, sK256, sK500, sK700, sK798, sK912, sK1400, sK2000])) ?_
    (rintro _ _ ⟨rfl, rfl⟩) <;> (repeat' (first | refine And.intro ?_ ?_ | (with_reducible intro h9; exact absurd h9 (by simp only [cI, cN]; decide +kernel)) | with_reducible intro _ | exact (rfl : narrow _ _ = _) | decide | (unfold vp_in; decide)))
    refine cc0 [1, 4] (md_copies hg 114 114 0 0 N.g N.bf (by omega) (by omega) (by omega) (by omega)) (by decide) (by decide) (by decide) rfl (by repeat' (first | exact trivial | refine And.intro ?_ ?_ | rfl)) (by first | rfl | (simp (discharger := omega) only [renVs, renV, rnI, cI, cN, ← nI_0, nI_ltI, nI_leI, nI_eq, nI_add, pk_mul, pk_sub, nI_clamp, vinI, not_true_eq_false, not_false_eq_true, iK0, iK1, iK2, iK3, iK4, iK5, iKm1, bK6, bK7, bK8, bK9, bK10, bK12, bK14, bK15, bK16, bK20, bK21, bK26, bK30, bK32, bK33, bK45, bK48, bK57, bK59, bK60, bK62, bK63, bK64, bK80, bK93, bK98, bK99, bK100, bK104, bK107, bK109, bK110, bK112, bK113, bK114, bK115, bK116, bK119, sK255, sK256, sK500, sK700, sK798, sK912, sK1400, sK2000])) ?_
    (rintro _ _ ⟨rfl, rfl⟩) <;> (repeat' (first | refine And.intro ?_ ?_ | (with_reducible intro h9; exact absurd h9 (by simp only [cI, cN]; decide +kernel)) | with_reducible intro _ | exact (rfl : narrow _ _ = _) | decide | (unfold vp_in; decide)))
    refine AW.cg (mo_run_l hg J hJ hJ2 L hL (txR_kd (fun o ho => by cases ho) hR) (N.bgn td e L.length) (fun N' y is hm htm => ?_) (nI 1) L.length (Nat.le_refl _) (N.bgn td e L.length) (nI 0) htd rfl (fun _ => hJ0 td e L.length) (fun N3 h1 h2 => by
      have := h1 rfl
      rw [Nat.sub_self] at this
      exact this)) rfl rfl rfl ?_ rfl ?_
    · obtain ⟨k1, k2, k3, -⟩ := mRun_k rfl hm
      exact mo_run_t hg N' L hL ⟨Or.inr rfl, by obtain ⟨c, c1, c2⟩ := hch; exact ⟨c, c1, k3.trans c2⟩⟩ htm is y (fun z y => Or.inr ⟨L, e, td, N', hR, hm, Or.inl ⟨z, ⟨y, rfl⟩, rfl⟩⟩) (fun z => Or.inr ⟨L, e, td, N', hR, hm, Or.inr ⟨z, rfl, rfl⟩⟩)
    · rw [Nat.sub_self]
      rfl
    · rfl
  · refine cc0 [0, 1, 2, 3, 4, 5, 6, 7, 8] (md_f1 hg ((((((N.s_td td).s_ap (nI e)).s_tm (nI q)).s_er (nI e)).s_ln (nI 0)))) (by decide) (by decide) (by decide) rfl (by repeat' (first | exact trivial | refine And.intro ?_ ?_ | rfl)) (by first | rfl | (simp (discharger := omega) only [renVs, renV, rnI, cI, cN, ← nI_0, nI_ltI, nI_leI, nI_eq, nI_add, pk_mul, pk_sub, nI_clamp, vinI, not_true_eq_false, not_false_eq_true, iK0, iK1, iK2, iK3, iK4, iK5, iKm1, bK6, bK7, bK8, bK9, bK10, bK12, bK14, bK15, bK16, bK20, bK21, bK26, bK30, bK32, bK33, bK45, bK48, bK57, bK59, bK60, bK62, bK63, bK64, bK80, bK93, bK98, bK99, bK100, bK104, bK107, bK109, bK110, bK112, bK113, bK114, bK115, bK116, bK119, sK255, sK256, sK500, sK700, sK798, sK912, sK1400, sK2000])) ?_
    (rintro _ _ ⟨rfl, rfl⟩) <;> (repeat' (first | refine And.intro ?_ ?_ | (with_reducible intro h9; exact absurd h9 (by simp only [cI, cN]; decide +kernel)) | with_reducible intro _ | exact (rfl : narrow _ _ = _) | decide | (unfold vp_in; decide)))
    exact Or.inl ⟨e, td, q, _, hR, rfl, rfl⟩
end NN
