/-! ===== run, on both sides ===== -/
def kR (N N' : nT) : Prop := N'.iW = N.iW ∧ N'.bf = N.bf ∧ N'.ch = N.ch ∧ N'.kp = N.kp ∧ N'.er = N.er ∧ N'.ln = N.ln ∧ N'.sv = N.sv ∧ N'.iS = N.iS ∧ N'.sn = N.sn ∧ N'.sm = N.sm ∧ N'.ip = N.ip
theorem kR.tr {a b c : nT} (h : kR a b) (h2 : kR b c) : kR a c := by
  obtain ⟨a1, a2, a3, a4, a5, a6, a7, a8, a9, b1, b2⟩ := h
  obtain ⟨c1, c2, c3, c4, c5, c6, c7, c8, c9, d1, d2⟩ := h2
  exact ⟨c1.trans a1, c2.trans a2, c3.trans a3, c4.trans a4, c5.trans a5, c6.trans a6, c7.trans a7, c8.trans a8, c9.trans a9, d1.trans b1, d2.trans b2⟩
theorem kps_k {N : nT} (h : N.iW = nI 1) (g g' : Nat → Int32) : kR N ((N.kps g).s_g g') := by
  have h0 : ¬ N.iW = nI 0 := by rw [h, nI_eq (by omega) (by omega)]; omega
  exact ⟨rfl, rfl, if_neg h0, if_neg h0, rfl, rfl, rfl, rfl, rfl, rfl, rfl⟩
def kO (N : nT) (o : oA3) : Prop := kR N o.2.2 ∧ o.2.2.co = nI o.1
theorem kO_co {N : nT} {k : Nat} {y : Int32} : kO N (k, y, N.s_co (nI k)) := ⟨⟨rfl, rfl, rfl, rfl, rfl, rfl, rfl, rfl, rfl, rfl, rfl⟩, rfl⟩
theorem kO_ref {N : nT} {k : Nat} {y a b : Int32} : kO N (k, y, N.ref (nI k) a b) := ⟨⟨rfl, rfl, rfl, rfl, rfl, rfl, rfl, rfl, rfl, rfl, rfl⟩, rfl⟩
theorem kO_kps {N : nT} (h : N.iW = nI 1) {y : Int32} {g g' : Nat → Int32} : kO N (0, y, (N.kps g).s_g g') := ⟨kps_k h g g', rfl⟩
theorem kO_if {N : nT} {c : Prop} [Decidable c] {a b : oA3} (ha : kO N a) (hb : kO N b) : kO N (if c then a else b) := by
  by_cases z : c
  · rw [if_pos z]; exact ha
  · rw [if_neg z]; exact hb
section KO
variable {N : nT}
theorem kO_coal {x : Int32} (h : N.iW = nI 1) : kO N (oCoal N x) := kO_if (kO_kps h) kO_co
theorem kO_bronze {x : Int32} (h : N.iW = nI 1) : kO N (oBronze N x) := kO_if (kO_if (kO_kps h) kO_ref) kO_co
theorem kO_mould {n : Nat} {x y : Int32} (h : N.iW = nI 1) : kO N (oMould N n x y) := kO_if (kO_if kO_ref (kO_kps h)) kO_co
theorem kO_rack {n : Nat} {x : Int32} (h : N.iW = nI 1) : kO N (oRack N n x) := kO_if (kO_if kO_ref (kO_kps h)) kO_co
theorem kO_take {n : Nat} {x : Int32} (h : N.iW = nI 1) : kO N (oTake N n x) := kO_if (kO_if kO_ref (kO_if (kO_kps h) kO_ref)) kO_co
theorem kO_recast {n : Nat} {x : Int32} (h : N.iW = nI 1) : kO N (oRecast N n x) := kO_if (kO_if (kO_if (kO_kps h) kO_ref) kO_ref) kO_co
theorem kO_pass {n : Nat} {x : Int32} (h : N.iW = nI 1) : kO N (oPass N n x) := kO_if (kO_kps h) kO_co
theorem kO_pour {a b c : Nat} {x y : Int32} (h : N.iW = nI 1) : kO N (oPour N a b c x y) := kO_if (kO_if kO_ref (kO_if kO_ref (kO_if (kO_if (kO_kps h) kO_ref) kO_ref))) kO_co
end KO
theorem oOrd_k {N : nT} {nm nr nb : Nat} {o : orT} (h : N.iW = nI 1) : kR N (oOrd N nm nr nb o).2.2 ∧ (oOrd N nm nr nb o).2.2.co = nI (oOrd N nm nr nb o).1 :=
  show kO N (oOrd N nm nr nb o) from kO_if (kO_coal h) (kO_if (kO_bronze h) (kO_if (kO_mould h) (kO_if (kO_rack h) (kO_if (kO_pour h) (kO_if (kO_pass h) (kO_if (kO_take h) (kO_recast h)))))))
theorem rnF_k : ∀ {L : List orT} {N : nT}, N.iW = nI 1 → kR N (rnF N L)
  | [], N, h => ⟨rfl, rfl, rfl, rfl, rfl, rfl, rfl, rfl, rfl, rfl, rfl⟩
  | o :: L, N, h => by
    have k := (oOrd_k (nm := (N.g 2).toNatClampNeg) (nr := (N.g 3).toNatClampNeg) (nb := (N.g 4).toNatClampNeg) (o := o) h).1
    rw [rnF]
    split
    · exact k.tr (rnF_k (k.1.trans h))
    · exact k
theorem rnF_co : ∀ {L : List orT} {N : nT}, N.iW = nI 1 → N.co = nI 0 → ∃ k, k < 4 ∧ (rnF N L).co = nI k
  | [], N, h, h2 => ⟨0, by omega, h2⟩
  | o :: L, N, h, h2 => by
    have k := oOrd_k (nm := (N.g 2).toNatClampNeg) (nr := (N.g 3).toNatClampNeg) (nb := (N.g 4).toNatClampNeg) (o := o) h
    have hl := oOrd_lt (N := N) (nm := (N.g 2).toNatClampNeg) (nr := (N.g 3).toNatClampNeg) (nb := (N.g 4).toNatClampNeg) (o := o)
    rw [rnF]
    split
    · rename_i z
      exact rnF_co (k.1.1.trans h) (by rw [k.2, z])
    · exact ⟨_, hl, k.2⟩
def okRun (N : nT) (n : Nat) (o : oA3) : Prop :=
  (∃ e td ap tm, txR N.ip n 21 0 [] = (none, e) ∧ o = (1, 0, (((((N.s_td td).s_ap ap).s_tm tm).s_er (nI e)).s_ln (nI 0)).s_co (nI 1))) ∨
  (∃ L e td, txR N.ip n 21 0 [] = (some L, e) ∧
    (((rnF (N.bgn td e L.length) L).co = nI 0 ∧ o = (0, nI L.length, ((rnF (N.bgn td e L.length) L).s_iW (nI 0)).kps (rnF (N.bgn td e L.length) L).bf)) ∨
     (∃ k, k < 3 ∧ (rnF (N.bgn td e L.length) L).co = nI (k + 1) ∧ o = (k + 1, 0, ((rnF (N.bgn td e L.length) L).s_iW (nI 0)).s_g (cpo (rnF (N.bgn td e L.length) L).g (rnF (N.bgn td e L.length) L).bf 0 0 114)))))
section RU
variable {G : gT} {F E : fT} {H : hT} {r : Int32 × Int32} {X : xT} {ht : Nat → Int32} {P : pT7} {S : sT4} {sd : Value} {er : Int32} {t : xW} {N : nT}
set_option maxRecDepth 20000 in
theorem r_run (hg : gOK G) (I : cV F E H r X S sd er t N) : Spec G 8 0 0 m_X9_run [.ref 0] (mw N) (ansRR (okRun N X.2.2.2.1)) NX := by
  have hn := I.2.2.2.1.2.2
  have h6 := I.2.2.2.1.2.1
  have hch := I.ch
  refine Spec.mono (mo_run hg Jr (fun _ _ _ _ h => Jr_ok h) (fun _ _ _ _ _ _ h hs h0 => Jr_s h hs h0) N X.2.2.2.1 hn h6 ⟨H.2.1, hch.2, hch.1⟩ (fun td e q => ⟨_, _, _, F, I.1.1, I.1.2.1, rfl, ⟨H.2.1, hch.2, hch.1⟩, rfl, rfl, rfl⟩)) ?_ (fun _ _ h => h)
  rintro v w' (⟨e, td, q, y, hR, rfl, rfl⟩ | ⟨L, e, td, N', hR, hm, h⟩)
  · exact ⟨_, Or.inl ⟨e, td, nI e, nI q, hR, rfl⟩, ansR_n rfl rfl⟩
  · have hf := mRun_f hm
    subst hf
    obtain ⟨k, hk, hco⟩ := rnF_co (L := L) (N := N.bgn td e L.length) rfl rfl
    rcases h with ⟨h, ⟨y, rfl⟩, rfl⟩ | ⟨h, rfl, rfl⟩
    · obtain ⟨k, rfl⟩ : ∃ j, k = j + 1 := by
        rw [hco, nI_leI (by omega) (by omega)] at h
        exact ⟨k - 1, by omega⟩
      exact ⟨_, Or.inr ⟨L, e, td, hR, Or.inr ⟨k, by omega, hco, rfl⟩⟩, ansR_n rfl hco⟩
    · have hk0 : k = 0 := by
        rw [hco, nI_leI (by omega) (by omega)] at h
        omega
      subst hk0
      exact ⟨_, Or.inr ⟨L, e, td, hR, Or.inl ⟨hco, rfl⟩⟩, ansR_y rfl rfl⟩
set_option maxRecDepth 20000 in
theorem c_run (hg : gOK G) (I : cV F E H r X S sd er t N) : Spec G 8 8 150 m_X8_run [.ref 0] (ww F E H r X ht P S sd er t) (ansCR t (okRun N X.2.2.2.1)) (excCR t [(0, 1), (1, 2)] (okRun N X.2.2.2.1)) := by
  have h6 := I.2.2.2.1.2.1
  have h11 := I.len
  obtain ⟨⟨a1, a2, a3⟩, ⟨b1, b2⟩, ⟨c1, c2⟩, ⟨d1, d2, d3⟩, e1, f1, y⟩ := I
  obtain ⟨q0, f0, t0, n0, x0⟩ := X
  replace d1 : t0 = N.ip := d1
  replace h6 : n0 ≤ 60 := h6
  have hkd : ∀ L, txR t0 n0 21 0 [] = (some L, n0) → ∀ o ∈ L, isKd o.1 := fun L h => txR_kd (fun o h => by cases h) h
  refine wp_spec (M := M_X8_run) hg ok_X8_run cut0 60 rfl rfl ?_
  repeat' (first | refine And.intro ?_ ?_ | (with_reducible intro h9; exact absurd h9 (by simp only [cI, cN]; decide +kernel)) | with_reducible intro _ | exact (rfl : narrow _ _ = _) | decide | (unfold vp_in; decide) | refine Eq.mpr (fL_eq _ _) ?_ | refine Eq.mpr (fW_eq _ _) ?_ | refine Eq.mpr (fN_eq _ _) ?_)
  refine ccn 31 [18, 19, 20, 21] (tx_orders hg q0 f0 t0 n0 x0 h6) (by decide) (by decide) (by decide) rfl (by repeat' (first | exact trivial | refine And.intro ?_ ?_ | rfl)) (by first | rfl | (simp (discharger := omega) only [renVs, renV, rnI, cI, cN, ← nI_0, nI_ltI, nI_leI, nI_eq, nI_add, pk_mul, pk_sub, nI_clamp, vinI, not_true_eq_false, not_false_eq_true, iK0, iK1, iK2, iK3, iK4, iK5, iKm1, bK6, bK7, bK8, bK9, bK10, bK12, bK14, bK15, bK16, bK20, bK21, bK26, bK30, bK32, bK33, bK45, bK48, bK57, bK59, bK60, bK62, bK63, bK64, bK80, bK93, bK98, bK99, bK100, bK104, bK107, bK109, bK110, bK112, bK113, bK114, bK115, bK116, bK119, sK255, sK256, sK500, sK700, sK798, sK912, sK1400, sK2000])) ?_
  (rintro _ _ (⟨L, f, hR, hL, hf, rfl, rfl⟩ | ⟨q, f, e, hR, rfl, rfl⟩)) <;> (repeat' (first | refine And.intro ?_ ?_ | (with_reducible intro h9; exact absurd h9 (by simp only [cI, cN]; decide +kernel)) | with_reducible intro _ | exact (rfl : narrow _ _ = _) | decide | (unfold vp_in; decide) | refine Eq.mpr (fL_eq _ _) ?_ | refine Eq.mpr (fW_eq _ _) ?_ | refine Eq.mpr (fN_eq _ _) ?_))
  · refine ccn 31 [18, 19, 20, 21] (tx_empty hg L.length f t0 n0 n0) (by decide) (by decide) (by decide) rfl (by repeat' (first | exact trivial | refine And.intro ?_ ?_ | rfl)) (by first | rfl | (simp (discharger := omega) only [renVs, renV, rnI, cI, cN, ← nI_0, nI_ltI, nI_leI, nI_eq, nI_add, pk_mul, pk_sub, nI_clamp, vinI, not_true_eq_false, not_false_eq_true, iK0, iK1, iK2, iK3, iK4, iK5, iKm1, bK6, bK7, bK8, bK9, bK10, bK12, bK14, bK15, bK16, bK20, bK21, bK26, bK30, bK32, bK33, bK45, bK48, bK57, bK59, bK60, bK62, bK63, bK64, bK80, bK93, bK98, bK99, bK100, bK104, bK107, bK109, bK110, bK112, bK113, bK114, bK115, bK116, bK119, sK255, sK256, sK500, sK700, sK798, sK912, sK1400, sK2000])) ?_
    (rintro _ _ ⟨rfl, rfl⟩) <;> (repeat' (first | refine And.intro ?_ ?_ | (with_reducible intro h9; exact absurd h9 (by simp only [cI, cN]; decide +kernel)) | with_reducible intro _ | exact (rfl : narrow _ _ = _) | decide | (unfold vp_in; decide) | refine Eq.mpr (fL_eq _ _) ?_ | refine Eq.mpr (fW_eq _ _) ?_ | refine Eq.mpr (fN_eq _ _) ?_))
    obtain ⟨q1, q2, q3, q4, q5, q6, q7, q8, q9, q10, q11⟩ := rnF_k (L := L) (N := N.bgn N.td n0 L.length) rfl
    have hbf : cpl F (rnF (N.bgn N.td n0 L.length) L).bf := by rw [q2]; exact cpo_cpl a1 a2
    have hR2 : txR N.ip n0 21 0 [] = (some L, n0) := by rw [← d1]; exact hR
    refine cci 31 (x_try (N := N.bgn N.td n0 L.length) hg L (hkd L hR) hL f t0 0 n0 hf a1 a2 ⟨c1, c2⟩ rfl) (by decide) (by decide) (by decide) (by first | rfl | (simp only [renVs]; rfl)) (by first | rfl | (simp (discharger := omega) only [renVs, renV, rnI, cI, cN, ← nI_0, nI_ltI, nI_leI, nI_eq, nI_add, pk_mul, pk_sub, nI_clamp, vinI, not_true_eq_false, not_false_eq_true, iK0, iK1, iK2, iK3, iK4, iK5, iKm1, bK6, bK7, bK8, bK9, bK10, bK12, bK14, bK15, bK16, bK20, bK21, bK26, bK30, bK32, bK33, bK45, bK48, bK57, bK59, bK60, bK62, bK63, bK64, bK80, bK93, bK98, bK99, bK100, bK104, bK107, bK109, bK110, bK112, bK113, bK114, bK115, bK116, bK119, sK255, sK256, sK500, sK700, sK798, sK912, sK1400, sK2000])) ?_ (fun _ _ h => h.elim)
    (rintro _ _ ⟨E', r', j, rfl, rfl, ⟨⟨b3, b4, b5⟩, (⟨rfl, b6, b7, b8⟩ | ⟨rfl, b6⟩ | ⟨rfl, b6⟩)⟩⟩) <;> (repeat' (first | refine And.intro ?_ ?_ | (with_reducible intro h9; exact absurd h9 (by simp only [cI, cN]; decide +kernel)) | with_reducible intro _ | exact (rfl : narrow _ _ = _) | decide | (unfold vp_in; decide) | refine Eq.mpr (fL_eq _ _) ?_ | refine Eq.mpr (fW_eq _ _) ?_ | refine Eq.mpr (fN_eq _ _) ?_))
    · refine cci 31 (hi_rem (N := (rnF (N.bgn N.td n0 L.length) L).s_iW (nI 0)) hg (hC_cg b1 q3 q4 q8 q7) rfl hbf a2 h11) (by decide) (by decide) (by decide) (by first | rfl | (simp only [renVs]; rfl)) (by first | rfl | (simp (discharger := omega) only [renVs, renV, rnI, cI, cN, ← nI_0, nI_ltI, nI_leI, nI_eq, nI_add, pk_mul, pk_sub, nI_clamp, vinI, not_true_eq_false, not_false_eq_true, iK0, iK1, iK2, iK3, iK4, iK5, iKm1, bK6, bK7, bK8, bK9, bK10, bK12, bK14, bK15, bK16, bK20, bK21, bK26, bK30, bK32, bK33, bK45, bK48, bK57, bK59, bK60, bK62, bK63, bK64, bK80, bK93, bK98, bK99, bK100, bK104, bK107, bK109, bK110, bK112, bK113, bK114, bK115, bK116, bK119, sK255, sK256, sK500, sK700, sK798, sK912, sK1400, sK2000])) ?_ (fun _ _ h => h.elim)
      (rintro _ _ ⟨rfl, H', t', rfl, k1, k2⟩) <;> (repeat' (first | refine And.intro ?_ ?_ | (with_reducible intro h9; exact absurd h9 (by simp only [cI, cN]; decide +kernel)) | with_reducible intro _ | exact (rfl : narrow _ _ = _) | decide | (unfold vp_in; decide) | refine Eq.mpr (fL_eq _ _) ?_ | refine Eq.mpr (fW_eq _ _) ?_ | refine Eq.mpr (fN_eq _ _) ?_))
      refine cci 31 (wb_did hg b3) (by decide) (by decide) (by decide) (by first | rfl | (simp only [renVs]; rfl)) (by first | rfl | (simp (discharger := omega) only [renVs, renV, rnI, cI, cN, ← nI_0, nI_ltI, nI_leI, nI_eq, nI_add, pk_mul, pk_sub, nI_clamp, vinI, not_true_eq_false, not_false_eq_true, iK0, iK1, iK2, iK3, iK4, iK5, iKm1, bK6, bK7, bK8, bK9, bK10, bK12, bK14, bK15, bK16, bK20, bK21, bK26, bK30, bK32, bK33, bK45, bK48, bK57, bK59, bK60, bK62, bK63, bK64, bK80, bK93, bK98, bK99, bK100, bK104, bK107, bK109, bK110, bK112, bK113, bK114, bK115, bK116, bK119, sK255, sK256, sK500, sK700, sK798, sK912, sK1400, sK2000])) ?_ (fun _ _ h => h.elim)
      (rintro _ _ ⟨rfl, rfl⟩) <;> (repeat' (first | refine And.intro ?_ ?_ | (with_reducible intro h9; exact absurd h9 (by simp only [cI, cN]; decide +kernel)) | with_reducible intro _ | exact (rfl : narrow _ _ = _) | decide | (unfold vp_in; decide) | refine Eq.mpr (fL_eq _ _) ?_ | refine Eq.mpr (fW_eq _ _) ?_ | refine Eq.mpr (fN_eq _ _) ?_))
      refine ccn 31 [19, 20] (tb_size hg 21 3 L.length f) (by decide) (by decide) (by decide) rfl (by repeat' (first | exact trivial | refine And.intro ?_ ?_ | rfl)) (by first | rfl | (simp (discharger := omega) only [renVs, renV, rnI, cI, cN, ← nI_0, nI_ltI, nI_leI, nI_eq, nI_add, pk_mul, pk_sub, nI_clamp, vinI, not_true_eq_false, not_false_eq_true, iK0, iK1, iK2, iK3, iK4, iK5, iKm1, bK6, bK7, bK8, bK9, bK10, bK12, bK14, bK15, bK16, bK20, bK21, bK26, bK30, bK32, bK33, bK45, bK48, bK57, bK59, bK60, bK62, bK63, bK64, bK80, bK93, bK98, bK99, bK100, bK104, bK107, bK109, bK110, bK112, bK113, bK114, bK115, bK116, bK119, sK255, sK256, sK500, sK700, sK798, sK912, sK1400, sK2000])) ?_
      (rintro _ _ ⟨rfl, rfl⟩) <;> (repeat' (first | refine And.intro ?_ ?_ | (with_reducible intro h9; exact absurd h9 (by simp only [cI, cN]; decide +kernel)) | with_reducible intro _ | exact (rfl : narrow _ _ = _) | decide | (unfold vp_in; decide) | refine Eq.mpr (fL_eq _ _) ?_ | refine Eq.mpr (fW_eq _ _) ?_ | refine Eq.mpr (fN_eq _ _) ?_))
      show ansCR t (okRun N n0) _ _
      obtain ⟨y, y1, y2⟩ := y
      refine ⟨_, Or.inr ⟨L, n0, N.td, hR2, Or.inl ⟨b6, rfl⟩⟩, ansC_y rfl rfl ?_⟩
      exact ⟨fcp F E', E', H', r', (L.length, f, t0, 0, n0), ht, P, S, sd, -1, t', rfl, ⟨⟨fcp_cpl b7, fcp_fI b8, b3⟩, ⟨k1, rfl⟩, ⟨b4, b5⟩, ⟨d1.trans q11.symm, Nat.zero_le _, q6⟩, q5.symm, f1.tq k2 q10 q9, y, k2 _ _ y1 (Or.inl (by omega)), y2⟩, keep11.tq k2⟩
    · show excCR t [(0, 1), (1, 2)] (okRun N n0) 0 _
      refine ⟨_, Or.inr ⟨L, n0, N.td, hR2, Or.inr ⟨0, by omega, b6, rfl⟩⟩, excC_n rfl rfl ?_⟩
      exact ⟨F, E', H, r', (L.length, f, t0, 0, n0), ht, P, S, sd, -1, t, rfl, ⟨⟨cpo_cpl hbf a2, a2, b3⟩, ⟨hC_cg b1 q3 q4 q8 q7, rfl⟩, ⟨b4, b5⟩, ⟨d1.trans q11.symm, Nat.zero_le _, q6⟩, q5.symm, f1.tq tq.rf q10 q9, y⟩, keep11.rf⟩
    · show excCR t [(0, 1), (1, 2)] (okRun N n0) 1 _
      refine ⟨_, Or.inr ⟨L, n0, N.td, hR2, Or.inr ⟨1, by omega, b6, rfl⟩⟩, excC_n rfl rfl ?_⟩
      exact ⟨F, E', H, r', (L.length, f, t0, 0, n0), ht, P, S, sd, -1, t, rfl, ⟨⟨cpo_cpl hbf a2, a2, b3⟩, ⟨hC_cg b1 q3 q4 q8 q7, rfl⟩, ⟨b4, b5⟩, ⟨d1.trans q11.symm, Nat.zero_le _, q6⟩, q5.symm, f1.tq tq.rf q10 q9, y⟩, keep11.rf⟩
  · have he : e ≤ n0 := by
      have := txR_le (t := t0) (n := n0) (f := 21) (a := 0) (L := []) (Nat.zero_le _)
      rw [hR] at this
      exact this
    refine ccn 31 [18, 19, 20, 21] (tx_empty hg q f t0 n0 e) (by decide) (by decide) (by decide) rfl (by repeat' (first | exact trivial | refine And.intro ?_ ?_ | rfl)) (by first | rfl | (simp (discharger := omega) only [renVs, renV, rnI, cI, cN, ← nI_0, nI_ltI, nI_leI, nI_eq, nI_add, pk_mul, pk_sub, nI_clamp, vinI, not_true_eq_false, not_false_eq_true, iK0, iK1, iK2, iK3, iK4, iK5, iKm1, bK6, bK7, bK8, bK9, bK10, bK12, bK14, bK15, bK16, bK20, bK21, bK26, bK30, bK32, bK33, bK45, bK48, bK57, bK59, bK60, bK62, bK63, bK64, bK80, bK93, bK98, bK99, bK100, bK104, bK107, bK109, bK110, bK112, bK113, bK114, bK115, bK116, bK119, sK255, sK256, sK500, sK700, sK798, sK912, sK1400, sK2000])) ?_
    (rintro _ _ ⟨rfl, rfl⟩) <;> (repeat' (first | refine And.intro ?_ ?_ | (with_reducible intro h9; exact absurd h9 (by simp only [cI, cN]; decide +kernel)) | with_reducible intro _ | exact (rfl : narrow _ _ = _) | decide | (unfold vp_in; decide) | refine Eq.mpr (fL_eq _ _) ?_ | refine Eq.mpr (fW_eq _ _) ?_ | refine Eq.mpr (fN_eq _ _) ?_))
    · rename_i g
      exact absurd g (nI_pos (by omega))
    · show excCR t [(0, 1), (1, 2)] (okRun N n0) 0 _
      refine ⟨_, Or.inl ⟨e, N.td, N.ap, N.tm, by rw [← d1]; exact hR, rfl⟩, excC_n rfl rfl ?_⟩
      exact ⟨F, E, H, r, (q, f, t0, 0, e), ht, P, S, sd, nI e, t, rfl, ⟨⟨a1, a2, a3⟩, ⟨hC_cg b1 rfl rfl rfl rfl, b2⟩, ⟨c1, c2⟩, ⟨d1, Nat.zero_le _, rfl⟩, rfl, f1.tq tq.rf rfl rfl, y⟩, keep11.rf⟩
end RU
