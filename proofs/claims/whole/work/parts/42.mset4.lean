/-! ===== the reference: mostPoured, pourable, first, isWell ===== -/
theorem bmx_mx {D : pT} (hn : D.2.1 ≤ 8) {m : Nat} (h : bmx D none (2 ^ D.2.1) m) : isMx D 0 m := by
  constructor
  · rcases h.1 with rfl | ⟨s, h1, h2, ⟨l, -, hc, he, -⟩, hp⟩
    · exact ⟨[], trivial, rfl⟩
    · have := setL_pc hn (show 0 < 256 by omega) hc
      rw [he, pc_0] at this
      exact ⟨l, hc, by omega⟩
  · intro l hl
    cases l with
    | nil => simp
    | cons k l =>
      have e := setL_pc hn (show 0 < 256 by omega) hl
      have hlt := setL_lt hn (Nat.two_pow_pos _) hl
      rw [pc_0] at e
      have h1 : 1 ≤ setL 0 (k :: l) := by
        rcases Nat.eq_zero_or_pos (setL 0 (k :: l)) with z | z
        · rw [z, pc_0] at e
          simp at e
        · exact z
      have := h.2 _ h1 hlt ⟨k :: l, by simp, hl, rfl, Or.inl rfl⟩
      omega
theorem bmx_fi {D : pT} (hn : D.2.1 ≤ 8) {m M k : Nat} (h : bmx D (some k) (2 ^ D.2.1) m) (hM : isMx D 0 M) (h0 : 0 < M) : M ≤ m ↔ isFi D M k := by
  constructor
  · intro hle
    rcases h.1 with z | ⟨s, h1, h2, ⟨l, hl, hc, he, hf⟩, hp⟩
    · omega
    · have e := setL_pc hn (show 0 < 256 by omega) hc
      rw [he, pc_0] at e
      have hb := hM.2 l hc
      rcases hf with q | ⟨f, q, q2⟩
      · cases q
      · cases q
        cases l with
        | nil => exact absurd rfl hl
        | cons a l1 =>
          simp at q2
          subst q2
          simp only [List.length_cons] at e hb
          refine ⟨hc.1, ⟨l1, hc.2, by omega⟩, fun l2 h3 => ?_⟩
          have := hM.2 (a :: l2) ⟨hc.1, h3⟩
          simp only [List.length_cons] at this
          omega
  · rintro ⟨ha, ⟨l, hl, hlen⟩, -⟩
    have hc : chn D 0 (k :: l) := ⟨ha, hl⟩
    have e := setL_pc hn (show 0 < 256 by omega) hc
    have hlt := setL_lt hn (Nat.two_pow_pos _) hc
    rw [pc_0] at e
    simp only [List.length_cons] at e
    have h1 : 1 ≤ setL 0 (k :: l) := by
      rcases Nat.eq_zero_or_pos (setL 0 (k :: l)) with z | z
      · rw [z, pc_0] at e
        omega
      · exact z
    have := h.2 _ h1 hlt ⟨k :: l, by simp, hc, rfl, Or.inr ⟨k, rfl, rfl⟩⟩
    omega
theorem fi_ex {D : pT} {M : Nat} (hM : isMx D 0 M) (h0 : 0 < M) : ∃ k, k < D.2.1 ∧ isFi D M k := by
  obtain ⟨l, hl, e⟩ := hM.1
  cases l with
  | nil => simp at e; omega
  | cons k l =>
    simp only [List.length_cons] at e
    refine ⟨k, hl.1.1, hl.1, ⟨l, hl.2, by omega⟩, fun l2 h3 => ?_⟩
    have := hM.2 (k :: l2) ⟨hl.1, h3⟩
    simp only [List.length_cons] at this
    omega
section NN
variable {G : gT}
theorem mm_4 (hg : gOK G) (N : nT) (D : pT) (hd : gD D N.g) (fi : Option Nat) (hfi : ∀ f, fi = some f → f < 8) {K : Option Value → xW → Prop} {KX : Nat → xW → Prop} (hK : ∀ m cb, m ≤ 8 → bmx D fi (2 ^ D.2.1) m → K (some (.int (nI m))) (mw (N.s_cb cb))) : ∀ (c t : Nat) (ht1 : 1 ≤ t) (ht : t ≤ 2 ^ D.2.1) (m : Nat) (hm8 : m ≤ 8) (hm : bmx D fi t m) (cb : Nat → Int32) (hc : cOk D fi cb t) (hc9 : 2 ^ D.2.1 - t = c),
    AW G M_X9_mostPoured 4 0 0 4 [some (.ref 0), some (.int (fv fi)), some (.int (nI m)), some (.int (nI t)), none, none, none] [] (mw (N.s_cb cb)) K KX := by
  intro c
  induction c using Nat.strongRecOn with | ind c ih => ?_
  intro t ht1 ht m hm8 hm cb hc hc9
  obtain ⟨hn, h14, h20, hP20, hcb, hck, hg0, hg1, hg2⟩ := id hd
  have hle := p2_le hn
  have e2 : (N.s_cb cb).g (Int32.ofInt 2).toNatClampNeg = nI D.2.1 := hg2
  have ep : nI 1 <<< (nI D.2.1 &&& 31) = nI (2 ^ D.2.1) := by
    rw [← iK1]
    exact bs_pow ⟨D.2.1, by omega⟩
  have e2b : (N.s_cb cb).g 2 = nI D.2.1 := hg2
  refine wp_ok (M := M_X9_mostPoured) hg ok_X9_mostPoured (lkp [(4, [true, true, true, true, false, false, false]), (26, [true, true, true, true, true, false, false])]) 60 _ _ _ _ _ _ ?_
  repeat' (first | refine And.intro ?_ ?_ | (with_reducible intro h9; exact absurd h9 (by simp only [cI, cN]; decide +kernel)) | with_reducible intro _ | exact (rfl : narrow _ _ = _) | decide | (unfold vp_in; decide))
  · rename_i g
    simp (discharger := omega) only [cI, iK1, iK2, nI_clamp, e2b, ep, nI_leI] at g
    have : t = 2 ^ D.2.1 := by omega
    subst this
    exact hK m cb hm8 hm
  · rename_i g
    simp (discharger := omega) only [cN, iK1, iK2, nI_clamp, e2b, ep, nI_leI] at g
    rw [vinI (by omega)]; omega
  · rename_i g
    simp (discharger := omega) only [cN, iK1, iK2, nI_clamp, e2b, ep, nI_leI] at g
    have htl : t < 2 ^ D.2.1 := by omega
    refine AW.cg (mm_26 hg N D hd fi hfi (nI m) t ht1 htl (fun cb2 h2 => ?_) _ 0 (Nat.zero_le _) (upd cb t (nI 0)) (fun r r1 r2 => by rw [upd_ne (by omega)]; exact hc r r1 r2) (Or.inr ⟨upd_eq, fun ⟨j, hj, _⟩ => by omega⟩) rfl) rfl rfl rfl (by first | rfl | (simp (discharger := omega) only [msk, clr_i, clr_r, cI, cN, ← nI_0, nI_ltI, nI_leI, nI_eq, nI_add, pk_mul, pk_sub, nI_clamp, vinI, not_true_eq_false, not_false_eq_true, iK0, iK1, iK2, iK3, iK4, iK5, iKm1, bK6, bK7, bK8, bK9, bK10, bK12, bK14, bK15, bK16, bK20, bK21, bK26, bK30, bK32, bK33, bK45, bK48, bK57, bK59, bK60, bK62, bK63, bK64, bK80, bK93, bK98, bK99, bK100, bK104, bK107, bK109, bK110, bK112, bK113, bK114, bK115, bK116, bK119, sK255, sK256, sK500, sK700, sK798, sK912, sK1400, sK2000]; done) | (simp (discharger := omega) only [msk, clr_i, clr_r, cI, cN, ← nI_0, nI_ltI, nI_leI, nI_eq, nI_add, pk_mul, pk_sub, nI_clamp, vinI, not_true_eq_false, not_false_eq_true, iK0, iK1, iK2, iK3, iK4, iK5, iKm1, bK6, bK7, bK8, bK9, bK10, bK12, bK14, bK15, bK16, bK20, bK21, bK26, bK30, bK32, bK33, bK45, bK48, bK57, bK59, bK60, bK62, bK63, bK64, bK80, bK93, bK98, bK99, bK100, bK104, bK107, bK109, bK110, bK112, bK113, bK114, bK115, bK116, bK119, sK255, sK256, sK500, sK700, sK798, sK912, sK1400, sK2000]; rfl)) rfl (by rw [nI_clamp (by omega)]; rfl)
    have h256 : t < 256 := by omega
    have hpt : pc t ≤ 8 := cnt_le _ _
    refine wp_ok (M := M_X9_mostPoured) hg ok_X9_mostPoured (lkp [(4, [true, true, true, true, false, false, false])]) 60 _ _ _ _ _ _ ?_
    repeat' (first | refine And.intro ?_ ?_ | (with_reducible intro h9; exact absurd h9 (by simp only [cI, cN]; decide +kernel)) | with_reducible intro _ | exact (rfl : narrow _ _ = _) | decide | (unfold vp_in; decide))
    · rw [vinI (by omega)]; omega
    · rename_i g2
      rcases h2 t ht1 (by omega) with ⟨q, w⟩ | ⟨q, w⟩
      · rw [nI_clamp (by omega), show (N.s_cb cb2).cb t = nI 1 from q] at g2
        exact absurd g2 (by simp only [cI]; decide)
      · exact AW.cg (ih _ (by omega) (t + 1) (by omega) (by omega) m hm8 (bmx_n hm w) cb2 h2 rfl) rfl rfl rfl (by first | rfl | (simp (discharger := omega) only [msk, clr_i, clr_r, cI, cN, ← nI_0, nI_ltI, nI_leI, nI_eq, nI_add, pk_mul, pk_sub, nI_clamp, vinI, not_true_eq_false, not_false_eq_true, iK0, iK1, iK2, iK3, iK4, iK5, iKm1, bK6, bK7, bK8, bK9, bK10, bK12, bK14, bK15, bK16, bK20, bK21, bK26, bK30, bK32, bK33, bK45, bK48, bK57, bK59, bK60, bK62, bK63, bK64, bK80, bK93, bK98, bK99, bK100, bK104, bK107, bK109, bK110, bK112, bK113, bK114, bK115, bK116, bK119, sK255, sK256, sK500, sK700, sK798, sK912, sK1400, sK2000]; done) | (simp (discharger := omega) only [msk, clr_i, clr_r, cI, cN, ← nI_0, nI_ltI, nI_leI, nI_eq, nI_add, pk_mul, pk_sub, nI_clamp, vinI, not_true_eq_false, not_false_eq_true, iK0, iK1, iK2, iK3, iK4, iK5, iKm1, bK6, bK7, bK8, bK9, bK10, bK12, bK14, bK15, bK16, bK20, bK21, bK26, bK30, bK32, bK33, bK45, bK48, bK57, bK59, bK60, bK62, bK63, bK64, bK80, bK93, bK98, bK99, bK100, bK104, bK107, bK109, bK110, bK112, bK113, bK114, bK115, bK116, bK119, sK255, sK256, sK500, sK700, sK798, sK912, sK1400, sK2000]; rfl)) rfl rfl
    · rename_i g2
      rcases h2 t ht1 (by omega) with ⟨q, w⟩ | ⟨q, w⟩
      · refine cc0 [] (md_many hg t h256) (by decide) (by decide) (by decide) rfl (by repeat' (first | exact trivial | refine And.intro ?_ ?_ | rfl)) (by first | rfl | (simp (discharger := omega) only [renVs, renV, rnI, cI, cN, ← nI_0, nI_ltI, nI_leI, nI_eq, nI_add, pk_mul, pk_sub, nI_clamp, vinI, not_true_eq_false, not_false_eq_true, iK0, iK1, iK2, iK3, iK4, iK5, iKm1, bK6, bK7, bK8, bK9, bK10, bK12, bK14, bK15, bK16, bK20, bK21, bK26, bK30, bK32, bK33, bK45, bK48, bK57, bK59, bK60, bK62, bK63, bK64, bK80, bK93, bK98, bK99, bK100, bK104, bK107, bK109, bK110, bK112, bK113, bK114, bK115, bK116, bK119, sK255, sK256, sK500, sK700, sK798, sK912, sK1400, sK2000])) ?_
        (rintro _ _ ⟨rfl, rfl⟩) <;> (repeat' (first | refine And.intro ?_ ?_ | (with_reducible intro h9; exact absurd h9 (by simp only [cI, cN]; decide +kernel)) | with_reducible intro _ | exact (rfl : narrow _ _ = _) | decide | (unfold vp_in; decide)))
        refine cc0 [] (md_most hg (nI m) (nI (pc t))) (by decide) (by decide) (by decide) rfl (by repeat' (first | exact trivial | refine And.intro ?_ ?_ | rfl)) (by first | rfl | (simp (discharger := omega) only [renVs, renV, rnI, cI, cN, ← nI_0, nI_ltI, nI_leI, nI_eq, nI_add, pk_mul, pk_sub, nI_clamp, vinI, not_true_eq_false, not_false_eq_true, iK0, iK1, iK2, iK3, iK4, iK5, iKm1, bK6, bK7, bK8, bK9, bK10, bK12, bK14, bK15, bK16, bK20, bK21, bK26, bK30, bK32, bK33, bK45, bK48, bK57, bK59, bK60, bK62, bK63, bK64, bK80, bK93, bK98, bK99, bK100, bK104, bK107, bK109, bK110, bK112, bK113, bK114, bK115, bK116, bK119, sK255, sK256, sK500, sK700, sK798, sK912, sK1400, sK2000])) ?_
        (rintro _ _ ⟨rfl, rfl⟩) <;> (repeat' (first | refine And.intro ?_ ?_ | (with_reducible intro h9; exact absurd h9 (by simp only [cI, cN]; decide +kernel)) | with_reducible intro _ | exact (rfl : narrow _ _ = _) | decide | (unfold vp_in; decide)))
        have em : mxi (nI m) (nI (pc t)) = nI (max m (pc t)) := by
          unfold mxi
          by_cases z : m < pc t
          · rw [if_pos ((nI_ltI (by omega) (by omega)).mpr z)]; congr 1; omega
          · rw [if_neg (fun y => z ((nI_ltI (by omega) (by omega)).mp y))]; congr 1; omega
        exact AW.cg (ih _ (by omega) (t + 1) (by omega) (by omega) (max m (pc t)) (by omega) (bmx_y hm ht1 w) cb2 h2 rfl) rfl rfl rfl (by first | rfl | (simp (discharger := omega) only [msk, clr_i, clr_r, em, cI, cN, ← nI_0, nI_ltI, nI_leI, nI_eq, nI_add, pk_mul, pk_sub, nI_clamp, vinI, not_true_eq_false, not_false_eq_true, iK0, iK1, iK2, iK3, iK4, iK5, iKm1, bK6, bK7, bK8, bK9, bK10, bK12, bK14, bK15, bK16, bK20, bK21, bK26, bK30, bK32, bK33, bK45, bK48, bK57, bK59, bK60, bK62, bK63, bK64, bK80, bK93, bK98, bK99, bK100, bK104, bK107, bK109, bK110, bK112, bK113, bK114, bK115, bK116, bK119, sK255, sK256, sK500, sK700, sK798, sK912, sK1400, sK2000]; done) | (simp (discharger := omega) only [msk, clr_i, clr_r, em, cI, cN, ← nI_0, nI_ltI, nI_leI, nI_eq, nI_add, pk_mul, pk_sub, nI_clamp, vinI, not_true_eq_false, not_false_eq_true, iK0, iK1, iK2, iK3, iK4, iK5, iKm1, bK6, bK7, bK8, bK9, bK10, bK12, bK14, bK15, bK16, bK20, bK21, bK26, bK30, bK32, bK33, bK45, bK48, bK57, bK59, bK60, bK62, bK63, bK64, bK80, bK93, bK98, bK99, bK100, bK104, bK107, bK109, bK110, bK112, bK113, bK114, bK115, bK116, bK119, sK255, sK256, sK500, sK700, sK798, sK912, sK1400, sK2000]; rfl)) rfl rfl
      · rw [nI_clamp (by omega), show (N.s_cb cb2).cb t = nI 0 from q] at g2
        exact absurd g2 (by simp only [cN]; decide)
set_option maxRecDepth 20000 in
theorem md_mostP (hg : gOK G) (N : nT) (D : pT) (hd : gD D N.g) (fi : Option Nat) (hfi : ∀ f, fi = some f → f < 8) : Spec G 4 0 0 m_X9_mostPoured [.ref 0, .int (fv fi)] (mw N) (fun v w' => (∃ m, m ≤ 8 ∧ bmx D fi (2 ^ D.2.1) m ∧ v = some (.int (nI m))) ∧ ∃ cb, w' = mw (N.s_cb cb)) NX := by
  refine wp_spec (M := M_X9_mostPoured) hg ok_X9_mostPoured (lkp [(4, [true, true, true, true, false, false, false])]) 60 rfl rfl ?_
  repeat' (first | refine And.intro ?_ ?_ | (with_reducible intro h9; exact absurd h9 (by simp only [cI, cN]; decide +kernel)) | with_reducible intro _ | exact (rfl : narrow _ _ = _) | decide | (unfold vp_in; decide))
  exact AW.cg (mm_4 hg N D hd fi hfi (fun m cb q1 q2 => ⟨⟨m, q1, q2, rfl⟩, cb, rfl⟩) _ 1 (Nat.le_refl _) (Nat.two_pow_pos _) 0 (by omega) ⟨Or.inl rfl, fun s a b => by omega⟩ N.cb (fun r a b => by omega) rfl) rfl rfl rfl (by first | rfl | (simp (discharger := omega) only [msk, clr_i, clr_r, cI, cN, ← nI_0, nI_ltI, nI_leI, nI_eq, nI_add, pk_mul, pk_sub, nI_clamp, vinI, not_true_eq_false, not_false_eq_true, iK0, iK1, iK2, iK3, iK4, iK5, iKm1, bK6, bK7, bK8, bK9, bK10, bK12, bK14, bK15, bK16, bK20, bK21, bK26, bK30, bK32, bK33, bK45, bK48, bK57, bK59, bK60, bK62, bK63, bK64, bK80, bK93, bK98, bK99, bK100, bK104, bK107, bK109, bK110, bK112, bK113, bK114, bK115, bK116, bK119, sK255, sK256, sK500, sK700, sK798, sK912, sK1400, sK2000]; done) | (simp (discharger := omega) only [msk, clr_i, clr_r, cI, cN, ← nI_0, nI_ltI, nI_leI, nI_eq, nI_add, pk_mul, pk_sub, nI_clamp, vinI, not_true_eq_false, not_false_eq_true, iK0, iK1, iK2, iK3, iK4, iK5, iKm1, bK6, bK7, bK8, bK9, bK10, bK12, bK14, bK15, bK16, bK20, bK21, bK26, bK30, bK32, bK33, bK45, bK48, bK57, bK59, bK60, bK62, bK63, bK64, bK80, bK93, bK98, bK99, bK100, bK104, bK107, bK109, bK110, bK112, bK113, bK114, bK115, bK116, bK119, sK255, sK256, sK500, sK700, sK798, sK912, sK1400, sK2000]; rfl)) rfl rfl
set_option maxRecDepth 20000 in
theorem mo_pourable (hg : gOK G) (N : nT) (D : pT) (hd : gD D N.g) (b : Int32) : Spec G 5 0 0 m_X9_pourable [.ref 0, .int b] (mw N) (fun v w' =>
    (¬ b = 0 ∧ ∃ m, m ≤ 8 ∧ isMx D 0 m ∧ v = some (.int (nI m)) ∧ ∃ cb, w' = mw ((N.s_co (nI 0)).s_cb cb)) ∨
    (b = 0 ∧ ∃ s q, sim D D.2.1 s q ∧ v = some (.int (nI (pc q))) ∧ w' = mw (N.s_co (nI 0)))) NX := by
  refine wp_spec (M := M_X9_pourable) hg ok_X9_pourable cut0 60 rfl rfl ?_
  repeat' (first | refine And.intro ?_ ?_ | (with_reducible intro h9; exact absurd h9 (by simp only [cI, cN]; decide +kernel)) | with_reducible intro _ | exact (rfl : narrow _ _ = _) | decide | (unfold vp_in; decide))
  · rename_i g
    simp only [cI] at g
    refine cc0 [0, 1, 2, 3, 4, 5, 6, 7, 8] (md_by hg (N.s_co (nI 0)) D hd) (by decide) (by decide) (by decide) rfl (by repeat' (first | exact trivial | refine And.intro ?_ ?_ | rfl)) (by first | rfl | (simp (discharger := omega) only [renVs, renV, rnI, cI, cN, ← nI_0, nI_ltI, nI_leI, nI_eq, nI_add, pk_mul, pk_sub, nI_clamp, vinI, not_true_eq_false, not_false_eq_true, iK0, iK1, iK2, iK3, iK4, iK5, iKm1, bK6, bK7, bK8, bK9, bK10, bK12, bK14, bK15, bK16, bK20, bK21, bK26, bK30, bK32, bK33, bK45, bK48, bK57, bK59, bK60, bK62, bK63, bK64, bK80, bK93, bK98, bK99, bK100, bK104, bK107, bK109, bK110, bK112, bK113, bK114, bK115, bK116, bK119, sK255, sK256, sK500, sK700, sK798, sK912, sK1400, sK2000])) ?_
    (rintro _ _ ⟨⟨s, q, h, rfl⟩, rfl⟩) <;> (repeat' (first | refine And.intro ?_ ?_ | (with_reducible intro h9; exact absurd h9 (by simp only [cI, cN]; decide +kernel)) | with_reducible intro _ | exact (rfl : narrow _ _ = _) | decide | (unfold vp_in; decide)))
    exact Or.inr ⟨g, s, q, h, rfl, rfl⟩
  · rename_i g
    simp only [cN] at g
    refine cc0 [0, 1, 2, 3, 4, 5, 6, 7, 8] (md_mostP hg (N.s_co (nI 0)) D hd none (fun f h => by cases h)) (by decide) (by decide) (by decide) rfl (by repeat' (first | exact trivial | refine And.intro ?_ ?_ | rfl)) (by first | rfl | (simp (discharger := omega) only [renVs, renV, rnI, cI, cN, ← nI_0, nI_ltI, nI_leI, nI_eq, nI_add, pk_mul, pk_sub, nI_clamp, vinI, not_true_eq_false, not_false_eq_true, iK0, iK1, iK2, iK3, iK4, iK5, iKm1, bK6, bK7, bK8, bK9, bK10, bK12, bK14, bK15, bK16, bK20, bK21, bK26, bK30, bK32, bK33, bK45, bK48, bK57, bK59, bK60, bK62, bK63, bK64, bK80, bK93, bK98, bK99, bK100, bK104, bK107, bK109, bK110, bK112, bK113, bK114, bK115, bK116, bK119, sK255, sK256, sK500, sK700, sK798, sK912, sK1400, sK2000])) ?_
    (rintro _ _ ⟨⟨m, h1, h2, rfl⟩, cb, rfl⟩) <;> (repeat' (first | refine And.intro ?_ ?_ | (with_reducible intro h9; exact absurd h9 (by simp only [cI, cN]; decide +kernel)) | with_reducible intro _ | exact (rfl : narrow _ _ = _) | decide | (unfold vp_in; decide)))
    exact Or.inl ⟨g, m, h1, bmx_mx hd.1 h2, rfl, cb, rfl⟩
set_option maxRecDepth 20000 in
theorem mo_first_l (hg : gOK G) (N : nT) (D : pT) (hd : gD D N.g) (M : Nat) (hM8 : M ≤ 8) (hM : isMx D 0 M) (h0 : 0 < M) {K : Option Value → xW → Prop} {KX : Nat → xW → Prop} (hK : ∀ k cb, isFi D M k → (∀ j, j < k → ¬ isFi D M j) → K (some (.int (nI k))) (mw (N.s_cb cb))) : ∀ (c k : Nat) (hk : k < D.2.1) (hj : ∀ j, j < k → ¬ isFi D M j) (cb : Nat → Int32) (hc9 : D.2.1 - k = c),
    AW G M_X9_first 5 0 0 26 [some (.ref 0), some (.int (nI M)), some (.int (nI k))] [] (mw (N.s_cb cb)) K KX := by
  intro c
  induction c using Nat.strongRecOn with | ind c ih => ?_
  intro k hk hj cb hc9
  have hn := hd.1
  refine wp_ok (M := M_X9_first) hg ok_X9_first (lkp [(26, [true, true, true])]) 60 _ _ _ _ _ _ ?_
  repeat' (first | refine And.intro ?_ ?_ | (with_reducible intro h9; exact absurd h9 (by simp only [cI, cN]; decide +kernel)) | with_reducible intro _ | exact (rfl : narrow _ _ = _) | decide | (unfold vp_in; decide))
  refine cc0 [0, 1, 2, 3, 4, 5, 6, 7, 8] (md_mostP hg (N.s_cb cb) D hd (some k) (fun f h => by cases h; omega)) (by decide) (by decide) (by decide) rfl (by repeat' (first | exact trivial | refine And.intro ?_ ?_ | rfl)) (by first | rfl | (simp (discharger := omega) only [renVs, renV, rnI, cI, cN, ← nI_0, nI_ltI, nI_leI, nI_eq, nI_add, pk_mul, pk_sub, nI_clamp, vinI, not_true_eq_false, not_false_eq_true, iK0, iK1, iK2, iK3, iK4, iK5, iKm1, bK6, bK7, bK8, bK9, bK10, bK12, bK14, bK15, bK16, bK20, bK21, bK26, bK30, bK32, bK33, bK45, bK48, bK57, bK59, bK60, bK62, bK63, bK64, bK80, bK93, bK98, bK99, bK100, bK104, bK107, bK109, bK110, bK112, bK113, bK114, bK115, bK116, bK119, sK255, sK256, sK500, sK700, sK798, sK912, sK1400, sK2000])) ?_
  (rintro _ _ ⟨⟨m, h1, h2, rfl⟩, cb2, rfl⟩) <;> (repeat' (first | refine And.intro ?_ ?_ | (with_reducible intro h9; exact absurd h9 (by simp only [cI, cN]; decide +kernel)) | with_reducible intro _ | exact (rfl : narrow _ _ = _) | decide | (unfold vp_in; decide)))
  · rename_i g
    simp (discharger := omega) only [cI, nI_leI] at g
    exact hK k cb2 ((bmx_fi hn h2 hM h0).mp g) hj
  · rename_i g
    simp (discharger := omega) only [cN, nI_leI] at g
    have hnk : ¬ isFi D M k := fun z => g ((bmx_fi hn h2 hM h0).mpr z)
    have hj2 : ∀ j, j < k + 1 → ¬ isFi D M j := fun j hjk => by
      rcases Nat.lt_or_ge j k with z | z
      · exact hj j z
      · have : j = k := by omega
        rw [this]; exact hnk
    have hkn : k + 1 < D.2.1 := by
      obtain ⟨k0, z1, z2⟩ := fi_ex hM h0
      rcases Nat.lt_or_ge k0 (k + 1) with z | z
      · exact absurd z2 (hj2 k0 z)
      · omega
    exact AW.cg (ih _ (by omega) (k + 1) hkn hj2 cb2 rfl) rfl rfl rfl (by first | rfl | (simp (discharger := omega) only [msk, clr_i, clr_r, cI, cN, ← nI_0, nI_ltI, nI_leI, nI_eq, nI_add, pk_mul, pk_sub, nI_clamp, vinI, not_true_eq_false, not_false_eq_true, iK0, iK1, iK2, iK3, iK4, iK5, iKm1, bK6, bK7, bK8, bK9, bK10, bK12, bK14, bK15, bK16, bK20, bK21, bK26, bK30, bK32, bK33, bK45, bK48, bK57, bK59, bK60, bK62, bK63, bK64, bK80, bK93, bK98, bK99, bK100, bK104, bK107, bK109, bK110, bK112, bK113, bK114, bK115, bK116, bK119, sK255, sK256, sK500, sK700, sK798, sK912, sK1400, sK2000]; done) | (simp (discharger := omega) only [msk, clr_i, clr_r, cI, cN, ← nI_0, nI_ltI, nI_leI, nI_eq, nI_add, pk_mul, pk_sub, nI_clamp, vinI, not_true_eq_false, not_false_eq_true, iK0, iK1, iK2, iK3, iK4, iK5, iKm1, bK6, bK7, bK8, bK9, bK10, bK12, bK14, bK15, bK16, bK20, bK21, bK26, bK30, bK32, bK33, bK45, bK48, bK57, bK59, bK60, bK62, bK63, bK64, bK80, bK93, bK98, bK99, bK100, bK104, bK107, bK109, bK110, bK112, bK113, bK114, bK115, bK116, bK119, sK255, sK256, sK500, sK700, sK798, sK912, sK1400, sK2000]; rfl)) rfl rfl
set_option maxRecDepth 20000 in
theorem mo_first (hg : gOK G) (N : nT) (D : pT) (hd : gD D N.g) : Spec G 5 0 0 m_X9_first [.ref 0] (mw N) (fun v w' => ∃ M, isMx D 0 M ∧ (
    (M = 0 ∧ ∃ y cb, v = some (.int y) ∧ w' = mw ((N.s_cb cb).s_co (nI 1))) ∨
    (0 < M ∧ ∃ k cb, isFi D M k ∧ (∀ j, j < k → ¬ isFi D M j) ∧ v = some (.int (nI k)) ∧ w' = mw ((N.s_co (nI 0)).s_cb cb)))) NX := by
  refine wp_spec (M := M_X9_first) hg ok_X9_first (lkp [(26, [true, true, true])]) 60 rfl rfl ?_
  repeat' (first | refine And.intro ?_ ?_ | (with_reducible intro h9; exact absurd h9 (by simp only [cI, cN]; decide +kernel)) | with_reducible intro _ | exact (rfl : narrow _ _ = _) | decide | (unfold vp_in; decide))
  refine cc0 [0, 1, 2, 3, 4, 5, 6, 7, 8] (md_mostP hg N D hd none (fun f h => by cases h)) (by decide) (by decide) (by decide) rfl (by repeat' (first | exact trivial | refine And.intro ?_ ?_ | rfl)) (by first | rfl | (simp (discharger := omega) only [renVs, renV, rnI, cI, cN, ← nI_0, nI_ltI, nI_leI, nI_eq, nI_add, pk_mul, pk_sub, nI_clamp, vinI, not_true_eq_false, not_false_eq_true, iK0, iK1, iK2, iK3, iK4, iK5, iKm1, bK6, bK7, bK8, bK9, bK10, bK12, bK14, bK15, bK16, bK20, bK21, bK26, bK30, bK32, bK33, bK45, bK48, bK57, bK59, bK60, bK62, bK63, bK64, bK80, bK93, bK98, bK99, bK100, bK104, bK107, bK109, bK110, bK112, bK113, bK114, bK115, bK116, bK119, sK255, sK256, sK500, sK700, sK798, sK912, sK1400, sK2000])) ?_
  (rintro _ _ ⟨⟨M, h1, h2, rfl⟩, cb, rfl⟩) <;> (repeat' (first | refine And.intro ?_ ?_ | (with_reducible intro h9; exact absurd h9 (by simp only [cI, cN]; decide +kernel)) | with_reducible intro _ | exact (rfl : narrow _ _ = _) | decide | (unfold vp_in; decide)))
  · rename_i g
    simp (discharger := omega) only [cI, ← nI_0, nI_eq] at g
    have hM := bmx_mx hd.1 h2
    have hk0 : 0 < D.2.1 := by
      obtain ⟨k0, z1, z2⟩ := fi_ex hM (by omega)
      omega
    refine cc0 [0, 1, 2, 3, 4, 5, 6, 7, 8] (md_f0 hg (N.s_cb cb)) (by decide) (by decide) (by decide) rfl (by repeat' (first | exact trivial | refine And.intro ?_ ?_ | rfl)) (by first | rfl | (simp (discharger := omega) only [renVs, renV, rnI, cI, cN, ← nI_0, nI_ltI, nI_leI, nI_eq, nI_add, pk_mul, pk_sub, nI_clamp, vinI, not_true_eq_false, not_false_eq_true, iK0, iK1, iK2, iK3, iK4, iK5, iKm1, bK6, bK7, bK8, bK9, bK10, bK12, bK14, bK15, bK16, bK20, bK21, bK26, bK30, bK32, bK33, bK45, bK48, bK57, bK59, bK60, bK62, bK63, bK64, bK80, bK93, bK98, bK99, bK100, bK104, bK107, bK109, bK110, bK112, bK113, bK114, bK115, bK116, bK119, sK255, sK256, sK500, sK700, sK798, sK912, sK1400, sK2000])) ?_
    (rintro _ _ ⟨rfl, rfl⟩) <;> (repeat' (first | refine And.intro ?_ ?_ | (with_reducible intro h9; exact absurd h9 (by simp only [cI, cN]; decide +kernel)) | with_reducible intro _ | exact (rfl : narrow _ _ = _) | decide | (unfold vp_in; decide)))
    exact AW.cg (mo_first_l hg (N.s_co (nI 0)) D hd M h1 hM (by omega) (fun k cb q1 q2 => ⟨M, hM, Or.inr ⟨by omega, k, cb, q1, q2, rfl, rfl⟩⟩) _ 0 hk0 (fun j hj => by omega) cb rfl) rfl rfl rfl (by first | rfl | (simp (discharger := omega) only [msk, clr_i, clr_r, cI, cN, ← nI_0, nI_ltI, nI_leI, nI_eq, nI_add, pk_mul, pk_sub, nI_clamp, vinI, not_true_eq_false, not_false_eq_true, iK0, iK1, iK2, iK3, iK4, iK5, iKm1, bK6, bK7, bK8, bK9, bK10, bK12, bK14, bK15, bK16, bK20, bK21, bK26, bK30, bK32, bK33, bK45, bK48, bK57, bK59, bK60, bK62, bK63, bK64, bK80, bK93, bK98, bK99, bK100, bK104, bK107, bK109, bK110, bK112, bK113, bK114, bK115, bK116, bK119, sK255, sK256, sK500, sK700, sK798, sK912, sK1400, sK2000]; done) | (simp (discharger := omega) only [msk, clr_i, clr_r, cI, cN, ← nI_0, nI_ltI, nI_leI, nI_eq, nI_add, pk_mul, pk_sub, nI_clamp, vinI, not_true_eq_false, not_false_eq_true, iK0, iK1, iK2, iK3, iK4, iK5, iKm1, bK6, bK7, bK8, bK9, bK10, bK12, bK14, bK15, bK16, bK20, bK21, bK26, bK30, bK32, bK33, bK45, bK48, bK57, bK59, bK60, bK62, bK63, bK64, bK80, bK93, bK98, bK99, bK100, bK104, bK107, bK109, bK110, bK112, bK113, bK114, bK115, bK116, bK119, sK255, sK256, sK500, sK700, sK798, sK912, sK1400, sK2000]; rfl)) rfl rfl
  · rename_i g
    simp (discharger := omega) only [cN, ← nI_0, nI_eq] at g
    refine cc0 [0, 1, 2, 3, 4, 5, 6, 7, 8] (md_f1 hg (N.s_cb cb)) (by decide) (by decide) (by decide) rfl (by repeat' (first | exact trivial | refine And.intro ?_ ?_ | rfl)) (by first | rfl | (simp (discharger := omega) only [renVs, renV, rnI, cI, cN, ← nI_0, nI_ltI, nI_leI, nI_eq, nI_add, pk_mul, pk_sub, nI_clamp, vinI, not_true_eq_false, not_false_eq_true, iK0, iK1, iK2, iK3, iK4, iK5, iKm1, bK6, bK7, bK8, bK9, bK10, bK12, bK14, bK15, bK16, bK20, bK21, bK26, bK30, bK32, bK33, bK45, bK48, bK57, bK59, bK60, bK62, bK63, bK64, bK80, bK93, bK98, bK99, bK100, bK104, bK107, bK109, bK110, bK112, bK113, bK114, bK115, bK116, bK119, sK255, sK256, sK500, sK700, sK798, sK912, sK1400, sK2000])) ?_
    (rintro _ _ ⟨rfl, rfl⟩) <;> (repeat' (first | refine And.intro ?_ ?_ | (with_reducible intro h9; exact absurd h9 (by simp only [cI, cN]; decide +kernel)) | with_reducible intro _ | exact (rfl : narrow _ _ = _) | decide | (unfold vp_in; decide)))
    exact ⟨M, bmx_mx hd.1 h2, Or.inl ⟨by omega, _, cb, rfl, rfl⟩⟩
/-- what isWell answers -/
def wlA (D : pT) (N : nT) (nb : Nat) (y : Int32) : Prop := (y = nI 0 ∧ ¬ N.g 5 = N.g 1 + N.g 6 + isum (fun i => N.b i 2) nb) ∨ (N.g 5 = N.g 1 + N.g 6 + isum (fun i => N.b i 2) nb ∧ ∃ M s q, isMx D 0 M ∧ sim D D.2.1 s q ∧ ((y = nI 1 ∧ pc q ≤ M) ∨ (y = nI 0 ∧ ¬ pc q ≤ M)))
set_option maxRecDepth 20000 in
theorem mo_well_l (hg : gOK G) (N : nT) (D : pT) (hd : gD D N.g) (nr nb : Nat) (hr : N.g 3 = nI nr) (hr4 : nr ≤ 4) (hb : N.nb nb) (hon : ∀ r, r < nr → gon N.g (nI r) nb ≤ 3) {K : Option Value → xW → Prop} {KX : Nat → xW → Prop} (hK : ∀ y cb, wlA D N nb y → K (some (.int y)) (mw (N.s_cb cb))) : ∀ (c k : Nat) (hk : k ≤ nr) (hc9 : nr - k = c),
    AW G M_X9_isWell 5 0 0 7 [some (.ref 0), some (.int (nI k))] [] (mw N) K KX := by
  intro c
  induction c using Nat.strongRecOn with | ind c ih => ?_
  intro k hk hc9
  have hn := hd.1
  have e3 : N.g (Int32.ofInt 3).toNatClampNeg = nI nr := hr
  refine wp_ok (M := M_X9_isWell) hg ok_X9_isWell (lkp [(7, [true, true])]) 60 _ _ _ _ _ _ ?_
  repeat' (first | refine And.intro ?_ ?_ | (with_reducible intro h9; exact absurd h9 (by simp only [cI, cN]; decide +kernel)) | with_reducible intro _ | exact (rfl : narrow _ _ = _) | decide | (unfold vp_in; decide))
  · rename_i g
    refine cc0 [0, 1, 2, 3, 4, 5, 6, 7, 8] (md_all hg N nb hb 2 (by omega)) (by decide) (by decide) (by decide) rfl (by repeat' (first | exact trivial | refine And.intro ?_ ?_ | rfl)) (by first | rfl | (simp (discharger := omega) only [renVs, renV, rnI, cI, cN, ← nI_0, nI_ltI, nI_leI, nI_eq, nI_add, pk_mul, pk_sub, nI_clamp, vinI, not_true_eq_false, not_false_eq_true, iK0, iK1, iK2, iK3, iK4, iK5, iKm1, bK6, bK7, bK8, bK9, bK10, bK12, bK14, bK15, bK16, bK20, bK21, bK26, bK30, bK32, bK33, bK45, bK48, bK57, bK59, bK60, bK62, bK63, bK64, bK80, bK93, bK98, bK99, bK100, bK104, bK107, bK109, bK110, bK112, bK113, bK114, bK115, bK116, bK119, sK255, sK256, sK500, sK700, sK798, sK912, sK1400, sK2000])) ?_
    (rintro _ _ ⟨rfl, rfl⟩) <;> (repeat' (first | refine And.intro ?_ ?_ | (with_reducible intro h9; exact absurd h9 (by simp only [cI, cN]; decide +kernel)) | with_reducible intro _ | exact (rfl : narrow _ _ = _) | decide | (unfold vp_in; decide)))
    · rename_i g2
      exact hK (nI 0) N.cb (Or.inl ⟨rfl, g2⟩)
    · rename_i g2
      replace g2 : N.g 5 = N.g 1 + N.g 6 + isum (fun i => N.b i 2) nb := g2
      refine cc0 [0, 1, 2, 3, 4, 5, 6, 7, 8] (md_mostP hg N D hd none (fun f h => by cases h)) (by decide) (by decide) (by decide) rfl (by repeat' (first | exact trivial | refine And.intro ?_ ?_ | rfl)) (by first | rfl | (simp (discharger := omega) only [renVs, renV, rnI, cI, cN, ← nI_0, nI_ltI, nI_leI, nI_eq, nI_add, pk_mul, pk_sub, nI_clamp, vinI, not_true_eq_false, not_false_eq_true, iK0, iK1, iK2, iK3, iK4, iK5, iKm1, bK6, bK7, bK8, bK9, bK10, bK12, bK14, bK15, bK16, bK20, bK21, bK26, bK30, bK32, bK33, bK45, bK48, bK57, bK59, bK60, bK62, bK63, bK64, bK80, bK93, bK98, bK99, bK100, bK104, bK107, bK109, bK110, bK112, bK113, bK114, bK115, bK116, bK119, sK255, sK256, sK500, sK700, sK798, sK912, sK1400, sK2000])) ?_
      (rintro _ _ ⟨⟨M, h1, h2, rfl⟩, cb, rfl⟩) <;> (repeat' (first | refine And.intro ?_ ?_ | (with_reducible intro h9; exact absurd h9 (by simp only [cI, cN]; decide +kernel)) | with_reducible intro _ | exact (rfl : narrow _ _ = _) | decide | (unfold vp_in; decide)))
      refine cc0 [0, 1, 2, 3, 4, 5, 6, 7, 8] (md_by hg (N.s_cb cb) D hd) (by decide) (by decide) (by decide) rfl (by repeat' (first | exact trivial | refine And.intro ?_ ?_ | rfl)) (by first | rfl | (simp (discharger := omega) only [renVs, renV, rnI, cI, cN, ← nI_0, nI_ltI, nI_leI, nI_eq, nI_add, pk_mul, pk_sub, nI_clamp, vinI, not_true_eq_false, not_false_eq_true, iK0, iK1, iK2, iK3, iK4, iK5, iKm1, bK6, bK7, bK8, bK9, bK10, bK12, bK14, bK15, bK16, bK20, bK21, bK26, bK30, bK32, bK33, bK45, bK48, bK57, bK59, bK60, bK62, bK63, bK64, bK80, bK93, bK98, bK99, bK100, bK104, bK107, bK109, bK110, bK112, bK113, bK114, bK115, bK116, bK119, sK255, sK256, sK500, sK700, sK798, sK912, sK1400, sK2000])) ?_
      (rintro _ _ ⟨⟨s, q, h, rfl⟩, rfl⟩) <;> (repeat' (first | refine And.intro ?_ ?_ | (with_reducible intro h9; exact absurd h9 (by simp only [cI, cN]; decide +kernel)) | with_reducible intro _ | exact (rfl : narrow _ _ = _) | decide | (unfold vp_in; decide)))
      · rename_i g3
        have hpq : pc q ≤ 8 := cnt_le _ _
        simp (discharger := omega) only [cI, nI_ltI] at g3
        exact hK (nI 0) cb (Or.inr ⟨g2, M, s, q, bmx_mx hn h2, h, Or.inr ⟨rfl, by omega⟩⟩)
      · rename_i g3
        have hpq : pc q ≤ 8 := cnt_le _ _
        simp (discharger := omega) only [cN, nI_ltI] at g3
        exact hK (nI 1) cb (Or.inr ⟨g2, M, s, q, bmx_mx hn h2, h, Or.inl ⟨rfl, by omega⟩⟩)
  · rename_i g
    simp (discharger := omega) only [cN, e3, nI_leI] at g
    have hk3 := hon k (by omega)
    refine cc0 [0, 1, 2, 3, 4, 5, 6, 7, 8] (md_on hg N nb hb (nI k)) (by decide) (by decide) (by decide) rfl (by repeat' (first | exact trivial | refine And.intro ?_ ?_ | rfl)) (by first | rfl | (simp (discharger := omega) only [renVs, renV, rnI, cI, cN, ← nI_0, nI_ltI, nI_leI, nI_eq, nI_add, pk_mul, pk_sub, nI_clamp, vinI, not_true_eq_false, not_false_eq_true, iK0, iK1, iK2, iK3, iK4, iK5, iKm1, bK6, bK7, bK8, bK9, bK10, bK12, bK14, bK15, bK16, bK20, bK21, bK26, bK30, bK32, bK33, bK45, bK48, bK57, bK59, bK60, bK62, bK63, bK64, bK80, bK93, bK98, bK99, bK100, bK104, bK107, bK109, bK110, bK112, bK113, bK114, bK115, bK116, bK119, sK255, sK256, sK500, sK700, sK798, sK912, sK1400, sK2000])) ?_
    (rintro _ _ ⟨rfl, rfl⟩) <;> (repeat' (first | refine And.intro ?_ ?_ | (with_reducible intro h9; exact absurd h9 (by simp only [cI, cN]; decide +kernel)) | with_reducible intro _ | exact (rfl : narrow _ _ = _) | decide | (unfold vp_in; decide)))
    · exact AW.cg (ih _ (by omega) (k + 1) (by omega) rfl) rfl rfl rfl (by first | rfl | (simp (discharger := omega) only [msk, clr_i, clr_r, cI, cN, ← nI_0, nI_ltI, nI_leI, nI_eq, nI_add, pk_mul, pk_sub, nI_clamp, vinI, not_true_eq_false, not_false_eq_true, iK0, iK1, iK2, iK3, iK4, iK5, iKm1, bK6, bK7, bK8, bK9, bK10, bK12, bK14, bK15, bK16, bK20, bK21, bK26, bK30, bK32, bK33, bK45, bK48, bK57, bK59, bK60, bK62, bK63, bK64, bK80, bK93, bK98, bK99, bK100, bK104, bK107, bK109, bK110, bK112, bK113, bK114, bK115, bK116, bK119, sK255, sK256, sK500, sK700, sK798, sK912, sK1400, sK2000]; done) | (simp (discharger := omega) only [msk, clr_i, clr_r, cI, cN, ← nI_0, nI_ltI, nI_leI, nI_eq, nI_add, pk_mul, pk_sub, nI_clamp, vinI, not_true_eq_false, not_false_eq_true, iK0, iK1, iK2, iK3, iK4, iK5, iKm1, bK6, bK7, bK8, bK9, bK10, bK12, bK14, bK15, bK16, bK20, bK21, bK26, bK30, bK32, bK33, bK45, bK48, bK57, bK59, bK60, bK62, bK63, bK64, bK80, bK93, bK98, bK99, bK100, bK104, bK107, bK109, bK110, bK112, bK113, bK114, bK115, bK116, bK119, sK255, sK256, sK500, sK700, sK798, sK912, sK1400, sK2000]; rfl)) rfl rfl
    · rename_i g2
      simp (discharger := omega) only [cN, iK3, nI_leI] at g2
      omega
set_option maxRecDepth 20000 in
theorem mo_well (hg : gOK G) (N : nT) (D : pT) (hd : gD D N.g) (nr nb : Nat) (hr : N.g 3 = nI nr) (hr4 : nr ≤ 4) (hb : N.nb nb) (hon : ∀ r, r < nr → gon N.g (nI r) nb ≤ 3) : Spec G 5 0 0 m_X9_isWell [.ref 0] (mw N) (fun v w' => ∃ y cb, wlA D N nb y ∧ v = some (.int y) ∧ w' = mw ((N.s_co (nI 0)).s_cb cb)) NX := by
  refine wp_spec (M := M_X9_isWell) hg ok_X9_isWell (lkp [(7, [true, true])]) 60 rfl rfl ?_
  repeat' (first | refine And.intro ?_ ?_ | (with_reducible intro h9; exact absurd h9 (by simp only [cI, cN]; decide +kernel)) | with_reducible intro _ | exact (rfl : narrow _ _ = _) | decide | (unfold vp_in; decide))
  exact AW.cg (mo_well_l hg (N.s_co (nI 0)) D hd nr nb hr hr4 hb hon (fun y cb q => ⟨y, cb, q, rfl, rfl⟩) _ 0 (by omega) rfl) rfl rfl rfl (by first | rfl | (simp (discharger := omega) only [msk, clr_i, clr_r, cI, cN, ← nI_0, nI_ltI, nI_leI, nI_eq, nI_add, pk_mul, pk_sub, nI_clamp, vinI, not_true_eq_false, not_false_eq_true, iK0, iK1, iK2, iK3, iK4, iK5, iKm1, bK6, bK7, bK8, bK9, bK10, bK12, bK14, bK15, bK16, bK20, bK21, bK26, bK30, bK32, bK33, bK45, bK48, bK57, bK59, bK60, bK62, bK63, bK64, bK80, bK93, bK98, bK99, bK100, bK104, bK107, bK109, bK110, bK112, bK113, bK114, bK115, bK116, bK119, sK255, sK256, sK500, sK700, sK798, sK912, sK1400, sK2000]; done) | (simp (discharger := omega) only [msk, clr_i, clr_r, cI, cN, ← nI_0, nI_ltI, nI_leI, nI_eq, nI_add, pk_mul, pk_sub, nI_clamp, vinI, not_true_eq_false, not_false_eq_true, iK0, iK1, iK2, iK3, iK4, iK5, iKm1, bK6, bK7, bK8, bK9, bK10, bK12, bK14, bK15, bK16, bK20, bK21, bK26, bK30, bK32, bK33, bK45, bK48, bK57, bK59, bK60, bK62, bK63, bK64, bK80, bK93, bK98, bK99, bK100, bK104, bK107, bK109, bK110, bK112, bK113, bK114, bK115, bK116, bK119, sK255, sK256, sK500, sK700, sK798, sK912, sK1400, sK2000]; rfl)) rfl rfl
end NN
