/-! ===== the law's own body: the walk is right there too ===== -/
def mOKL (M : mT) : Prop := cpOK M.m.y.cls M.ini M.cp ∧ codeOK M ∧ thrOK M ∧ (∀ pc k np tg, M.cd pc = some (.invokevirtual k, np, tg) → hndOK M pc) ∧ (M.ini = true → M.m.y.name = "<init>") ∧ (M.m.hh ≠ [] → M.ini = false) ∧ plainName M.m.y.cls = true ∧ (∀ pc i np tg, M.cd pc = some (i, np, tg) → rtOK M i)
section QL
variable {G : gT} {M : mT} {d bc bs pc : Nat} {ls : List (Option Value)} {st : List Value} {w : xW} {K : Option Value → xW → Prop} {KX : Nat → xW → Prop} {go : recT}
set_option maxRecDepth 20000 in
theorem wpI_okL (hg : gOK G) (hm : mOKL M) (hgo : hgoT G M d K KX go) {i : Instr} {np tg : Nat} (hcd : M.cd pc = some (i, np, tg)) (h : wpI G M d K KX go bc bs pc ls st w i np tg) : AW G M d bc bs pc ls st w K KX := by
  obtain ⟨⟨cpf, cps, cpm, cpc, cpn⟩, hco, hth, hhn, hini, -, -, hre⟩ := hm
  obtain ⟨⟨n, hd, hn⟩, hbr, hsw⟩ := hco pc i np tg hcd
  have hs := hg.cat
  have hsa := hg.2.2.2.2.1
  cases i with
  | iconst n =>
    obtain ⟨rfl, rfl⟩ := hn rfl
    exact q_iconst hgo hd h
  | bipush n =>
    obtain ⟨rfl, rfl⟩ := hn rfl
    exact q_bipush hgo hd h
  | sipush n =>
    obtain ⟨rfl, rfl⟩ := hn rfl
    exact q_sipush hgo hd h
  | aconst_null =>
    obtain ⟨rfl, rfl⟩ := hn rfl
    exact q_aconst_null hgo hd h
  | fconst f =>
    obtain ⟨rfl, rfl⟩ := hn rfl
    delta wpI at h
    dsimp only at h
    split at h
    · exact q_fconst0 hgo hd h
    · exact h.elim
  | dconst f =>
    obtain ⟨rfl, rfl⟩ := hn rfl
    delta wpI at h
    dsimp only at h
    split at h
    · exact q_dconst0 hgo hd h
    · exact h.elim
  | ldc k =>
    obtain ⟨rfl, rfl⟩ := hn rfl
    delta wpI at h
    dsimp only at h
    split at h
    · exact q_ldc hgo hg (cpn _ _ (by assumption)) hd h
    · exact h.elim
  | iload_n k =>
    obtain ⟨rfl, rfl⟩ := hn rfl
    delta wpI at h
    dsimp only at h
    split at h
    · exact q_iload_n hgo hd (by assumption) h
    · exact h.elim
  | iload k =>
    obtain ⟨rfl, rfl⟩ := hn rfl
    delta wpI at h
    dsimp only at h
    split at h
    · exact q_iload hgo hd (by assumption) h
    · exact h.elim
  | fload k =>
    obtain ⟨rfl, rfl⟩ := hn rfl
    delta wpI at h
    dsimp only at h
    split at h
    · exact q_fload hgo hd (by assumption) h
    · exact h.elim
  | dload k =>
    obtain ⟨rfl, rfl⟩ := hn rfl
    delta wpI at h
    dsimp only at h
    split at h
    · exact q_dload hgo hd (by assumption) h
    · exact h.elim
  | aload_n k =>
    obtain ⟨rfl, rfl⟩ := hn rfl
    delta wpI at h
    dsimp only at h
    split at h
    · exact q_aload_n hgo hsa (Or.inr (Or.inl ⟨_, rfl⟩)) hd (by assumption) h
    · exact q_aload_n hgo hsa (Or.inl rfl) hd (by assumption) h
    · exact q_aload_n hgo hsa (Or.inr (Or.inr ⟨_, rfl⟩)) hd (by assumption) h
    · exact h.elim
  | aload k =>
    obtain ⟨rfl, rfl⟩ := hn rfl
    delta wpI at h
    dsimp only at h
    split at h
    · exact q_aload hgo hsa (Or.inr (Or.inl ⟨_, rfl⟩)) hd (by assumption) h
    · exact q_aload hgo hsa (Or.inl rfl) hd (by assumption) h
    · exact q_aload hgo hsa (Or.inr (Or.inr ⟨_, rfl⟩)) hd (by assumption) h
    · exact h.elim
  | istore_n k =>
    obtain ⟨rfl, rfl⟩ := hn rfl
    delta wpI at h
    dsimp only at h
    split at h
    · exact q_istore_n hgo hs (wpS1_ok h).1 hd (wpS1_ok h).2
    · exact h.elim
  | istore k =>
    obtain ⟨rfl, rfl⟩ := hn rfl
    delta wpI at h
    dsimp only at h
    split at h
    · exact q_istore hgo hs (wpS1_ok h).1 hd (wpS1_ok h).2
    · exact h.elim
  | fstore k =>
    obtain ⟨rfl, rfl⟩ := hn rfl
    delta wpI at h
    dsimp only at h
    split at h
    · exact q_fstore hgo hs (wpS1_ok h).1 hd (wpS1_ok h).2
    · exact h.elim
  | dstore k =>
    obtain ⟨rfl, rfl⟩ := hn rfl
    delta wpI at h
    dsimp only at h
    split at h
    · exact q_dstore hgo hs (wpS2_ok h).1 hd (wpS2_ok h).2
    · exact h.elim
  | astore_n k =>
    obtain ⟨rfl, rfl⟩ := hn rfl
    delta wpI at h
    dsimp only at h
    split at h
    · exact q_astore_n hgo hs hsa (Or.inr (Or.inl ⟨_, rfl⟩)) (wpS1_ok h).1 hd (wpS1_ok h).2
    · exact q_astore_n hgo hs hsa (Or.inl rfl) (wpS1_ok h).1 hd (wpS1_ok h).2
    · exact q_astore_n hgo hs hsa (Or.inr (Or.inr ⟨_, rfl⟩)) (wpS1_ok h).1 hd (wpS1_ok h).2
    · exact h.elim
  | astore k =>
    obtain ⟨rfl, rfl⟩ := hn rfl
    delta wpI at h
    dsimp only at h
    split at h
    · exact q_astore hgo hs hsa (Or.inr (Or.inl ⟨_, rfl⟩)) (wpS1_ok h).1 hd (wpS1_ok h).2
    · exact q_astore hgo hs hsa (Or.inl rfl) (wpS1_ok h).1 hd (wpS1_ok h).2
    · exact q_astore hgo hs hsa (Or.inr (Or.inr ⟨_, rfl⟩)) (wpS1_ok h).1 hd (wpS1_ok h).2
    · exact h.elim
  | iinc k z =>
    obtain ⟨rfl, rfl⟩ := hn rfl
    delta wpI at h
    dsimp only at h
    split at h
    · exact q_iinc hgo hs (wpS1_ok h).1 hd (by assumption) (wpS1_ok h).2
    · exact h.elim
  | iadd =>
    obtain ⟨rfl, rfl⟩ := hn rfl
    delta wpI at h
    dsimp only at h
    split at h
    · exact q_iadd hgo hd h
    · exact h.elim
  | isub =>
    obtain ⟨rfl, rfl⟩ := hn rfl
    delta wpI at h
    dsimp only at h
    split at h
    · exact q_isub hgo hd h
    · exact h.elim
  | imul =>
    obtain ⟨rfl, rfl⟩ := hn rfl
    delta wpI at h
    dsimp only at h
    split at h
    · exact q_imul hgo hd h
    · exact h.elim
  | iand =>
    obtain ⟨rfl, rfl⟩ := hn rfl
    delta wpI at h
    dsimp only at h
    split at h
    · exact q_iand hgo hd h
    · exact h.elim
  | ior =>
    obtain ⟨rfl, rfl⟩ := hn rfl
    delta wpI at h
    dsimp only at h
    split at h
    · exact q_ior hgo hd h
    · exact h.elim
  | ixor =>
    obtain ⟨rfl, rfl⟩ := hn rfl
    delta wpI at h
    dsimp only at h
    split at h
    · exact q_ixor hgo hd h
    · exact h.elim
  | ishl =>
    obtain ⟨rfl, rfl⟩ := hn rfl
    delta wpI at h
    dsimp only at h
    split at h
    · exact q_ishl hgo hd h
    · exact h.elim
  | ishr =>
    obtain ⟨rfl, rfl⟩ := hn rfl
    delta wpI at h
    dsimp only at h
    split at h
    · exact q_ishr hgo hd h
    · exact h.elim
  | idiv =>
    obtain ⟨rfl, rfl⟩ := hn rfl
    delta wpI at h
    dsimp only at h
    split at h
    · exact q_idiv hgo h.1 hd h.2
    · exact h.elim
  | irem =>
    obtain ⟨rfl, rfl⟩ := hn rfl
    delta wpI at h
    dsimp only at h
    split at h
    · exact q_irem hgo h.1 hd h.2
    · exact h.elim
  | ddiv =>
    obtain ⟨rfl, rfl⟩ := hn rfl
    delta wpI at h
    dsimp only at h
    split at h
    · exact q_ddiv hgo h.1 hd h.2
    · exact h.elim
  | fdiv =>
    obtain ⟨rfl, rfl⟩ := hn rfl
    delta wpI at h
    dsimp only at h
    split at h
    · exact q_fdiv hgo h.1 hd h.2
    · exact h.elim
  | lcmp =>
    obtain ⟨rfl, rfl⟩ := hn rfl
    delta wpI at h
    dsimp only at h
    split at h
    · exact q_lcmp hgo hd h
    · exact h.elim
  | dcmp op =>
    obtain ⟨rfl, rfl⟩ := hn rfl
    delta wpI at h
    dsimp only at h
    split at h
    · exact q_dcmp hgo hd h
    · exact h.elim
  | fcmp op =>
    obtain ⟨rfl, rfl⟩ := hn rfl
    delta wpI at h
    dsimp only at h
    split at h
    · exact q_fcmp hgo hd h
    · exact h.elim
  | ineg =>
    obtain ⟨rfl, rfl⟩ := hn rfl
    delta wpI at h
    dsimp only at h
    split at h
    · exact q_ineg hgo hd h
    · exact h.elim
  | i2l =>
    obtain ⟨rfl, rfl⟩ := hn rfl
    delta wpI at h
    dsimp only at h
    split at h
    · exact q_i2l hgo hd h
    · exact h.elim
  | i2b =>
    obtain ⟨rfl, rfl⟩ := hn rfl
    delta wpI at h
    dsimp only at h
    split at h
    · exact q_i2b hgo hd h
    · exact h.elim
  | i2c =>
    obtain ⟨rfl, rfl⟩ := hn rfl
    delta wpI at h
    dsimp only at h
    split at h
    · exact q_i2c hgo hd h
    · exact h.elim
  | i2d =>
    obtain ⟨rfl, rfl⟩ := hn rfl
    delta wpI at h
    dsimp only at h
    split at h
    · exact q_i2d hgo hd h
    · exact h.elim
  | i2f =>
    obtain ⟨rfl, rfl⟩ := hn rfl
    delta wpI at h
    dsimp only at h
    split at h
    · exact q_i2f hgo hd h
    · exact h.elim
  | f2d =>
    obtain ⟨rfl, rfl⟩ := hn rfl
    delta wpI at h
    dsimp only at h
    split at h
    · exact q_f2d hgo h.1 hd h.2
    · exact h.elim
  | dup =>
    obtain ⟨rfl, rfl⟩ := hn rfl
    delta wpI at h
    dsimp only at h
    split at h
    · exact q_dup hgo hs rfl hd h
    · exact q_dup hgo hs rfl hd h
    · exact h.elim
  | dup2 =>
    obtain ⟨rfl, rfl⟩ := hn rfl
    delta wpI at h
    dsimp only at h
    split at h
    · exact q_dup2 hgo hs rfl rfl hd h
    · exact h.elim
  | dup_x1 =>
    obtain ⟨rfl, rfl⟩ := hn rfl
    delta wpI at h
    dsimp only at h
    split at h
    · exact q_dup_x1 hgo hs rfl rfl hd h
    · exact h.elim
  | pop =>
    obtain ⟨rfl, rfl⟩ := hn rfl
    delta wpI at h
    dsimp only at h
    split at h
    · exact q_pop hgo hs rfl hd h
    · exact q_pop hgo hs rfl hd h
    · exact h.elim
  | goto o =>
    obtain ⟨rfl, rfl⟩ := hn rfl
    exact q_goto hgo (hbr _ rfl) hd h
  | ifCond c o =>
    obtain ⟨rfl, rfl⟩ := hn rfl
    delta wpI at h
    dsimp only at h
    split at h
    · exact q_if hgo (hbr _ rfl) hd h
    · exact h.elim
  | if_icmp c o =>
    obtain ⟨rfl, rfl⟩ := hn rfl
    delta wpI at h
    dsimp only at h
    split at h
    · exact q_ic hgo (hbr _ rfl) hd h
    · exact h.elim
  | ifnonnull o =>
    obtain ⟨rfl, rfl⟩ := hn rfl
    delta wpI at h
    dsimp only at h
    split at h
    · exact q_ifnonnull hgo (hbr _ rfl) hd h
    · exact q_ifnonnullN hgo hd h
    · exact h.elim
  | ifnull o =>
    obtain ⟨rfl, rfl⟩ := hn rfl
    delta wpI at h
    dsimp only at h
    split at h
    · exact q_ifnull hgo hd h
    · exact q_ifnullN hgo (hbr _ rfl) hd h
    · exact h.elim
  | if_acmp c o =>
    obtain ⟨rfl, rfl⟩ := hn rfl
    delta wpI at h
    dsimp only at h
    split at h
    · split at h
      · rename_i e1 e2 e3 e4 e5
        exact q_acmp_eq hgo hg ⟨Nat.le_of_ble_eq_true e1, Nat.le_of_ble_eq_true e2⟩ ⟨Nat.le_of_ble_eq_true e3, Nat.le_of_ble_eq_true e4⟩ (hbr _ rfl) hd ⟨fun _ => h, fun q => absurd (Nat.eq_of_beq_eq_true e5) q⟩
      · rename_i e1 e2 e3 e4 e5
        exact q_acmp_eq hgo hg ⟨Nat.le_of_ble_eq_true e1, Nat.le_of_ble_eq_true e2⟩ ⟨Nat.le_of_ble_eq_true e3, Nat.le_of_ble_eq_true e4⟩ (hbr _ rfl) hd ⟨fun q => absurd q (Nat.ne_of_beq_eq_false e5), fun _ => h⟩
      · exact h.elim
    · split at h
      · rename_i e1 e2 e3 e4 e5
        exact q_acmp_ne hgo hg ⟨Nat.le_of_ble_eq_true e1, Nat.le_of_ble_eq_true e2⟩ ⟨Nat.le_of_ble_eq_true e3, Nat.le_of_ble_eq_true e4⟩ (hbr _ rfl) hd ⟨fun q => absurd (Nat.eq_of_beq_eq_true e5) q, fun _ => h⟩
      · rename_i e1 e2 e3 e4 e5
        exact q_acmp_ne hgo hg ⟨Nat.le_of_ble_eq_true e1, Nat.le_of_ble_eq_true e2⟩ ⟨Nat.le_of_ble_eq_true e3, Nat.le_of_ble_eq_true e4⟩ (hbr _ rfl) hd ⟨fun _ => h, fun q => absurd q (Nat.ne_of_beq_eq_false e5)⟩
      · exact h.elim
    · exact h.elim
  | tableswitch dfl lo hi offs =>
    delta wpI at h
    dsimp only at h
    split at h
    · split at h
      · rename_i lo2 ts df hsw2
        obtain ⟨t, h3, h4⟩ := h
        obtain ⟨rfl, e1, e2, e3⟩ := hsw _ _ _ hsw2
        exact q_switch hgo hd ⟨e1, e2, e3⟩ h3 h4
      · exact h.elim
    · exact h.elim
  | getfield k =>
    obtain ⟨rfl, rfl⟩ := hn rfl
    delta wpI at h
    dsimp only at h
    split at h
    · rename_i ci j _ a st hf
      split at h
      · split at h
        · rename_i e1
          cases Nat.eq_of_beq_eq_true e1
          split at h
          · exact q_getfield hgo hg (cpf _ _ _ _ _ hf) (by assumption) (by assumption) hd h
          · exact h.elim
        · exact h.elim
      · exact h.elim
    · exact h.elim
  | putfield k =>
    obtain ⟨rfl, rfl⟩ := hn rfl
    delta wpI at h
    dsimp only at h
    split at h
    · rename_i ci j ty fin v a st hf
      split at h
      · exact h.elim
      · rename_i hfi
        have hfi : fin = true → M.ini = true := fun q => by
          subst q
          cases hq : M.ini with
          | true => rfl
          | false => rw [hq] at hfi; cases hfi
        split at h
        · obtain ⟨fs, q1, q2, q3⟩ := wpPut_ok h
          exact q_putfield hgo hg (cpf _ _ _ _ _ hf) hfi q1 q2 (fun _ cv hv => by cases (show cv = _ from hv); exact ⟨rfl, rfl⟩) hd q3
        · obtain ⟨fs, q1, q2, q3⟩ := wpPut_ok h
          exact q_putfield hgo hg (cpf _ _ _ _ _ hf) hfi q1 q2 (fun _ cv ⟨_, _, hv⟩ => by cases hv; exact ⟨rfl, rfl⟩) hd q3
        · obtain ⟨fs, q1, q2, q3⟩ := wpPut_ok h
          exact q_putfield hgo hg (cpf _ _ _ _ _ hf) hfi q1 q2 (fun _ cv hv => by cases (show cv = _ from hv); exact ⟨rfl, rfl⟩) hd q3
        · obtain ⟨fs, q1, q2, q3⟩ := wpPut_ok h
          exact q_putfield hgo hg (cpf _ _ _ _ _ hf) hfi q1 q2 (fun _ cv ⟨_, _, hv⟩ => by cases hv; exact ⟨rfl, rfl⟩) hd q3
        · obtain ⟨g1, g2, h⟩ := h
          obtain ⟨fs, q1, q2, q3⟩ := wpPut_ok h
          exact q_putfield hgo hg (cpf _ _ _ _ _ hf) hfi q1 q2 (fun _ cv hv => by cases (show cv = _ from hv); exact ⟨g1, g2⟩) hd q3
        · exact h.elim
    · exact h.elim
  | getstatic k =>
    obtain ⟨rfl, rfl⟩ := hn rfl
    delta wpI at h
    dsimp only at h
    split at h
    · exact q_getstatic hgo hg (cps _ _ (by assumption)) hd h
    · exact h.elim
  | new k =>
    obtain ⟨rfl, rfl⟩ := hn rfl
    delta wpI at h
    dsimp only at h
    split at h
    · rename_i ci hc
      split at h
      · rename_i n9 fs hnf
        obtain ⟨e1, e2, h⟩ := h
        rw [fN_eq, fL_eq] at h
        exact q_new hgo hg ((cpc _ _ hc).1 _ _ hnf) (newF_pl hnf) e1 e2 hd h
      · exact h.elim
    · rename_i x hc
      split at h
      · exact q_throw ⟨_, _, _, hcd, hc⟩ h.1 h.2.1 h.2.2.1 h.2.2.2
      · exact h.elim
    · exact h.elim
  | newarray t =>
    obtain ⟨rfl, rfl⟩ := hn rfl
    delta wpI at h
    dsimp only at h
    split at h
    · rename_i n9 st
      split at h
      · obtain ⟨e1, e2, e3, e4, h⟩ := wpNewA_ok h
        exact q_newarray hgo hg (at9 := .int) (fun n => .inl (0, n, .inl (fun _ => 0))) (n9.toNatClampNeg, .inl (fun _ => 0)) rfl rfl (fun _ _ q => q) rfl (fun _ => rfl) (fun _ => rfl) (by decide) (List.mem_append_right _ (List.mem_of_getElem? (i := 71) (by decide +kernel))) e1 e2 e3 e4 hd h
      · obtain ⟨e1, e2, e3, e4, h⟩ := wpNewA_ok h
        exact q_newarray hgo hg (at9 := .boolean) (fun n => .inl (1, n, .inl (fun _ => 0))) (n9.toNatClampNeg, .inl (fun _ => 0)) rfl rfl (fun _ _ q => q) rfl (fun _ => rfl) (fun _ => rfl) (by decide) (List.mem_append_right _ (List.mem_of_getElem? (i := 178) (by decide +kernel))) e1 e2 e3 e4 hd h
      · obtain ⟨e1, e2, e3, e4, h⟩ := wpNewA_ok h
        exact q_newarray hgo hg (at9 := .char) (fun n => .inl (2, n, .inl (fun _ => 0))) (n9.toNatClampNeg, .inl (fun _ => 0)) rfl rfl (fun _ _ q => q) rfl (fun _ => rfl) (fun _ => rfl) (by decide) (List.mem_append_right _ (List.mem_of_getElem? (i := 167) (by decide +kernel))) e1 e2 e3 e4 hd h
      · obtain ⟨e1, e2, e3, e4, h⟩ := wpNewA_ok h
        exact q_newarray hgo hg (at9 := .byte) (fun n => .inl (3, n, .inl (fun _ => 0))) (n9.toNatClampNeg, .inl (fun _ => 0)) rfl rfl (fun _ _ q => q) rfl (fun _ => rfl) (fun _ => rfl) (by decide) (List.mem_append_right _ (List.mem_of_getElem? (i := 239) (by decide +kernel))) e1 e2 e3 e4 hd h
      · obtain ⟨e1, e2, e3, e4, h⟩ := wpNewA_ok h
        exact q_newarray hgo hg (at9 := .long) (fun n => .inl (4, n, .inr (.inl (fun _ => 0)))) (n9.toNatClampNeg, .inr (.inl (fun _ => 0))) rfl rfl (fun _ _ q => q) rfl (fun _ => rfl) (fun _ => rfl) (by decide) (List.mem_append_right _ (List.mem_of_getElem? (i := 1821) (by decide +kernel))) e1 e2 e3 e4 hd h
      · obtain ⟨e1, e2, e3, e4, h⟩ := wpNewA_ok h
        exact q_newarray hgo hg (at9 := .double) (fun n => .inl (5, n, .inr (.inr (.inr (.inl (fun _ => 0)))))) (n9.toNatClampNeg, .inr (.inr (.inr (.inl (fun _ => 0))))) rfl rfl (fun _ _ q => q) rfl (fun _ => rfl) (fun _ => rfl) (by decide) (List.mem_append_right _ (List.mem_of_getElem? (i := 1822) (by decide +kernel))) e1 e2 e3 e4 hd h
      · exact h.elim
    · exact h.elim
  | anewarray k =>
    obtain ⟨rfl, rfl⟩ := hn rfl
    delta wpI at h
    dsimp only at h
    split at h
    · rename_i hc
      obtain ⟨e1, e2, e3, e4, h⟩ := wpNewA_ok h
      exact q_anewarray hgo hg ((cpc _ _ hc).2 rfl) (ao_ok hg) e1 e2 e3 e4 hd h
    · exact h.elim
  | arraylength =>
    obtain ⟨rfl, rfl⟩ := hn rfl
    delta wpI at h
    dsimp only at h
    split at h
    · split at h
      · exact q_arraylength hgo hg (by assumption) hd h
      · exact h.elim
    · split at h
      · exact q_arraylengthS hgo hg (by assumption) hd h
      · exact h.elim
    · exact h.elim
  | iaload =>
    obtain ⟨rfl, rfl⟩ := hn rfl
    delta wpI at h
    dsimp only at h
    split at h
    · split at h
      · exact q_iaload hgo hg (by assumption) h.1 hd h.2
      · exact h.elim
    · split at h
      · exact q_ialoadS hgo hg (by assumption) h.1 hd h.2
      · exact h.elim
    · exact h.elim
  | baload =>
    obtain ⟨rfl, rfl⟩ := hn rfl
    delta wpI at h
    dsimp only at h
    split at h
    · split at h
      · exact q_zaload hgo hg (by assumption) h.1 hd h.2
      · exact q_baload hgo hg (by assumption) h.1 hd h.2
      · exact h.elim
    · split at h
      · exact q_baloadS hgo hg (by assumption) h.1 hd h.2
      · exact h.elim
    · exact h.elim
  | caload =>
    obtain ⟨rfl, rfl⟩ := hn rfl
    delta wpI at h
    dsimp only at h
    split at h
    · split at h
      · exact q_caload hgo hg (by assumption) h.1 hd h.2
      · exact h.elim
    · exact h.elim
  | laload =>
    obtain ⟨rfl, rfl⟩ := hn rfl
    delta wpI at h
    dsimp only at h
    split at h
    · split at h
      · exact q_laload hgo hg (by assumption) h.1 hd h.2
      · exact h.elim
    · exact h.elim
  | daload =>
    obtain ⟨rfl, rfl⟩ := hn rfl
    delta wpI at h
    dsimp only at h
    split at h
    · split at h
      · exact q_daload hgo hg (by assumption) h.1 hd h.2
      · exact h.elim
    · exact h.elim
  | aaload =>
    obtain ⟨rfl, rfl⟩ := hn rfl
    delta wpI at h
    dsimp only at h
    split at h
    · split at h
      · exact q_aaload hgo hg (by assumption) h.1 hd h.2
      · exact h.elim
    · exact h.elim
  | iastore =>
    obtain ⟨rfl, rfl⟩ := hn rfl
    delta wpI at h
    dsimp only at h
    split at h
    · split at h
      · obtain ⟨e1, h⟩ := h
        rw [fL_eq] at h
        exact q_iastore hgo hg (by assumption) e1 hd h
      · exact h.elim
    · exact h.elim
  | castore =>
    obtain ⟨rfl, rfl⟩ := hn rfl
    delta wpI at h
    dsimp only at h
    split at h
    · split at h
      · obtain ⟨e1, h⟩ := h
        rw [fL_eq] at h
        exact q_castore hgo hg (by assumption) e1 hd h
      · exact h.elim
    · exact h.elim
  | lastore =>
    obtain ⟨rfl, rfl⟩ := hn rfl
    delta wpI at h
    dsimp only at h
    split at h
    · split at h
      · obtain ⟨e1, h⟩ := h
        rw [fL_eq] at h
        exact q_lastore hgo hg (by assumption) e1 hd h
      · exact h.elim
    · exact h.elim
  | dastore =>
    obtain ⟨rfl, rfl⟩ := hn rfl
    delta wpI at h
    dsimp only at h
    split at h
    · split at h
      · obtain ⟨e1, h⟩ := h
        rw [fL_eq] at h
        exact q_dastore hgo hg (by assumption) e1 hd h
      · exact h.elim
    · exact h.elim
  | bastore =>
    obtain ⟨rfl, rfl⟩ := hn rfl
    delta wpI at h
    dsimp only at h
    split at h
    · split at h
      · obtain ⟨e1, h⟩ := h
        rw [fL_eq] at h
        exact q_zastore hgo hg (by assumption) e1 hd h
      · obtain ⟨e1, h⟩ := h
        rw [fL_eq] at h
        exact q_bastore hgo hg (by assumption) e1 hd h
      · exact h.elim
    · exact h.elim
  | aastore =>
    obtain ⟨rfl, rfl⟩ := hn rfl
    delta wpI at h
    dsimp only at h
    split at h
    · split at h
      · obtain ⟨e1, h⟩ := h
        rw [fL_eq] at h
        exact q_aastore hgo hg (by assumption) (by assumption) e1 hd h
      · exact h.elim
    · exact h.elim
  | invokevirtual k =>
    obtain ⟨rfl, rfl⟩ := hn rfl
    delta wpI at h
    dsimp only at h
    split at h
    · rename_i y ci hk
      have hx := cpm _ _ _ _ hk
      delta wpKV at h
      split at h
      · split at h
        · split at h
          · rename_i e1
            cases Nat.eq_of_beq_eq_true e1
            exact q_callV hg hgo (hhn _ _ _ _ hcd) hx (by assumption) (by assumption) (wpCall_C h).1 hd (wpCall_C h).2
          · exact h.elim
        · exact h.elim
      · exact h.elim
    · rename_i y ci hk
      have hx := cpm _ _ _ _ hk
      delta wpKU at h
      split at h
      · split at h
        · split at h
          · rename_i e1
            cases Nat.eq_of_beq_eq_true e1
            exact q_callU hg hgo hx (by assumption) (by assumption) (wpCall0_C h).1 hd (wpCall0_C h).2
          · exact h.elim
        · exact h.elim
      · exact h.elim
    · exact h.elim
  | invokestatic k =>
    obtain ⟨rfl, rfl⟩ := hn rfl
    delta wpI at h
    dsimp only at h
    split at h
    · rename_i y ci hk
      have hx := cpm _ _ _ _ hk
      delta wpKS at h
      split at h
      · exact q_callS0 hg hgo hx (by assumption) (wpCall0_C h).1 hd (wpCall0_C h).2
      · exact h.elim
    · rename_i y ci hk
      have hx := cpm _ _ _ _ hk
      delta wpKS at h
      split at h
      · exact q_callSN hg hgo hx (by assumption) (wpCall0_C h).1 hd (wpCall0_C h).2
      · exact h.elim
    · rename_i y ci hk
      have hx := cpm _ _ _ _ hk
      delta wpKX at h
      split at h
      · split at h
        · rename_i e1
          exact q_max hg hgo hx (Nat.le_of_ble_eq_true e1) h.1 hd h.2
        · exact h.elim
      · exact h.elim
    · rename_i y ci hk
      have hx := cpm _ _ _ _ hk
      delta wpKM at h
      split at h
      · split at h
        · rename_i e1
          exact q_min hg hgo hx (Nat.le_of_ble_eq_true e1) h.1 hd h.2
        · exact h.elim
      · exact h.elim
    · rename_i y ci hk
      have hx := cpm _ _ _ _ hk
      delta wpKC at h
      split at h
      · split at h
        · split at h
          · rename_i e0
            obtain ⟨e1, e2, e3, e4, e5, e6, e7, h⟩ := h
            rw [fL_eq] at h
            exact q_copy hg hgo hx (Nat.le_of_ble_eq_true e0) e1 (by assumption) (by assumption) e2 e3 e4 e5 e6 e7 hd h
          · exact h.elim
        · exact h.elim
      · exact h.elim
    · rename_i y ci hk
      have hx := cpm _ _ _ _ hk
      delta wpKS at h
      split at h
      · exact q_callSW hg hgo hx (by assumption) (wpCall0_C h).1 hd (wpCall0_C h).2
      · exact h.elim
    · exact h.elim
  | invokespecial k =>
    obtain ⟨rfl, rfl⟩ := hn rfl
    delta wpI at h
    dsimp only at h
    split at h
    · rename_i y ci hk
      have hx := cpm _ _ _ _ hk
      delta wpKI at h
      split at h
      · exact q_callI hg hgo hx (by assumption) (wpCall0_C h).1 hd (wpCall0_C h).2
      · exact h.elim
    · rename_i y ci hk
      have hx := cpm _ _ _ _ hk
      delta wpKI at h
      split at h
      · exact q_callIN hg hgo hx (by assumption) (wpCall0_C h).1 hd (wpCall0_C h).2
      · exact h.elim
    · rename_i y ci hk
      have hx := cpm _ _ _ _ hk
      delta wpKO at h
      split at h
      · split at h
        · rename_i e1
          exact q_objInit hg hgo hx (Nat.le_of_ble_eq_true e1) h.1 hd h.2
        · exact h.elim
      · exact h.elim
    · rename_i y ci hk
      have hx := cpm _ _ _ _ hk
      delta wpKU at h
      split at h
      · split at h
        · split at h
          · rename_i e1
            cases Nat.eq_of_beq_eq_true e1
            exact q_callSU hg hgo hx (by assumption) (by assumption) (wpCall0_C h).1 hd (wpCall0_C h).2
          · exact h.elim
        · exact h.elim
      · exact h.elim
    · exact h.elim
  | ireturn =>
    obtain ⟨rfl, rfl⟩ := hn rfl
    delta wpI at h
    dsimp only at h
    split at h
    · rename_i x
      split at h
      · rename_i hr
        exact q_ret (v := some (.int x)) ⟨_, _, hcd, _, hr, rfl⟩ rfl h
      · rename_i ty hr
        exact q_ret (v := some (.int x)) ⟨_, _, hcd, _, (by assumption), h.1⟩ rfl h.2
      · exact h.elim
    · exact h.elim
  | areturn =>
    obtain ⟨rfl, rfl⟩ := hn rfl
    delta wpI at h
    dsimp only at h
    have hra := hre _ _ _ _ hcd
    split at h
    · exact q_ret (v := some (.ref _)) ⟨_, _, hcd, hra⟩ rfl h
    · exact q_ret (v := some (.retAddr _)) ⟨_, _, hcd, hra⟩ rfl h
    · exact h.elim
  | dreturn =>
    obtain ⟨rfl, rfl⟩ := hn rfl
    delta wpI at h
    dsimp only at h
    have hra := hre _ _ _ _ hcd
    split at h
    · exact q_ret (v := some (.double _)) ⟨_, _, hcd, hra⟩ rfl h
    · exact h.elim
  | freturn =>
    obtain ⟨rfl, rfl⟩ := hn rfl
    delta wpI at h
    dsimp only at h
    have hra := hre _ _ _ _ hcd
    split at h
    · exact q_ret (v := some (.float _)) ⟨_, _, hcd, hra⟩ rfl h
    · exact h.elim
  | return_ =>
    obtain ⟨rfl, rfl⟩ := hn rfl
    delta wpI at h
    dsimp only at h
    have hra := hre _ _ _ _ hcd
    split at h
    · exact q_ret (v := none) ⟨_, _, hcd, hra⟩ rfl h
    · exact h.elim
  | _ => exact False.elim h
set_option maxRecDepth 20000 in
theorem wp_okL (hg : gOK G) (hm : mOKL M) (cut : Nat → Option (List Bool)) : ∀ (n bc bs pc : Nat) (ls : List (Option Value)) (st : List Value) (w : xW), wp G M cut d K KX n bc bs pc ls st w → AW G M d bc bs pc ls st w K KX := by
  intro n
  induction n with
  | zero => intro bc bs pc ls st w h; exact h
  | succ n ih =>
    intro bc bs pc ls st w h
    have h : (match M.cd pc with
      | some (i, np, tg) => wpI G M d K KX (wpG G M cut d K KX (wp G M cut d K KX n)) bc bs pc ls st w i np tg
      | none => False) := h
    split at h
    · refine wpI_okL hg hm (fun bc bs pc ls st w h => ?_) (by assumption) h
      unfold wpG at h
      split at h
      · exact h.msk _
      · exact ih _ _ _ _ _ _ h
    · exact h.elim
end QL
def chkN (sw : swT) (pc : Nat) (i : Instr) (np tg : Nat) : Bool :=
  (isSw i || (decide (pc ≤ np) && decide (np = pc + iLen i))) &&
  ((match brO i with
    | some o => decide ((pc : Int) + o = (tg : Int))
    | none => true) && swC sw pc i)
theorem codeOK_ofL {M : mT} {cs : cdT} {sw : swT} (h1 : M.cd = lk2 cs) (h2 : M.sw = lkp sw) (hd : ∀ c ∈ cs, ∀ q ∈ c.2, decode M.m.cc q.1 = .ok (q.2.1, q.2.2.1 - q.1)) (h : allI cs (chkN sw) = true) : codeOK M := by
  intro pc i np tg hc
  rw [h1] at hc
  have hq := allI_at h hc
  unfold chkN at hq
  simp only [Bool.and_eq_true] at hq
  obtain ⟨q1, q2, q3⟩ := hq
  obtain ⟨c, m1, m2⟩ := lk2_mem hc
  refine ⟨⟨_, hd c m1 _ m2, fun hs => ?_⟩, ?_, ?_⟩
  · simp only [Bool.and_eq_true, decide_eq_true_eq, Bool.or_eq_true] at q1
    rcases q1 with q1 | ⟨q0, q1⟩
    · rw [hs] at q1; cases q1
    · exact ⟨by show np - pc = iLen i; omega, q1⟩
  · intro o ho
    rw [ho] at q2
    exact of_decide_eq_true q2
  · unfold swI
    split
    · rename_i dfl lo hi offs
      intro lo2 ts df hsw
      rw [h2] at hsw
      unfold swC at q3
      dsimp only at q3
      rw [hsw] at q3
      simp only [Bool.and_eq_true, decide_eq_true_eq] at q3
      obtain ⟨e1, e2, e3, e4⟩ := q3
      refine ⟨e1, e2, e3, fun j t ht => ?_⟩
      have hm : (ts.map (fun t : Nat => (t : Int)))[j]? = some (t : Int) := by rw [List.getElem?_map, ht]; rfl
      rw [← e4, List.getElem?_map] at hm
      cases ho : offs.toList[j]? with
      | none => rw [ho] at hm; cases hm
      | some o =>
        rw [ho] at hm
        refine ⟨o, by rw [← Array.getElem?_toList]; exact ho, Option.some.inj hm⟩
    · trivial
def kc_0 : List (Nat × (Instr × Nat × Nat)) := [(0, (.new 8, 3, 0)), (3, (.dup, 4, 0)), (4, (.invokespecial 129, 7, 0)), (7, (.astore_n 1, 8, 0)), (8, (.new 130, 11, 0)), (11, (.dup, 12, 0)), (12, (.invokespecial 132, 15, 0)), (15, (.astore_n 2, 16, 0)), (16, (.iconst 1, 17, 0)), (17, (.newarray .long, 19, 0)), (19, (.astore_n 3, 20, 0)), (20, (.iconst 1, 21, 0)), (21, (.newarray .double, 23, 0)), (23, (.astore 4, 25, 0)), (25, (.iconst 0, 26, 0)), (26, (.istore 5, 28, 0)), (28, (.iload 5, 30, 0)), (30, (.aload_n 0, 31, 0)), (31, (.arraylength, 32, 0)), (32, (.iconst 3, 33, 0)), (33, (.isub, 34, 0)), (34, (.if_icmp .gt 2225, 37, 2259)), (37, (.aload_n 0, 38, 0)), (38, (.iload 5, 40, 0)), (40, (.iaload, 41, 0)), (41, (.bipush 63, 43, 0)), (43, (.iand, 44, 0)), (44, (.tableswitch 2209 0 36 #[164, 220, 276, 344, 400, 468, 524, 580, 648, 716, 772, 828, 884, 952, 1008, 1076, 1160, 1228, 1284, 1368, 1412, 1468, 1509, 1553, 1609, 1665, 1721, 1779, 1823, 1836, 1908, 1964, 1977, 2042, 2108, 2152, 2165], 208, 0)), (208, (.aload_n 1, 209, 0)), (209, (.aload_n 0, 210, 0)), (210, (.iload 5, 212, 0)), (212, (.iconst 1, 213, 0))]
theorem kd_0 : ∀ q ∈ kc_0, decode cL_law q.1 = .ok (q.2.1, q.2.2.1 - q.1) := (fa_cons dL_law_0 (fa_cons dL_law_3 (fa_cons dL_law_4 (fa_cons dL_law_7 (fa_cons dL_law_8 (fa_cons dL_law_11 (fa_cons dL_law_12 (fa_cons dL_law_15 (fa_cons dL_law_16 (fa_cons dL_law_17 (fa_cons dL_law_19 (fa_cons dL_law_20 (fa_cons dL_law_21 (fa_cons dL_law_23 (fa_cons dL_law_25 (fa_cons dL_law_26 (fa_cons dL_law_28 (fa_cons dL_law_30 (fa_cons dL_law_31 (fa_cons dL_law_32 (fa_cons dL_law_33 (fa_cons dL_law_34 (fa_cons dL_law_37 (fa_cons dL_law_38 (fa_cons dL_law_40 (fa_cons dL_law_41 (fa_cons dL_law_43 (fa_cons dL_law_44 (fa_cons dL_law_208 (fa_cons dL_law_209 (fa_cons dL_law_210 (fa_cons dL_law_212 fa_nil))))))))))))))))))))))))))))))))
def kc_1 : List (Nat × (Instr × Nat × Nat)) := [(213, (.iadd, 214, 0)), (214, (.iaload, 215, 0)), (215, (.aload_n 3, 216, 0)), (216, (.invokestatic 133, 219, 0)), (219, (.istore 6, 221, 0)), (221, (.aload_n 2, 222, 0)), (222, (.aload_n 0, 223, 0)), (223, (.iload 5, 225, 0)), (225, (.iconst 1, 226, 0)), (226, (.iadd, 227, 0)), (227, (.iaload, 228, 0)), (228, (.invokevirtual 138, 231, 0)), (231, (.istore 7, 233, 0)), (233, (.aload_n 2, 234, 0)), (234, (.invokevirtual 139, 237, 0)), (237, (.iload 6, 239, 0)), (239, (.if_icmp .eq 5, 242, 244)), (242, (.iconst 0, 243, 0)), (243, (.ireturn, 244, 0)), (244, (.iload 6, 246, 0)), (246, (.ifCond .ne 15, 249, 261)), (249, (.aload_n 3, 250, 0)), (250, (.iconst 0, 251, 0)), (251, (.laload, 252, 0)), (252, (.iload 7, 254, 0)), (254, (.i2l, 255, 0)), (255, (.lcmp, 256, 0)), (256, (.ifCond .eq 5, 259, 261)), (259, (.iconst 0, 260, 0)), (260, (.ireturn, 261, 0)), (261, (.goto 1992, 264, 2253)), (264, (.aload_n 1, 265, 0))]
theorem kd_1 : ∀ q ∈ kc_1, decode cL_law q.1 = .ok (q.2.1, q.2.2.1 - q.1) := (fa_cons dL_law_213 (fa_cons dL_law_214 (fa_cons dL_law_215 (fa_cons dL_law_216 (fa_cons dL_law_219 (fa_cons dL_law_221 (fa_cons dL_law_222 (fa_cons dL_law_223 (fa_cons dL_law_225 (fa_cons dL_law_226 (fa_cons dL_law_227 (fa_cons dL_law_228 (fa_cons dL_law_231 (fa_cons dL_law_233 (fa_cons dL_law_234 (fa_cons dL_law_237 (fa_cons dL_law_239 (fa_cons dL_law_242 (fa_cons dL_law_243 (fa_cons dL_law_244 (fa_cons dL_law_246 (fa_cons dL_law_249 (fa_cons dL_law_250 (fa_cons dL_law_251 (fa_cons dL_law_252 (fa_cons dL_law_254 (fa_cons dL_law_255 (fa_cons dL_law_256 (fa_cons dL_law_259 (fa_cons dL_law_260 (fa_cons dL_law_261 (fa_cons dL_law_264 fa_nil))))))))))))))))))))))))))))))))
def kc_2 : List (Nat × (Instr × Nat × Nat)) := [(265, (.aload_n 0, 266, 0)), (266, (.iload 5, 268, 0)), (268, (.iconst 1, 269, 0)), (269, (.iadd, 270, 0)), (270, (.iaload, 271, 0)), (271, (.aload_n 3, 272, 0)), (272, (.invokestatic 142, 275, 0)), (275, (.istore 6, 277, 0)), (277, (.aload_n 2, 278, 0)), (278, (.aload_n 0, 279, 0)), (279, (.iload 5, 281, 0)), (281, (.iconst 1, 282, 0)), (282, (.iadd, 283, 0)), (283, (.iaload, 284, 0)), (284, (.invokevirtual 144, 287, 0)), (287, (.istore 7, 289, 0)), (289, (.aload_n 2, 290, 0)), (290, (.invokevirtual 139, 293, 0)), (293, (.iload 6, 295, 0)), (295, (.if_icmp .eq 5, 298, 300)), (298, (.iconst 0, 299, 0)), (299, (.ireturn, 300, 0)), (300, (.iload 6, 302, 0)), (302, (.ifCond .ne 15, 305, 317)), (305, (.aload_n 3, 306, 0)), (306, (.iconst 0, 307, 0)), (307, (.laload, 308, 0)), (308, (.iload 7, 310, 0)), (310, (.i2l, 311, 0)), (311, (.lcmp, 312, 0)), (312, (.ifCond .eq 5, 315, 317)), (315, (.iconst 0, 316, 0))]
theorem kd_2 : ∀ q ∈ kc_2, decode cL_law q.1 = .ok (q.2.1, q.2.2.1 - q.1) := (fa_cons dL_law_265 (fa_cons dL_law_266 (fa_cons dL_law_268 (fa_cons dL_law_269 (fa_cons dL_law_270 (fa_cons dL_law_271 (fa_cons dL_law_272 (fa_cons dL_law_275 (fa_cons dL_law_277 (fa_cons dL_law_278 (fa_cons dL_law_279 (fa_cons dL_law_281 (fa_cons dL_law_282 (fa_cons dL_law_283 (fa_cons dL_law_284 (fa_cons dL_law_287 (fa_cons dL_law_289 (fa_cons dL_law_290 (fa_cons dL_law_293 (fa_cons dL_law_295 (fa_cons dL_law_298 (fa_cons dL_law_299 (fa_cons dL_law_300 (fa_cons dL_law_302 (fa_cons dL_law_305 (fa_cons dL_law_306 (fa_cons dL_law_307 (fa_cons dL_law_308 (fa_cons dL_law_310 (fa_cons dL_law_311 (fa_cons dL_law_312 (fa_cons dL_law_315 fa_nil))))))))))))))))))))))))))))))))
def kc_3 : List (Nat × (Instr × Nat × Nat)) := [(316, (.ireturn, 317, 0)), (317, (.goto 1936, 320, 2253)), (320, (.aload_n 1, 321, 0)), (321, (.aload_n 0, 322, 0)), (322, (.iload 5, 324, 0)), (324, (.iconst 1, 325, 0)), (325, (.iadd, 326, 0)), (326, (.iaload, 327, 0)), (327, (.aload_n 0, 328, 0)), (328, (.iload 5, 330, 0)), (330, (.iconst 2, 331, 0)), (331, (.iadd, 332, 0)), (332, (.iaload, 333, 0)), (333, (.aload_n 3, 334, 0)), (334, (.invokestatic 145, 337, 0)), (337, (.istore 6, 339, 0)), (339, (.aload_n 2, 340, 0)), (340, (.aload_n 0, 341, 0)), (341, (.iload 5, 343, 0)), (343, (.iconst 1, 344, 0)), (344, (.iadd, 345, 0)), (345, (.iaload, 346, 0)), (346, (.aload_n 0, 347, 0)), (347, (.iload 5, 349, 0)), (349, (.iconst 2, 350, 0)), (350, (.iadd, 351, 0)), (351, (.iaload, 352, 0)), (352, (.invokevirtual 148, 355, 0)), (355, (.istore 7, 357, 0)), (357, (.aload_n 2, 358, 0)), (358, (.invokevirtual 139, 361, 0)), (361, (.iload 6, 363, 0))]
theorem kd_3 : ∀ q ∈ kc_3, decode cL_law q.1 = .ok (q.2.1, q.2.2.1 - q.1) := (fa_cons dL_law_316 (fa_cons dL_law_317 (fa_cons dL_law_320 (fa_cons dL_law_321 (fa_cons dL_law_322 (fa_cons dL_law_324 (fa_cons dL_law_325 (fa_cons dL_law_326 (fa_cons dL_law_327 (fa_cons dL_law_328 (fa_cons dL_law_330 (fa_cons dL_law_331 (fa_cons dL_law_332 (fa_cons dL_law_333 (fa_cons dL_law_334 (fa_cons dL_law_337 (fa_cons dL_law_339 (fa_cons dL_law_340 (fa_cons dL_law_341 (fa_cons dL_law_343 (fa_cons dL_law_344 (fa_cons dL_law_345 (fa_cons dL_law_346 (fa_cons dL_law_347 (fa_cons dL_law_349 (fa_cons dL_law_350 (fa_cons dL_law_351 (fa_cons dL_law_352 (fa_cons dL_law_355 (fa_cons dL_law_357 (fa_cons dL_law_358 (fa_cons dL_law_361 fa_nil))))))))))))))))))))))))))))))))
def kc_4 : List (Nat × (Instr × Nat × Nat)) := [(363, (.if_icmp .eq 5, 366, 368)), (366, (.iconst 0, 367, 0)), (367, (.ireturn, 368, 0)), (368, (.iload 6, 370, 0)), (370, (.ifCond .ne 15, 373, 385)), (373, (.aload_n 3, 374, 0)), (374, (.iconst 0, 375, 0)), (375, (.laload, 376, 0)), (376, (.iload 7, 378, 0)), (378, (.i2l, 379, 0)), (379, (.lcmp, 380, 0)), (380, (.ifCond .eq 5, 383, 385)), (383, (.iconst 0, 384, 0)), (384, (.ireturn, 385, 0)), (385, (.goto 1868, 388, 2253)), (388, (.aload_n 1, 389, 0)), (389, (.aload_n 0, 390, 0)), (390, (.iload 5, 392, 0)), (392, (.iconst 1, 393, 0)), (393, (.iadd, 394, 0)), (394, (.iaload, 395, 0)), (395, (.aload_n 3, 396, 0)), (396, (.invokestatic 149, 399, 0)), (399, (.istore 6, 401, 0)), (401, (.aload_n 2, 402, 0)), (402, (.aload_n 0, 403, 0)), (403, (.iload 5, 405, 0)), (405, (.iconst 1, 406, 0)), (406, (.iadd, 407, 0)), (407, (.iaload, 408, 0)), (408, (.invokevirtual 151, 411, 0)), (411, (.istore 7, 413, 0))]
theorem kd_4 : ∀ q ∈ kc_4, decode cL_law q.1 = .ok (q.2.1, q.2.2.1 - q.1) := (fa_cons dL_law_363 (fa_cons dL_law_366 (fa_cons dL_law_367 (fa_cons dL_law_368 (fa_cons dL_law_370 (fa_cons dL_law_373 (fa_cons dL_law_374 (fa_cons dL_law_375 (fa_cons dL_law_376 (fa_cons dL_law_378 (fa_cons dL_law_379 (fa_cons dL_law_380 (fa_cons dL_law_383 (fa_cons dL_law_384 (fa_cons dL_law_385 (fa_cons dL_law_388 (fa_cons dL_law_389 (fa_cons dL_law_390 (fa_cons dL_law_392 (fa_cons dL_law_393 (fa_cons dL_law_394 (fa_cons dL_law_395 (fa_cons dL_law_396 (fa_cons dL_law_399 (fa_cons dL_law_401 (fa_cons dL_law_402 (fa_cons dL_law_403 (fa_cons dL_law_405 (fa_cons dL_law_406 (fa_cons dL_law_407 (fa_cons dL_law_408 (fa_cons dL_law_411 fa_nil))))))))))))))))))))))))))))))))
def kc_5 : List (Nat × (Instr × Nat × Nat)) := [(413, (.aload_n 2, 414, 0)), (414, (.invokevirtual 139, 417, 0)), (417, (.iload 6, 419, 0)), (419, (.if_icmp .eq 5, 422, 424)), (422, (.iconst 0, 423, 0)), (423, (.ireturn, 424, 0)), (424, (.iload 6, 426, 0)), (426, (.ifCond .ne 15, 429, 441)), (429, (.aload_n 3, 430, 0)), (430, (.iconst 0, 431, 0)), (431, (.laload, 432, 0)), (432, (.iload 7, 434, 0)), (434, (.i2l, 435, 0)), (435, (.lcmp, 436, 0)), (436, (.ifCond .eq 5, 439, 441)), (439, (.iconst 0, 440, 0)), (440, (.ireturn, 441, 0)), (441, (.goto 1812, 444, 2253)), (444, (.aload_n 1, 445, 0)), (445, (.aload_n 0, 446, 0)), (446, (.iload 5, 448, 0)), (448, (.iconst 1, 449, 0)), (449, (.iadd, 450, 0)), (450, (.iaload, 451, 0)), (451, (.aload_n 0, 452, 0)), (452, (.iload 5, 454, 0)), (454, (.iconst 2, 455, 0)), (455, (.iadd, 456, 0)), (456, (.iaload, 457, 0)), (457, (.aload_n 3, 458, 0)), (458, (.invokestatic 152, 461, 0)), (461, (.istore 6, 463, 0))]
theorem kd_5 : ∀ q ∈ kc_5, decode cL_law q.1 = .ok (q.2.1, q.2.2.1 - q.1) := (fa_cons dL_law_413 (fa_cons dL_law_414 (fa_cons dL_law_417 (fa_cons dL_law_419 (fa_cons dL_law_422 (fa_cons dL_law_423 (fa_cons dL_law_424 (fa_cons dL_law_426 (fa_cons dL_law_429 (fa_cons dL_law_430 (fa_cons dL_law_431 (fa_cons dL_law_432 (fa_cons dL_law_434 (fa_cons dL_law_435 (fa_cons dL_law_436 (fa_cons dL_law_439 (fa_cons dL_law_440 (fa_cons dL_law_441 (fa_cons dL_law_444 (fa_cons dL_law_445 (fa_cons dL_law_446 (fa_cons dL_law_448 (fa_cons dL_law_449 (fa_cons dL_law_450 (fa_cons dL_law_451 (fa_cons dL_law_452 (fa_cons dL_law_454 (fa_cons dL_law_455 (fa_cons dL_law_456 (fa_cons dL_law_457 (fa_cons dL_law_458 (fa_cons dL_law_461 fa_nil))))))))))))))))))))))))))))))))
def kc_6 : List (Nat × (Instr × Nat × Nat)) := [(463, (.aload_n 2, 464, 0)), (464, (.aload_n 0, 465, 0)), (465, (.iload 5, 467, 0)), (467, (.iconst 1, 468, 0)), (468, (.iadd, 469, 0)), (469, (.iaload, 470, 0)), (470, (.aload_n 0, 471, 0)), (471, (.iload 5, 473, 0)), (473, (.iconst 2, 474, 0)), (474, (.iadd, 475, 0)), (475, (.iaload, 476, 0)), (476, (.invokevirtual 154, 479, 0)), (479, (.istore 7, 481, 0)), (481, (.aload_n 2, 482, 0)), (482, (.invokevirtual 139, 485, 0)), (485, (.iload 6, 487, 0)), (487, (.if_icmp .eq 5, 490, 492)), (490, (.iconst 0, 491, 0)), (491, (.ireturn, 492, 0)), (492, (.iload 6, 494, 0)), (494, (.ifCond .ne 15, 497, 509)), (497, (.aload_n 3, 498, 0)), (498, (.iconst 0, 499, 0)), (499, (.laload, 500, 0)), (500, (.iload 7, 502, 0)), (502, (.i2l, 503, 0)), (503, (.lcmp, 504, 0)), (504, (.ifCond .eq 5, 507, 509)), (507, (.iconst 0, 508, 0)), (508, (.ireturn, 509, 0)), (509, (.goto 1744, 512, 2253)), (512, (.aload_n 1, 513, 0))]
theorem kd_6 : ∀ q ∈ kc_6, decode cL_law q.1 = .ok (q.2.1, q.2.2.1 - q.1) := (fa_cons dL_law_463 (fa_cons dL_law_464 (fa_cons dL_law_465 (fa_cons dL_law_467 (fa_cons dL_law_468 (fa_cons dL_law_469 (fa_cons dL_law_470 (fa_cons dL_law_471 (fa_cons dL_law_473 (fa_cons dL_law_474 (fa_cons dL_law_475 (fa_cons dL_law_476 (fa_cons dL_law_479 (fa_cons dL_law_481 (fa_cons dL_law_482 (fa_cons dL_law_485 (fa_cons dL_law_487 (fa_cons dL_law_490 (fa_cons dL_law_491 (fa_cons dL_law_492 (fa_cons dL_law_494 (fa_cons dL_law_497 (fa_cons dL_law_498 (fa_cons dL_law_499 (fa_cons dL_law_500 (fa_cons dL_law_502 (fa_cons dL_law_503 (fa_cons dL_law_504 (fa_cons dL_law_507 (fa_cons dL_law_508 (fa_cons dL_law_509 (fa_cons dL_law_512 fa_nil))))))))))))))))))))))))))))))))
def kc_7 : List (Nat × (Instr × Nat × Nat)) := [(513, (.aload_n 0, 514, 0)), (514, (.iload 5, 516, 0)), (516, (.iconst 1, 517, 0)), (517, (.iadd, 518, 0)), (518, (.iaload, 519, 0)), (519, (.aload_n 3, 520, 0)), (520, (.invokestatic 155, 523, 0)), (523, (.istore 6, 525, 0)), (525, (.aload_n 2, 526, 0)), (526, (.aload_n 0, 527, 0)), (527, (.iload 5, 529, 0)), (529, (.iconst 1, 530, 0)), (530, (.iadd, 531, 0)), (531, (.iaload, 532, 0)), (532, (.invokevirtual 157, 535, 0)), (535, (.istore 7, 537, 0)), (537, (.aload_n 2, 538, 0)), (538, (.invokevirtual 139, 541, 0)), (541, (.iload 6, 543, 0)), (543, (.if_icmp .eq 5, 546, 548)), (546, (.iconst 0, 547, 0)), (547, (.ireturn, 548, 0)), (548, (.iload 6, 550, 0)), (550, (.ifCond .ne 15, 553, 565)), (553, (.aload_n 3, 554, 0)), (554, (.iconst 0, 555, 0)), (555, (.laload, 556, 0)), (556, (.iload 7, 558, 0)), (558, (.i2l, 559, 0)), (559, (.lcmp, 560, 0)), (560, (.ifCond .eq 5, 563, 565)), (563, (.iconst 0, 564, 0))]
theorem kd_7 : ∀ q ∈ kc_7, decode cL_law q.1 = .ok (q.2.1, q.2.2.1 - q.1) := (fa_cons dL_law_513 (fa_cons dL_law_514 (fa_cons dL_law_516 (fa_cons dL_law_517 (fa_cons dL_law_518 (fa_cons dL_law_519 (fa_cons dL_law_520 (fa_cons dL_law_523 (fa_cons dL_law_525 (fa_cons dL_law_526 (fa_cons dL_law_527 (fa_cons dL_law_529 (fa_cons dL_law_530 (fa_cons dL_law_531 (fa_cons dL_law_532 (fa_cons dL_law_535 (fa_cons dL_law_537 (fa_cons dL_law_538 (fa_cons dL_law_541 (fa_cons dL_law_543 (fa_cons dL_law_546 (fa_cons dL_law_547 (fa_cons dL_law_548 (fa_cons dL_law_550 (fa_cons dL_law_553 (fa_cons dL_law_554 (fa_cons dL_law_555 (fa_cons dL_law_556 (fa_cons dL_law_558 (fa_cons dL_law_559 (fa_cons dL_law_560 (fa_cons dL_law_563 fa_nil))))))))))))))))))))))))))))))))
def kc_8 : List (Nat × (Instr × Nat × Nat)) := [(564, (.ireturn, 565, 0)), (565, (.goto 1688, 568, 2253)), (568, (.aload_n 1, 569, 0)), (569, (.aload_n 0, 570, 0)), (570, (.iload 5, 572, 0)), (572, (.iconst 1, 573, 0)), (573, (.iadd, 574, 0)), (574, (.iaload, 575, 0)), (575, (.aload_n 3, 576, 0)), (576, (.invokestatic 158, 579, 0)), (579, (.istore 6, 581, 0)), (581, (.aload_n 2, 582, 0)), (582, (.aload_n 0, 583, 0)), (583, (.iload 5, 585, 0)), (585, (.iconst 1, 586, 0)), (586, (.iadd, 587, 0)), (587, (.iaload, 588, 0)), (588, (.invokevirtual 160, 591, 0)), (591, (.istore 7, 593, 0)), (593, (.aload_n 2, 594, 0)), (594, (.invokevirtual 139, 597, 0)), (597, (.iload 6, 599, 0)), (599, (.if_icmp .eq 5, 602, 604)), (602, (.iconst 0, 603, 0)), (603, (.ireturn, 604, 0)), (604, (.iload 6, 606, 0)), (606, (.ifCond .ne 15, 609, 621)), (609, (.aload_n 3, 610, 0)), (610, (.iconst 0, 611, 0)), (611, (.laload, 612, 0)), (612, (.iload 7, 614, 0)), (614, (.i2l, 615, 0))]
theorem kd_8 : ∀ q ∈ kc_8, decode cL_law q.1 = .ok (q.2.1, q.2.2.1 - q.1) := (fa_cons dL_law_564 (fa_cons dL_law_565 (fa_cons dL_law_568 (fa_cons dL_law_569 (fa_cons dL_law_570 (fa_cons dL_law_572 (fa_cons dL_law_573 (fa_cons dL_law_574 (fa_cons dL_law_575 (fa_cons dL_law_576 (fa_cons dL_law_579 (fa_cons dL_law_581 (fa_cons dL_law_582 (fa_cons dL_law_583 (fa_cons dL_law_585 (fa_cons dL_law_586 (fa_cons dL_law_587 (fa_cons dL_law_588 (fa_cons dL_law_591 (fa_cons dL_law_593 (fa_cons dL_law_594 (fa_cons dL_law_597 (fa_cons dL_law_599 (fa_cons dL_law_602 (fa_cons dL_law_603 (fa_cons dL_law_604 (fa_cons dL_law_606 (fa_cons dL_law_609 (fa_cons dL_law_610 (fa_cons dL_law_611 (fa_cons dL_law_612 (fa_cons dL_law_614 fa_nil))))))))))))))))))))))))))))))))
def kc_9 : List (Nat × (Instr × Nat × Nat)) := [(615, (.lcmp, 616, 0)), (616, (.ifCond .eq 5, 619, 621)), (619, (.iconst 0, 620, 0)), (620, (.ireturn, 621, 0)), (621, (.goto 1632, 624, 2253)), (624, (.aload_n 1, 625, 0)), (625, (.aload_n 0, 626, 0)), (626, (.iload 5, 628, 0)), (628, (.iconst 1, 629, 0)), (629, (.iadd, 630, 0)), (630, (.iaload, 631, 0)), (631, (.aload_n 0, 632, 0)), (632, (.iload 5, 634, 0)), (634, (.iconst 2, 635, 0)), (635, (.iadd, 636, 0)), (636, (.iaload, 637, 0)), (637, (.aload_n 3, 638, 0)), (638, (.invokestatic 161, 641, 0)), (641, (.istore 6, 643, 0)), (643, (.aload_n 2, 644, 0)), (644, (.aload_n 0, 645, 0)), (645, (.iload 5, 647, 0)), (647, (.iconst 1, 648, 0)), (648, (.iadd, 649, 0)), (649, (.iaload, 650, 0)), (650, (.aload_n 0, 651, 0)), (651, (.iload 5, 653, 0)), (653, (.iconst 2, 654, 0)), (654, (.iadd, 655, 0)), (655, (.iaload, 656, 0)), (656, (.invokevirtual 163, 659, 0)), (659, (.istore 7, 661, 0))]
theorem kd_9 : ∀ q ∈ kc_9, decode cL_law q.1 = .ok (q.2.1, q.2.2.1 - q.1) := (fa_cons dL_law_615 (fa_cons dL_law_616 (fa_cons dL_law_619 (fa_cons dL_law_620 (fa_cons dL_law_621 (fa_cons dL_law_624 (fa_cons dL_law_625 (fa_cons dL_law_626 (fa_cons dL_law_628 (fa_cons dL_law_629 (fa_cons dL_law_630 (fa_cons dL_law_631 (fa_cons dL_law_632 (fa_cons dL_law_634 (fa_cons dL_law_635 (fa_cons dL_law_636 (fa_cons dL_law_637 (fa_cons dL_law_638 (fa_cons dL_law_641 (fa_cons dL_law_643 (fa_cons dL_law_644 (fa_cons dL_law_645 (fa_cons dL_law_647 (fa_cons dL_law_648 (fa_cons dL_law_649 (fa_cons dL_law_650 (fa_cons dL_law_651 (fa_cons dL_law_653 (fa_cons dL_law_654 (fa_cons dL_law_655 (fa_cons dL_law_656 (fa_cons dL_law_659 fa_nil))))))))))))))))))))))))))))))))
def kc_10 : List (Nat × (Instr × Nat × Nat)) := [(661, (.aload_n 2, 662, 0)), (662, (.invokevirtual 139, 665, 0)), (665, (.iload 6, 667, 0)), (667, (.if_icmp .eq 5, 670, 672)), (670, (.iconst 0, 671, 0)), (671, (.ireturn, 672, 0)), (672, (.iload 6, 674, 0)), (674, (.ifCond .ne 15, 677, 689)), (677, (.aload_n 3, 678, 0)), (678, (.iconst 0, 679, 0)), (679, (.laload, 680, 0)), (680, (.iload 7, 682, 0)), (682, (.i2l, 683, 0)), (683, (.lcmp, 684, 0)), (684, (.ifCond .eq 5, 687, 689)), (687, (.iconst 0, 688, 0)), (688, (.ireturn, 689, 0)), (689, (.goto 1564, 692, 2253)), (692, (.aload_n 1, 693, 0)), (693, (.aload_n 0, 694, 0)), (694, (.iload 5, 696, 0)), (696, (.iconst 1, 697, 0)), (697, (.iadd, 698, 0)), (698, (.iaload, 699, 0)), (699, (.aload_n 0, 700, 0)), (700, (.iload 5, 702, 0)), (702, (.iconst 2, 703, 0)), (703, (.iadd, 704, 0)), (704, (.iaload, 705, 0)), (705, (.aload_n 3, 706, 0)), (706, (.invokestatic 164, 709, 0)), (709, (.istore 6, 711, 0))]
theorem kd_10 : ∀ q ∈ kc_10, decode cL_law q.1 = .ok (q.2.1, q.2.2.1 - q.1) := (fa_cons dL_law_661 (fa_cons dL_law_662 (fa_cons dL_law_665 (fa_cons dL_law_667 (fa_cons dL_law_670 (fa_cons dL_law_671 (fa_cons dL_law_672 (fa_cons dL_law_674 (fa_cons dL_law_677 (fa_cons dL_law_678 (fa_cons dL_law_679 (fa_cons dL_law_680 (fa_cons dL_law_682 (fa_cons dL_law_683 (fa_cons dL_law_684 (fa_cons dL_law_687 (fa_cons dL_law_688 (fa_cons dL_law_689 (fa_cons dL_law_692 (fa_cons dL_law_693 (fa_cons dL_law_694 (fa_cons dL_law_696 (fa_cons dL_law_697 (fa_cons dL_law_698 (fa_cons dL_law_699 (fa_cons dL_law_700 (fa_cons dL_law_702 (fa_cons dL_law_703 (fa_cons dL_law_704 (fa_cons dL_law_705 (fa_cons dL_law_706 (fa_cons dL_law_709 fa_nil))))))))))))))))))))))))))))))))
def kc_11 : List (Nat × (Instr × Nat × Nat)) := [(711, (.aload_n 2, 712, 0)), (712, (.aload_n 0, 713, 0)), (713, (.iload 5, 715, 0)), (715, (.iconst 1, 716, 0)), (716, (.iadd, 717, 0)), (717, (.iaload, 718, 0)), (718, (.aload_n 0, 719, 0)), (719, (.iload 5, 721, 0)), (721, (.iconst 2, 722, 0)), (722, (.iadd, 723, 0)), (723, (.iaload, 724, 0)), (724, (.invokevirtual 166, 727, 0)), (727, (.istore 7, 729, 0)), (729, (.aload_n 2, 730, 0)), (730, (.invokevirtual 139, 733, 0)), (733, (.iload 6, 735, 0)), (735, (.if_icmp .eq 5, 738, 740)), (738, (.iconst 0, 739, 0)), (739, (.ireturn, 740, 0)), (740, (.iload 6, 742, 0)), (742, (.ifCond .ne 15, 745, 757)), (745, (.aload_n 3, 746, 0)), (746, (.iconst 0, 747, 0)), (747, (.laload, 748, 0)), (748, (.iload 7, 750, 0)), (750, (.i2l, 751, 0)), (751, (.lcmp, 752, 0)), (752, (.ifCond .eq 5, 755, 757)), (755, (.iconst 0, 756, 0)), (756, (.ireturn, 757, 0)), (757, (.goto 1496, 760, 2253)), (760, (.aload_n 1, 761, 0))]
theorem kd_11 : ∀ q ∈ kc_11, decode cL_law q.1 = .ok (q.2.1, q.2.2.1 - q.1) := (fa_cons dL_law_711 (fa_cons dL_law_712 (fa_cons dL_law_713 (fa_cons dL_law_715 (fa_cons dL_law_716 (fa_cons dL_law_717 (fa_cons dL_law_718 (fa_cons dL_law_719 (fa_cons dL_law_721 (fa_cons dL_law_722 (fa_cons dL_law_723 (fa_cons dL_law_724 (fa_cons dL_law_727 (fa_cons dL_law_729 (fa_cons dL_law_730 (fa_cons dL_law_733 (fa_cons dL_law_735 (fa_cons dL_law_738 (fa_cons dL_law_739 (fa_cons dL_law_740 (fa_cons dL_law_742 (fa_cons dL_law_745 (fa_cons dL_law_746 (fa_cons dL_law_747 (fa_cons dL_law_748 (fa_cons dL_law_750 (fa_cons dL_law_751 (fa_cons dL_law_752 (fa_cons dL_law_755 (fa_cons dL_law_756 (fa_cons dL_law_757 (fa_cons dL_law_760 fa_nil))))))))))))))))))))))))))))))))
def kc_12 : List (Nat × (Instr × Nat × Nat)) := [(761, (.aload_n 0, 762, 0)), (762, (.iload 5, 764, 0)), (764, (.iconst 1, 765, 0)), (765, (.iadd, 766, 0)), (766, (.iaload, 767, 0)), (767, (.aload_n 3, 768, 0)), (768, (.invokestatic 167, 771, 0)), (771, (.istore 6, 773, 0)), (773, (.aload_n 2, 774, 0)), (774, (.aload_n 0, 775, 0)), (775, (.iload 5, 777, 0)), (777, (.iconst 1, 778, 0)), (778, (.iadd, 779, 0)), (779, (.iaload, 780, 0)), (780, (.invokevirtual 169, 783, 0)), (783, (.istore 7, 785, 0)), (785, (.aload_n 2, 786, 0)), (786, (.invokevirtual 139, 789, 0)), (789, (.iload 6, 791, 0)), (791, (.if_icmp .eq 5, 794, 796)), (794, (.iconst 0, 795, 0)), (795, (.ireturn, 796, 0)), (796, (.iload 6, 798, 0)), (798, (.ifCond .ne 15, 801, 813)), (801, (.aload_n 3, 802, 0)), (802, (.iconst 0, 803, 0)), (803, (.laload, 804, 0)), (804, (.iload 7, 806, 0)), (806, (.i2l, 807, 0)), (807, (.lcmp, 808, 0)), (808, (.ifCond .eq 5, 811, 813)), (811, (.iconst 0, 812, 0))]
theorem kd_12 : ∀ q ∈ kc_12, decode cL_law q.1 = .ok (q.2.1, q.2.2.1 - q.1) := (fa_cons dL_law_761 (fa_cons dL_law_762 (fa_cons dL_law_764 (fa_cons dL_law_765 (fa_cons dL_law_766 (fa_cons dL_law_767 (fa_cons dL_law_768 (fa_cons dL_law_771 (fa_cons dL_law_773 (fa_cons dL_law_774 (fa_cons dL_law_775 (fa_cons dL_law_777 (fa_cons dL_law_778 (fa_cons dL_law_779 (fa_cons dL_law_780 (fa_cons dL_law_783 (fa_cons dL_law_785 (fa_cons dL_law_786 (fa_cons dL_law_789 (fa_cons dL_law_791 (fa_cons dL_law_794 (fa_cons dL_law_795 (fa_cons dL_law_796 (fa_cons dL_law_798 (fa_cons dL_law_801 (fa_cons dL_law_802 (fa_cons dL_law_803 (fa_cons dL_law_804 (fa_cons dL_law_806 (fa_cons dL_law_807 (fa_cons dL_law_808 (fa_cons dL_law_811 fa_nil))))))))))))))))))))))))))))))))
def kc_13 : List (Nat × (Instr × Nat × Nat)) := [(812, (.ireturn, 813, 0)), (813, (.goto 1440, 816, 2253)), (816, (.aload_n 1, 817, 0)), (817, (.aload_n 0, 818, 0)), (818, (.iload 5, 820, 0)), (820, (.iconst 1, 821, 0)), (821, (.iadd, 822, 0)), (822, (.iaload, 823, 0)), (823, (.aload_n 3, 824, 0)), (824, (.invokestatic 170, 827, 0)), (827, (.istore 6, 829, 0)), (829, (.aload_n 2, 830, 0)), (830, (.aload_n 0, 831, 0)), (831, (.iload 5, 833, 0)), (833, (.iconst 1, 834, 0)), (834, (.iadd, 835, 0)), (835, (.iaload, 836, 0)), (836, (.invokevirtual 172, 839, 0)), (839, (.istore 7, 841, 0)), (841, (.aload_n 2, 842, 0)), (842, (.invokevirtual 139, 845, 0)), (845, (.iload 6, 847, 0)), (847, (.if_icmp .eq 5, 850, 852)), (850, (.iconst 0, 851, 0)), (851, (.ireturn, 852, 0)), (852, (.iload 6, 854, 0)), (854, (.ifCond .ne 15, 857, 869)), (857, (.aload_n 3, 858, 0)), (858, (.iconst 0, 859, 0)), (859, (.laload, 860, 0)), (860, (.iload 7, 862, 0)), (862, (.i2l, 863, 0))]
theorem kd_13 : ∀ q ∈ kc_13, decode cL_law q.1 = .ok (q.2.1, q.2.2.1 - q.1) := (fa_cons dL_law_812 (fa_cons dL_law_813 (fa_cons dL_law_816 (fa_cons dL_law_817 (fa_cons dL_law_818 (fa_cons dL_law_820 (fa_cons dL_law_821 (fa_cons dL_law_822 (fa_cons dL_law_823 (fa_cons dL_law_824 (fa_cons dL_law_827 (fa_cons dL_law_829 (fa_cons dL_law_830 (fa_cons dL_law_831 (fa_cons dL_law_833 (fa_cons dL_law_834 (fa_cons dL_law_835 (fa_cons dL_law_836 (fa_cons dL_law_839 (fa_cons dL_law_841 (fa_cons dL_law_842 (fa_cons dL_law_845 (fa_cons dL_law_847 (fa_cons dL_law_850 (fa_cons dL_law_851 (fa_cons dL_law_852 (fa_cons dL_law_854 (fa_cons dL_law_857 (fa_cons dL_law_858 (fa_cons dL_law_859 (fa_cons dL_law_860 (fa_cons dL_law_862 fa_nil))))))))))))))))))))))))))))))))
def kc_14 : List (Nat × (Instr × Nat × Nat)) := [(863, (.lcmp, 864, 0)), (864, (.ifCond .eq 5, 867, 869)), (867, (.iconst 0, 868, 0)), (868, (.ireturn, 869, 0)), (869, (.goto 1384, 872, 2253)), (872, (.aload_n 1, 873, 0)), (873, (.aload_n 0, 874, 0)), (874, (.iload 5, 876, 0)), (876, (.iconst 1, 877, 0)), (877, (.iadd, 878, 0)), (878, (.iaload, 879, 0)), (879, (.aload_n 3, 880, 0)), (880, (.invokestatic 173, 883, 0)), (883, (.istore 6, 885, 0)), (885, (.aload_n 2, 886, 0)), (886, (.aload_n 0, 887, 0)), (887, (.iload 5, 889, 0)), (889, (.iconst 1, 890, 0)), (890, (.iadd, 891, 0)), (891, (.iaload, 892, 0)), (892, (.invokevirtual 175, 895, 0)), (895, (.istore 7, 897, 0)), (897, (.aload_n 2, 898, 0)), (898, (.invokevirtual 139, 901, 0)), (901, (.iload 6, 903, 0)), (903, (.if_icmp .eq 5, 906, 908)), (906, (.iconst 0, 907, 0)), (907, (.ireturn, 908, 0)), (908, (.iload 6, 910, 0)), (910, (.ifCond .ne 15, 913, 925)), (913, (.aload_n 3, 914, 0)), (914, (.iconst 0, 915, 0))]
theorem kd_14 : ∀ q ∈ kc_14, decode cL_law q.1 = .ok (q.2.1, q.2.2.1 - q.1) := (fa_cons dL_law_863 (fa_cons dL_law_864 (fa_cons dL_law_867 (fa_cons dL_law_868 (fa_cons dL_law_869 (fa_cons dL_law_872 (fa_cons dL_law_873 (fa_cons dL_law_874 (fa_cons dL_law_876 (fa_cons dL_law_877 (fa_cons dL_law_878 (fa_cons dL_law_879 (fa_cons dL_law_880 (fa_cons dL_law_883 (fa_cons dL_law_885 (fa_cons dL_law_886 (fa_cons dL_law_887 (fa_cons dL_law_889 (fa_cons dL_law_890 (fa_cons dL_law_891 (fa_cons dL_law_892 (fa_cons dL_law_895 (fa_cons dL_law_897 (fa_cons dL_law_898 (fa_cons dL_law_901 (fa_cons dL_law_903 (fa_cons dL_law_906 (fa_cons dL_law_907 (fa_cons dL_law_908 (fa_cons dL_law_910 (fa_cons dL_law_913 (fa_cons dL_law_914 fa_nil))))))))))))))))))))))))))))))))
def kc_15 : List (Nat × (Instr × Nat × Nat)) := [(915, (.laload, 916, 0)), (916, (.iload 7, 918, 0)), (918, (.i2l, 919, 0)), (919, (.lcmp, 920, 0)), (920, (.ifCond .eq 5, 923, 925)), (923, (.iconst 0, 924, 0)), (924, (.ireturn, 925, 0)), (925, (.goto 1328, 928, 2253)), (928, (.aload_n 1, 929, 0)), (929, (.aload_n 0, 930, 0)), (930, (.iload 5, 932, 0)), (932, (.iconst 1, 933, 0)), (933, (.iadd, 934, 0)), (934, (.iaload, 935, 0)), (935, (.aload_n 0, 936, 0)), (936, (.iload 5, 938, 0)), (938, (.iconst 2, 939, 0)), (939, (.iadd, 940, 0)), (940, (.iaload, 941, 0)), (941, (.aload_n 3, 942, 0)), (942, (.invokestatic 176, 945, 0)), (945, (.istore 6, 947, 0)), (947, (.aload_n 2, 948, 0)), (948, (.aload_n 0, 949, 0)), (949, (.iload 5, 951, 0)), (951, (.iconst 1, 952, 0)), (952, (.iadd, 953, 0)), (953, (.iaload, 954, 0)), (954, (.aload_n 0, 955, 0)), (955, (.iload 5, 957, 0)), (957, (.iconst 2, 958, 0)), (958, (.iadd, 959, 0))]
theorem kd_15 : ∀ q ∈ kc_15, decode cL_law q.1 = .ok (q.2.1, q.2.2.1 - q.1) := (fa_cons dL_law_915 (fa_cons dL_law_916 (fa_cons dL_law_918 (fa_cons dL_law_919 (fa_cons dL_law_920 (fa_cons dL_law_923 (fa_cons dL_law_924 (fa_cons dL_law_925 (fa_cons dL_law_928 (fa_cons dL_law_929 (fa_cons dL_law_930 (fa_cons dL_law_932 (fa_cons dL_law_933 (fa_cons dL_law_934 (fa_cons dL_law_935 (fa_cons dL_law_936 (fa_cons dL_law_938 (fa_cons dL_law_939 (fa_cons dL_law_940 (fa_cons dL_law_941 (fa_cons dL_law_942 (fa_cons dL_law_945 (fa_cons dL_law_947 (fa_cons dL_law_948 (fa_cons dL_law_949 (fa_cons dL_law_951 (fa_cons dL_law_952 (fa_cons dL_law_953 (fa_cons dL_law_954 (fa_cons dL_law_955 (fa_cons dL_law_957 (fa_cons dL_law_958 fa_nil))))))))))))))))))))))))))))))))
def kc_16 : List (Nat × (Instr × Nat × Nat)) := [(959, (.iaload, 960, 0)), (960, (.invokevirtual 178, 963, 0)), (963, (.istore 7, 965, 0)), (965, (.aload_n 2, 966, 0)), (966, (.invokevirtual 139, 969, 0)), (969, (.iload 6, 971, 0)), (971, (.if_icmp .eq 5, 974, 976)), (974, (.iconst 0, 975, 0)), (975, (.ireturn, 976, 0)), (976, (.iload 6, 978, 0)), (978, (.ifCond .ne 15, 981, 993)), (981, (.aload_n 3, 982, 0)), (982, (.iconst 0, 983, 0)), (983, (.laload, 984, 0)), (984, (.iload 7, 986, 0)), (986, (.i2l, 987, 0)), (987, (.lcmp, 988, 0)), (988, (.ifCond .eq 5, 991, 993)), (991, (.iconst 0, 992, 0)), (992, (.ireturn, 993, 0)), (993, (.goto 1260, 996, 2253)), (996, (.aload_n 1, 997, 0)), (997, (.aload_n 0, 998, 0)), (998, (.iload 5, 1000, 0)), (1000, (.iconst 1, 1001, 0)), (1001, (.iadd, 1002, 0)), (1002, (.iaload, 1003, 0)), (1003, (.aload_n 3, 1004, 0)), (1004, (.invokestatic 179, 1007, 0)), (1007, (.istore 6, 1009, 0)), (1009, (.aload_n 2, 1010, 0)), (1010, (.aload_n 0, 1011, 0))]
theorem kd_16 : ∀ q ∈ kc_16, decode cL_law q.1 = .ok (q.2.1, q.2.2.1 - q.1) := (fa_cons dL_law_959 (fa_cons dL_law_960 (fa_cons dL_law_963 (fa_cons dL_law_965 (fa_cons dL_law_966 (fa_cons dL_law_969 (fa_cons dL_law_971 (fa_cons dL_law_974 (fa_cons dL_law_975 (fa_cons dL_law_976 (fa_cons dL_law_978 (fa_cons dL_law_981 (fa_cons dL_law_982 (fa_cons dL_law_983 (fa_cons dL_law_984 (fa_cons dL_law_986 (fa_cons dL_law_987 (fa_cons dL_law_988 (fa_cons dL_law_991 (fa_cons dL_law_992 (fa_cons dL_law_993 (fa_cons dL_law_996 (fa_cons dL_law_997 (fa_cons dL_law_998 (fa_cons dL_law_1000 (fa_cons dL_law_1001 (fa_cons dL_law_1002 (fa_cons dL_law_1003 (fa_cons dL_law_1004 (fa_cons dL_law_1007 (fa_cons dL_law_1009 (fa_cons dL_law_1010 fa_nil))))))))))))))))))))))))))))))))
def kc_17 : List (Nat × (Instr × Nat × Nat)) := [(1011, (.iload 5, 1013, 0)), (1013, (.iconst 1, 1014, 0)), (1014, (.iadd, 1015, 0)), (1015, (.iaload, 1016, 0)), (1016, (.invokevirtual 181, 1019, 0)), (1019, (.istore 7, 1021, 0)), (1021, (.aload_n 2, 1022, 0)), (1022, (.invokevirtual 139, 1025, 0)), (1025, (.iload 6, 1027, 0)), (1027, (.if_icmp .eq 5, 1030, 1032)), (1030, (.iconst 0, 1031, 0)), (1031, (.ireturn, 1032, 0)), (1032, (.iload 6, 1034, 0)), (1034, (.ifCond .ne 15, 1037, 1049)), (1037, (.aload_n 3, 1038, 0)), (1038, (.iconst 0, 1039, 0)), (1039, (.laload, 1040, 0)), (1040, (.iload 7, 1042, 0)), (1042, (.i2l, 1043, 0)), (1043, (.lcmp, 1044, 0)), (1044, (.ifCond .eq 5, 1047, 1049)), (1047, (.iconst 0, 1048, 0)), (1048, (.ireturn, 1049, 0)), (1049, (.goto 1204, 1052, 2253)), (1052, (.aload_n 1, 1053, 0)), (1053, (.aload_n 0, 1054, 0)), (1054, (.iload 5, 1056, 0)), (1056, (.iconst 1, 1057, 0)), (1057, (.iadd, 1058, 0)), (1058, (.iaload, 1059, 0)), (1059, (.aload_n 0, 1060, 0)), (1060, (.iload 5, 1062, 0))]
theorem kd_17 : ∀ q ∈ kc_17, decode cL_law q.1 = .ok (q.2.1, q.2.2.1 - q.1) := (fa_cons dL_law_1011 (fa_cons dL_law_1013 (fa_cons dL_law_1014 (fa_cons dL_law_1015 (fa_cons dL_law_1016 (fa_cons dL_law_1019 (fa_cons dL_law_1021 (fa_cons dL_law_1022 (fa_cons dL_law_1025 (fa_cons dL_law_1027 (fa_cons dL_law_1030 (fa_cons dL_law_1031 (fa_cons dL_law_1032 (fa_cons dL_law_1034 (fa_cons dL_law_1037 (fa_cons dL_law_1038 (fa_cons dL_law_1039 (fa_cons dL_law_1040 (fa_cons dL_law_1042 (fa_cons dL_law_1043 (fa_cons dL_law_1044 (fa_cons dL_law_1047 (fa_cons dL_law_1048 (fa_cons dL_law_1049 (fa_cons dL_law_1052 (fa_cons dL_law_1053 (fa_cons dL_law_1054 (fa_cons dL_law_1056 (fa_cons dL_law_1057 (fa_cons dL_law_1058 (fa_cons dL_law_1059 (fa_cons dL_law_1060 fa_nil))))))))))))))))))))))))))))))))
def kc_18 : List (Nat × (Instr × Nat × Nat)) := [(1062, (.iconst 2, 1063, 0)), (1063, (.iadd, 1064, 0)), (1064, (.iaload, 1065, 0)), (1065, (.aload_n 3, 1066, 0)), (1066, (.invokestatic 182, 1069, 0)), (1069, (.istore 6, 1071, 0)), (1071, (.aload_n 2, 1072, 0)), (1072, (.aload_n 0, 1073, 0)), (1073, (.iload 5, 1075, 0)), (1075, (.iconst 1, 1076, 0)), (1076, (.iadd, 1077, 0)), (1077, (.iaload, 1078, 0)), (1078, (.aload_n 0, 1079, 0)), (1079, (.iload 5, 1081, 0)), (1081, (.iconst 2, 1082, 0)), (1082, (.iadd, 1083, 0)), (1083, (.iaload, 1084, 0)), (1084, (.invokevirtual 184, 1087, 0)), (1087, (.istore 7, 1089, 0)), (1089, (.aload_n 2, 1090, 0)), (1090, (.invokevirtual 139, 1093, 0)), (1093, (.iload 6, 1095, 0)), (1095, (.if_icmp .eq 5, 1098, 1100)), (1098, (.iconst 0, 1099, 0)), (1099, (.ireturn, 1100, 0)), (1100, (.iload 6, 1102, 0)), (1102, (.ifCond .ne 15, 1105, 1117)), (1105, (.aload_n 3, 1106, 0)), (1106, (.iconst 0, 1107, 0)), (1107, (.laload, 1108, 0)), (1108, (.iload 7, 1110, 0)), (1110, (.i2l, 1111, 0))]
theorem kd_18 : ∀ q ∈ kc_18, decode cL_law q.1 = .ok (q.2.1, q.2.2.1 - q.1) := (fa_cons dL_law_1062 (fa_cons dL_law_1063 (fa_cons dL_law_1064 (fa_cons dL_law_1065 (fa_cons dL_law_1066 (fa_cons dL_law_1069 (fa_cons dL_law_1071 (fa_cons dL_law_1072 (fa_cons dL_law_1073 (fa_cons dL_law_1075 (fa_cons dL_law_1076 (fa_cons dL_law_1077 (fa_cons dL_law_1078 (fa_cons dL_law_1079 (fa_cons dL_law_1081 (fa_cons dL_law_1082 (fa_cons dL_law_1083 (fa_cons dL_law_1084 (fa_cons dL_law_1087 (fa_cons dL_law_1089 (fa_cons dL_law_1090 (fa_cons dL_law_1093 (fa_cons dL_law_1095 (fa_cons dL_law_1098 (fa_cons dL_law_1099 (fa_cons dL_law_1100 (fa_cons dL_law_1102 (fa_cons dL_law_1105 (fa_cons dL_law_1106 (fa_cons dL_law_1107 (fa_cons dL_law_1108 (fa_cons dL_law_1110 fa_nil))))))))))))))))))))))))))))))))
def kc_19 : List (Nat × (Instr × Nat × Nat)) := [(1111, (.lcmp, 1112, 0)), (1112, (.ifCond .eq 5, 1115, 1117)), (1115, (.iconst 0, 1116, 0)), (1116, (.ireturn, 1117, 0)), (1117, (.goto 1136, 1120, 2253)), (1120, (.aload_n 1, 1121, 0)), (1121, (.aload_n 0, 1122, 0)), (1122, (.iload 5, 1124, 0)), (1124, (.iconst 1, 1125, 0)), (1125, (.iadd, 1126, 0)), (1126, (.iaload, 1127, 0)), (1127, (.aload_n 0, 1128, 0)), (1128, (.iload 5, 1130, 0)), (1130, (.iconst 2, 1131, 0)), (1131, (.iadd, 1132, 0)), (1132, (.iaload, 1133, 0)), (1133, (.ifCond .eq 7, 1136, 1140)), (1136, (.iconst 1, 1137, 0)), (1137, (.goto 4, 1140, 1141)), (1140, (.iconst 0, 1141, 0)), (1141, (.aload_n 3, 1142, 0)), (1142, (.invokestatic 185, 1145, 0)), (1145, (.istore 6, 1147, 0)), (1147, (.aload_n 2, 1148, 0)), (1148, (.aload_n 0, 1149, 0)), (1149, (.iload 5, 1151, 0)), (1151, (.iconst 1, 1152, 0)), (1152, (.iadd, 1153, 0)), (1153, (.iaload, 1154, 0)), (1154, (.aload_n 0, 1155, 0)), (1155, (.iload 5, 1157, 0)), (1157, (.iconst 2, 1158, 0))]
theorem kd_19 : ∀ q ∈ kc_19, decode cL_law q.1 = .ok (q.2.1, q.2.2.1 - q.1) := (fa_cons dL_law_1111 (fa_cons dL_law_1112 (fa_cons dL_law_1115 (fa_cons dL_law_1116 (fa_cons dL_law_1117 (fa_cons dL_law_1120 (fa_cons dL_law_1121 (fa_cons dL_law_1122 (fa_cons dL_law_1124 (fa_cons dL_law_1125 (fa_cons dL_law_1126 (fa_cons dL_law_1127 (fa_cons dL_law_1128 (fa_cons dL_law_1130 (fa_cons dL_law_1131 (fa_cons dL_law_1132 (fa_cons dL_law_1133 (fa_cons dL_law_1136 (fa_cons dL_law_1137 (fa_cons dL_law_1140 (fa_cons dL_law_1141 (fa_cons dL_law_1142 (fa_cons dL_law_1145 (fa_cons dL_law_1147 (fa_cons dL_law_1148 (fa_cons dL_law_1149 (fa_cons dL_law_1151 (fa_cons dL_law_1152 (fa_cons dL_law_1153 (fa_cons dL_law_1154 (fa_cons dL_law_1155 (fa_cons dL_law_1157 fa_nil))))))))))))))))))))))))))))))))
def kc_20 : List (Nat × (Instr × Nat × Nat)) := [(1158, (.iadd, 1159, 0)), (1159, (.iaload, 1160, 0)), (1160, (.ifCond .eq 7, 1163, 1167)), (1163, (.iconst 1, 1164, 0)), (1164, (.goto 4, 1167, 1168)), (1167, (.iconst 0, 1168, 0)), (1168, (.invokevirtual 188, 1171, 0)), (1171, (.istore 7, 1173, 0)), (1173, (.aload_n 2, 1174, 0)), (1174, (.invokevirtual 139, 1177, 0)), (1177, (.iload 6, 1179, 0)), (1179, (.if_icmp .eq 5, 1182, 1184)), (1182, (.iconst 0, 1183, 0)), (1183, (.ireturn, 1184, 0)), (1184, (.iload 6, 1186, 0)), (1186, (.ifCond .ne 15, 1189, 1201)), (1189, (.aload_n 3, 1190, 0)), (1190, (.iconst 0, 1191, 0)), (1191, (.laload, 1192, 0)), (1192, (.iload 7, 1194, 0)), (1194, (.i2l, 1195, 0)), (1195, (.lcmp, 1196, 0)), (1196, (.ifCond .eq 5, 1199, 1201)), (1199, (.iconst 0, 1200, 0)), (1200, (.ireturn, 1201, 0)), (1201, (.goto 1052, 1204, 2253)), (1204, (.aload_n 1, 1205, 0)), (1205, (.aload_n 0, 1206, 0)), (1206, (.iload 5, 1208, 0)), (1208, (.iconst 1, 1209, 0)), (1209, (.iadd, 1210, 0)), (1210, (.iaload, 1211, 0))]
theorem kd_20 : ∀ q ∈ kc_20, decode cL_law q.1 = .ok (q.2.1, q.2.2.1 - q.1) := (fa_cons dL_law_1158 (fa_cons dL_law_1159 (fa_cons dL_law_1160 (fa_cons dL_law_1163 (fa_cons dL_law_1164 (fa_cons dL_law_1167 (fa_cons dL_law_1168 (fa_cons dL_law_1171 (fa_cons dL_law_1173 (fa_cons dL_law_1174 (fa_cons dL_law_1177 (fa_cons dL_law_1179 (fa_cons dL_law_1182 (fa_cons dL_law_1183 (fa_cons dL_law_1184 (fa_cons dL_law_1186 (fa_cons dL_law_1189 (fa_cons dL_law_1190 (fa_cons dL_law_1191 (fa_cons dL_law_1192 (fa_cons dL_law_1194 (fa_cons dL_law_1195 (fa_cons dL_law_1196 (fa_cons dL_law_1199 (fa_cons dL_law_1200 (fa_cons dL_law_1201 (fa_cons dL_law_1204 (fa_cons dL_law_1205 (fa_cons dL_law_1206 (fa_cons dL_law_1208 (fa_cons dL_law_1209 (fa_cons dL_law_1210 fa_nil))))))))))))))))))))))))))))))))
def kc_21 : List (Nat × (Instr × Nat × Nat)) := [(1211, (.aload_n 0, 1212, 0)), (1212, (.iload 5, 1214, 0)), (1214, (.iconst 2, 1215, 0)), (1215, (.iadd, 1216, 0)), (1216, (.iaload, 1217, 0)), (1217, (.aload_n 3, 1218, 0)), (1218, (.invokestatic 189, 1221, 0)), (1221, (.istore 6, 1223, 0)), (1223, (.aload_n 2, 1224, 0)), (1224, (.aload_n 0, 1225, 0)), (1225, (.iload 5, 1227, 0)), (1227, (.iconst 1, 1228, 0)), (1228, (.iadd, 1229, 0)), (1229, (.iaload, 1230, 0)), (1230, (.aload_n 0, 1231, 0)), (1231, (.iload 5, 1233, 0)), (1233, (.iconst 2, 1234, 0)), (1234, (.iadd, 1235, 0)), (1235, (.iaload, 1236, 0)), (1236, (.invokevirtual 191, 1239, 0)), (1239, (.istore 7, 1241, 0)), (1241, (.aload_n 2, 1242, 0)), (1242, (.invokevirtual 139, 1245, 0)), (1245, (.iload 6, 1247, 0)), (1247, (.if_icmp .eq 5, 1250, 1252)), (1250, (.iconst 0, 1251, 0)), (1251, (.ireturn, 1252, 0)), (1252, (.iload 6, 1254, 0)), (1254, (.ifCond .ne 15, 1257, 1269)), (1257, (.aload_n 3, 1258, 0)), (1258, (.iconst 0, 1259, 0)), (1259, (.laload, 1260, 0))]
theorem kd_21 : ∀ q ∈ kc_21, decode cL_law q.1 = .ok (q.2.1, q.2.2.1 - q.1) := (fa_cons dL_law_1211 (fa_cons dL_law_1212 (fa_cons dL_law_1214 (fa_cons dL_law_1215 (fa_cons dL_law_1216 (fa_cons dL_law_1217 (fa_cons dL_law_1218 (fa_cons dL_law_1221 (fa_cons dL_law_1223 (fa_cons dL_law_1224 (fa_cons dL_law_1225 (fa_cons dL_law_1227 (fa_cons dL_law_1228 (fa_cons dL_law_1229 (fa_cons dL_law_1230 (fa_cons dL_law_1231 (fa_cons dL_law_1233 (fa_cons dL_law_1234 (fa_cons dL_law_1235 (fa_cons dL_law_1236 (fa_cons dL_law_1239 (fa_cons dL_law_1241 (fa_cons dL_law_1242 (fa_cons dL_law_1245 (fa_cons dL_law_1247 (fa_cons dL_law_1250 (fa_cons dL_law_1251 (fa_cons dL_law_1252 (fa_cons dL_law_1254 (fa_cons dL_law_1257 (fa_cons dL_law_1258 (fa_cons dL_law_1259 fa_nil))))))))))))))))))))))))))))))))
def kc_22 : List (Nat × (Instr × Nat × Nat)) := [(1260, (.iload 7, 1262, 0)), (1262, (.i2l, 1263, 0)), (1263, (.lcmp, 1264, 0)), (1264, (.ifCond .eq 5, 1267, 1269)), (1267, (.iconst 0, 1268, 0)), (1268, (.ireturn, 1269, 0)), (1269, (.goto 984, 1272, 2253)), (1272, (.aload_n 1, 1273, 0)), (1273, (.aload_n 0, 1274, 0)), (1274, (.iload 5, 1276, 0)), (1276, (.iconst 1, 1277, 0)), (1277, (.iadd, 1278, 0)), (1278, (.iaload, 1279, 0)), (1279, (.aload_n 3, 1280, 0)), (1280, (.invokestatic 192, 1283, 0)), (1283, (.istore 6, 1285, 0)), (1285, (.aload_n 2, 1286, 0)), (1286, (.aload_n 0, 1287, 0)), (1287, (.iload 5, 1289, 0)), (1289, (.iconst 1, 1290, 0)), (1290, (.iadd, 1291, 0)), (1291, (.iaload, 1292, 0)), (1292, (.invokevirtual 194, 1295, 0)), (1295, (.istore 7, 1297, 0)), (1297, (.aload_n 2, 1298, 0)), (1298, (.invokevirtual 139, 1301, 0)), (1301, (.iload 6, 1303, 0)), (1303, (.if_icmp .eq 5, 1306, 1308)), (1306, (.iconst 0, 1307, 0)), (1307, (.ireturn, 1308, 0)), (1308, (.iload 6, 1310, 0)), (1310, (.ifCond .ne 15, 1313, 1325))]
theorem kd_22 : ∀ q ∈ kc_22, decode cL_law q.1 = .ok (q.2.1, q.2.2.1 - q.1) := (fa_cons dL_law_1260 (fa_cons dL_law_1262 (fa_cons dL_law_1263 (fa_cons dL_law_1264 (fa_cons dL_law_1267 (fa_cons dL_law_1268 (fa_cons dL_law_1269 (fa_cons dL_law_1272 (fa_cons dL_law_1273 (fa_cons dL_law_1274 (fa_cons dL_law_1276 (fa_cons dL_law_1277 (fa_cons dL_law_1278 (fa_cons dL_law_1279 (fa_cons dL_law_1280 (fa_cons dL_law_1283 (fa_cons dL_law_1285 (fa_cons dL_law_1286 (fa_cons dL_law_1287 (fa_cons dL_law_1289 (fa_cons dL_law_1290 (fa_cons dL_law_1291 (fa_cons dL_law_1292 (fa_cons dL_law_1295 (fa_cons dL_law_1297 (fa_cons dL_law_1298 (fa_cons dL_law_1301 (fa_cons dL_law_1303 (fa_cons dL_law_1306 (fa_cons dL_law_1307 (fa_cons dL_law_1308 (fa_cons dL_law_1310 fa_nil))))))))))))))))))))))))))))))))
def kc_23 : List (Nat × (Instr × Nat × Nat)) := [(1313, (.aload_n 3, 1314, 0)), (1314, (.iconst 0, 1315, 0)), (1315, (.laload, 1316, 0)), (1316, (.iload 7, 1318, 0)), (1318, (.i2l, 1319, 0)), (1319, (.lcmp, 1320, 0)), (1320, (.ifCond .eq 5, 1323, 1325)), (1323, (.iconst 0, 1324, 0)), (1324, (.ireturn, 1325, 0)), (1325, (.goto 928, 1328, 2253)), (1328, (.aload_n 1, 1329, 0)), (1329, (.aload_n 0, 1330, 0)), (1330, (.iload 5, 1332, 0)), (1332, (.iconst 1, 1333, 0)), (1333, (.iadd, 1334, 0)), (1334, (.iaload, 1335, 0)), (1335, (.aload_n 0, 1336, 0)), (1336, (.iload 5, 1338, 0)), (1338, (.iconst 2, 1339, 0)), (1339, (.iadd, 1340, 0)), (1340, (.iaload, 1341, 0)), (1341, (.ifCond .eq 7, 1344, 1348)), (1344, (.iconst 1, 1345, 0)), (1345, (.goto 4, 1348, 1349)), (1348, (.iconst 0, 1349, 0)), (1349, (.aload_n 3, 1350, 0)), (1350, (.invokestatic 195, 1353, 0)), (1353, (.istore 6, 1355, 0)), (1355, (.aload_n 2, 1356, 0)), (1356, (.aload_n 0, 1357, 0)), (1357, (.iload 5, 1359, 0)), (1359, (.iconst 1, 1360, 0))]
theorem kd_23 : ∀ q ∈ kc_23, decode cL_law q.1 = .ok (q.2.1, q.2.2.1 - q.1) := (fa_cons dL_law_1313 (fa_cons dL_law_1314 (fa_cons dL_law_1315 (fa_cons dL_law_1316 (fa_cons dL_law_1318 (fa_cons dL_law_1319 (fa_cons dL_law_1320 (fa_cons dL_law_1323 (fa_cons dL_law_1324 (fa_cons dL_law_1325 (fa_cons dL_law_1328 (fa_cons dL_law_1329 (fa_cons dL_law_1330 (fa_cons dL_law_1332 (fa_cons dL_law_1333 (fa_cons dL_law_1334 (fa_cons dL_law_1335 (fa_cons dL_law_1336 (fa_cons dL_law_1338 (fa_cons dL_law_1339 (fa_cons dL_law_1340 (fa_cons dL_law_1341 (fa_cons dL_law_1344 (fa_cons dL_law_1345 (fa_cons dL_law_1348 (fa_cons dL_law_1349 (fa_cons dL_law_1350 (fa_cons dL_law_1353 (fa_cons dL_law_1355 (fa_cons dL_law_1356 (fa_cons dL_law_1357 (fa_cons dL_law_1359 fa_nil))))))))))))))))))))))))))))))))
def kc_24 : List (Nat × (Instr × Nat × Nat)) := [(1360, (.iadd, 1361, 0)), (1361, (.iaload, 1362, 0)), (1362, (.aload_n 0, 1363, 0)), (1363, (.iload 5, 1365, 0)), (1365, (.iconst 2, 1366, 0)), (1366, (.iadd, 1367, 0)), (1367, (.iaload, 1368, 0)), (1368, (.ifCond .eq 7, 1371, 1375)), (1371, (.iconst 1, 1372, 0)), (1372, (.goto 4, 1375, 1376)), (1375, (.iconst 0, 1376, 0)), (1376, (.invokevirtual 197, 1379, 0)), (1379, (.istore 7, 1381, 0)), (1381, (.aload_n 2, 1382, 0)), (1382, (.invokevirtual 139, 1385, 0)), (1385, (.iload 6, 1387, 0)), (1387, (.if_icmp .eq 5, 1390, 1392)), (1390, (.iconst 0, 1391, 0)), (1391, (.ireturn, 1392, 0)), (1392, (.iload 6, 1394, 0)), (1394, (.ifCond .ne 15, 1397, 1409)), (1397, (.aload_n 3, 1398, 0)), (1398, (.iconst 0, 1399, 0)), (1399, (.laload, 1400, 0)), (1400, (.iload 7, 1402, 0)), (1402, (.i2l, 1403, 0)), (1403, (.lcmp, 1404, 0)), (1404, (.ifCond .eq 5, 1407, 1409)), (1407, (.iconst 0, 1408, 0)), (1408, (.ireturn, 1409, 0)), (1409, (.goto 844, 1412, 2253)), (1412, (.aload_n 1, 1413, 0))]
theorem kd_24 : ∀ q ∈ kc_24, decode cL_law q.1 = .ok (q.2.1, q.2.2.1 - q.1) := (fa_cons dL_law_1360 (fa_cons dL_law_1361 (fa_cons dL_law_1362 (fa_cons dL_law_1363 (fa_cons dL_law_1365 (fa_cons dL_law_1366 (fa_cons dL_law_1367 (fa_cons dL_law_1368 (fa_cons dL_law_1371 (fa_cons dL_law_1372 (fa_cons dL_law_1375 (fa_cons dL_law_1376 (fa_cons dL_law_1379 (fa_cons dL_law_1381 (fa_cons dL_law_1382 (fa_cons dL_law_1385 (fa_cons dL_law_1387 (fa_cons dL_law_1390 (fa_cons dL_law_1391 (fa_cons dL_law_1392 (fa_cons dL_law_1394 (fa_cons dL_law_1397 (fa_cons dL_law_1398 (fa_cons dL_law_1399 (fa_cons dL_law_1400 (fa_cons dL_law_1402 (fa_cons dL_law_1403 (fa_cons dL_law_1404 (fa_cons dL_law_1407 (fa_cons dL_law_1408 (fa_cons dL_law_1409 (fa_cons dL_law_1412 fa_nil))))))))))))))))))))))))))))))))
def kc_25 : List (Nat × (Instr × Nat × Nat)) := [(1413, (.aload_n 3, 1414, 0)), (1414, (.invokestatic 198, 1417, 0)), (1417, (.istore 6, 1419, 0)), (1419, (.aload_n 2, 1420, 0)), (1420, (.invokevirtual 201, 1423, 0)), (1423, (.istore 7, 1425, 0)), (1425, (.aload_n 2, 1426, 0)), (1426, (.invokevirtual 139, 1429, 0)), (1429, (.iload 6, 1431, 0)), (1431, (.if_icmp .eq 5, 1434, 1436)), (1434, (.iconst 0, 1435, 0)), (1435, (.ireturn, 1436, 0)), (1436, (.iload 6, 1438, 0)), (1438, (.ifCond .ne 15, 1441, 1453)), (1441, (.aload_n 3, 1442, 0)), (1442, (.iconst 0, 1443, 0)), (1443, (.laload, 1444, 0)), (1444, (.iload 7, 1446, 0)), (1446, (.i2l, 1447, 0)), (1447, (.lcmp, 1448, 0)), (1448, (.ifCond .eq 5, 1451, 1453)), (1451, (.iconst 0, 1452, 0)), (1452, (.ireturn, 1453, 0)), (1453, (.goto 800, 1456, 2253)), (1456, (.aload_n 1, 1457, 0)), (1457, (.aload_n 0, 1458, 0)), (1458, (.iload 5, 1460, 0)), (1460, (.iconst 1, 1461, 0)), (1461, (.iadd, 1462, 0)), (1462, (.iaload, 1463, 0)), (1463, (.aload_n 3, 1464, 0)), (1464, (.invokestatic 202, 1467, 0))]
theorem kd_25 : ∀ q ∈ kc_25, decode cL_law q.1 = .ok (q.2.1, q.2.2.1 - q.1) := (fa_cons dL_law_1413 (fa_cons dL_law_1414 (fa_cons dL_law_1417 (fa_cons dL_law_1419 (fa_cons dL_law_1420 (fa_cons dL_law_1423 (fa_cons dL_law_1425 (fa_cons dL_law_1426 (fa_cons dL_law_1429 (fa_cons dL_law_1431 (fa_cons dL_law_1434 (fa_cons dL_law_1435 (fa_cons dL_law_1436 (fa_cons dL_law_1438 (fa_cons dL_law_1441 (fa_cons dL_law_1442 (fa_cons dL_law_1443 (fa_cons dL_law_1444 (fa_cons dL_law_1446 (fa_cons dL_law_1447 (fa_cons dL_law_1448 (fa_cons dL_law_1451 (fa_cons dL_law_1452 (fa_cons dL_law_1453 (fa_cons dL_law_1456 (fa_cons dL_law_1457 (fa_cons dL_law_1458 (fa_cons dL_law_1460 (fa_cons dL_law_1461 (fa_cons dL_law_1462 (fa_cons dL_law_1463 (fa_cons dL_law_1464 fa_nil))))))))))))))))))))))))))))))))
def kc_26 : List (Nat × (Instr × Nat × Nat)) := [(1467, (.istore 6, 1469, 0)), (1469, (.aload_n 2, 1470, 0)), (1470, (.aload_n 0, 1471, 0)), (1471, (.iload 5, 1473, 0)), (1473, (.iconst 1, 1474, 0)), (1474, (.iadd, 1475, 0)), (1475, (.iaload, 1476, 0)), (1476, (.invokevirtual 204, 1479, 0)), (1479, (.istore 7, 1481, 0)), (1481, (.aload_n 2, 1482, 0)), (1482, (.invokevirtual 139, 1485, 0)), (1485, (.iload 6, 1487, 0)), (1487, (.if_icmp .eq 5, 1490, 1492)), (1490, (.iconst 0, 1491, 0)), (1491, (.ireturn, 1492, 0)), (1492, (.iload 6, 1494, 0)), (1494, (.ifCond .ne 15, 1497, 1509)), (1497, (.aload_n 3, 1498, 0)), (1498, (.iconst 0, 1499, 0)), (1499, (.laload, 1500, 0)), (1500, (.iload 7, 1502, 0)), (1502, (.i2l, 1503, 0)), (1503, (.lcmp, 1504, 0)), (1504, (.ifCond .eq 5, 1507, 1509)), (1507, (.iconst 0, 1508, 0)), (1508, (.ireturn, 1509, 0)), (1509, (.goto 744, 1512, 2253)), (1512, (.aload_n 1, 1513, 0)), (1513, (.aload_n 0, 1514, 0)), (1514, (.iload 5, 1516, 0)), (1516, (.iconst 1, 1517, 0)), (1517, (.iadd, 1518, 0))]
theorem kd_26 : ∀ q ∈ kc_26, decode cL_law q.1 = .ok (q.2.1, q.2.2.1 - q.1) := (fa_cons dL_law_1467 (fa_cons dL_law_1469 (fa_cons dL_law_1470 (fa_cons dL_law_1471 (fa_cons dL_law_1473 (fa_cons dL_law_1474 (fa_cons dL_law_1475 (fa_cons dL_law_1476 (fa_cons dL_law_1479 (fa_cons dL_law_1481 (fa_cons dL_law_1482 (fa_cons dL_law_1485 (fa_cons dL_law_1487 (fa_cons dL_law_1490 (fa_cons dL_law_1491 (fa_cons dL_law_1492 (fa_cons dL_law_1494 (fa_cons dL_law_1497 (fa_cons dL_law_1498 (fa_cons dL_law_1499 (fa_cons dL_law_1500 (fa_cons dL_law_1502 (fa_cons dL_law_1503 (fa_cons dL_law_1504 (fa_cons dL_law_1507 (fa_cons dL_law_1508 (fa_cons dL_law_1509 (fa_cons dL_law_1512 (fa_cons dL_law_1513 (fa_cons dL_law_1514 (fa_cons dL_law_1516 (fa_cons dL_law_1517 fa_nil))))))))))))))))))))))))))))))))
def kc_27 : List (Nat × (Instr × Nat × Nat)) := [(1518, (.iaload, 1519, 0)), (1519, (.ifCond .eq 7, 1522, 1526)), (1522, (.iconst 1, 1523, 0)), (1523, (.goto 4, 1526, 1527)), (1526, (.iconst 0, 1527, 0)), (1527, (.invokevirtual 205, 1530, 0)), (1530, (.aload_n 2, 1531, 0)), (1531, (.aload_n 0, 1532, 0)), (1532, (.iload 5, 1534, 0)), (1534, (.iconst 1, 1535, 0)), (1535, (.iadd, 1536, 0)), (1536, (.iaload, 1537, 0)), (1537, (.ifCond .eq 7, 1540, 1544)), (1540, (.iconst 1, 1541, 0)), (1541, (.goto 4, 1544, 1545)), (1544, (.iconst 0, 1545, 0)), (1545, (.invokevirtual 208, 1548, 0)), (1548, (.if_icmp .eq 705, 1551, 2253)), (1551, (.iconst 0, 1552, 0)), (1552, (.ireturn, 1553, 0)), (1553, (.aload_n 1, 1554, 0)), (1554, (.aload_n 3, 1555, 0)), (1555, (.invokestatic 209, 1558, 0)), (1558, (.istore 6, 1560, 0)), (1560, (.aload_n 2, 1561, 0)), (1561, (.invokevirtual 211, 1564, 0)), (1564, (.istore 7, 1566, 0)), (1566, (.aload_n 2, 1567, 0)), (1567, (.invokevirtual 139, 1570, 0)), (1570, (.iload 6, 1572, 0)), (1572, (.if_icmp .eq 5, 1575, 1577)), (1575, (.iconst 0, 1576, 0))]
theorem kd_27 : ∀ q ∈ kc_27, decode cL_law q.1 = .ok (q.2.1, q.2.2.1 - q.1) := (fa_cons dL_law_1518 (fa_cons dL_law_1519 (fa_cons dL_law_1522 (fa_cons dL_law_1523 (fa_cons dL_law_1526 (fa_cons dL_law_1527 (fa_cons dL_law_1530 (fa_cons dL_law_1531 (fa_cons dL_law_1532 (fa_cons dL_law_1534 (fa_cons dL_law_1535 (fa_cons dL_law_1536 (fa_cons dL_law_1537 (fa_cons dL_law_1540 (fa_cons dL_law_1541 (fa_cons dL_law_1544 (fa_cons dL_law_1545 (fa_cons dL_law_1548 (fa_cons dL_law_1551 (fa_cons dL_law_1552 (fa_cons dL_law_1553 (fa_cons dL_law_1554 (fa_cons dL_law_1555 (fa_cons dL_law_1558 (fa_cons dL_law_1560 (fa_cons dL_law_1561 (fa_cons dL_law_1564 (fa_cons dL_law_1566 (fa_cons dL_law_1567 (fa_cons dL_law_1570 (fa_cons dL_law_1572 (fa_cons dL_law_1575 fa_nil))))))))))))))))))))))))))))))))
def kc_28 : List (Nat × (Instr × Nat × Nat)) := [(1576, (.ireturn, 1577, 0)), (1577, (.iload 6, 1579, 0)), (1579, (.ifCond .ne 15, 1582, 1594)), (1582, (.aload_n 3, 1583, 0)), (1583, (.iconst 0, 1584, 0)), (1584, (.laload, 1585, 0)), (1585, (.iload 7, 1587, 0)), (1587, (.i2l, 1588, 0)), (1588, (.lcmp, 1589, 0)), (1589, (.ifCond .eq 5, 1592, 1594)), (1592, (.iconst 0, 1593, 0)), (1593, (.ireturn, 1594, 0)), (1594, (.goto 659, 1597, 2253)), (1597, (.aload_n 1, 1598, 0)), (1598, (.aload_n 0, 1599, 0)), (1599, (.iload 5, 1601, 0)), (1601, (.iconst 1, 1602, 0)), (1602, (.iadd, 1603, 0)), (1603, (.iaload, 1604, 0)), (1604, (.aload_n 3, 1605, 0)), (1605, (.invokestatic 212, 1608, 0)), (1608, (.istore 6, 1610, 0)), (1610, (.aload_n 2, 1611, 0)), (1611, (.aload_n 0, 1612, 0)), (1612, (.iload 5, 1614, 0)), (1614, (.iconst 1, 1615, 0)), (1615, (.iadd, 1616, 0)), (1616, (.iaload, 1617, 0)), (1617, (.invokevirtual 214, 1620, 0)), (1620, (.istore 7, 1622, 0)), (1622, (.aload_n 2, 1623, 0)), (1623, (.invokevirtual 139, 1626, 0))]
theorem kd_28 : ∀ q ∈ kc_28, decode cL_law q.1 = .ok (q.2.1, q.2.2.1 - q.1) := (fa_cons dL_law_1576 (fa_cons dL_law_1577 (fa_cons dL_law_1579 (fa_cons dL_law_1582 (fa_cons dL_law_1583 (fa_cons dL_law_1584 (fa_cons dL_law_1585 (fa_cons dL_law_1587 (fa_cons dL_law_1588 (fa_cons dL_law_1589 (fa_cons dL_law_1592 (fa_cons dL_law_1593 (fa_cons dL_law_1594 (fa_cons dL_law_1597 (fa_cons dL_law_1598 (fa_cons dL_law_1599 (fa_cons dL_law_1601 (fa_cons dL_law_1602 (fa_cons dL_law_1603 (fa_cons dL_law_1604 (fa_cons dL_law_1605 (fa_cons dL_law_1608 (fa_cons dL_law_1610 (fa_cons dL_law_1611 (fa_cons dL_law_1612 (fa_cons dL_law_1614 (fa_cons dL_law_1615 (fa_cons dL_law_1616 (fa_cons dL_law_1617 (fa_cons dL_law_1620 (fa_cons dL_law_1622 (fa_cons dL_law_1623 fa_nil))))))))))))))))))))))))))))))))
def kc_29 : List (Nat × (Instr × Nat × Nat)) := [(1626, (.iload 6, 1628, 0)), (1628, (.if_icmp .eq 5, 1631, 1633)), (1631, (.iconst 0, 1632, 0)), (1632, (.ireturn, 1633, 0)), (1633, (.iload 6, 1635, 0)), (1635, (.ifCond .ne 15, 1638, 1650)), (1638, (.aload_n 3, 1639, 0)), (1639, (.iconst 0, 1640, 0)), (1640, (.laload, 1641, 0)), (1641, (.iload 7, 1643, 0)), (1643, (.i2l, 1644, 0)), (1644, (.lcmp, 1645, 0)), (1645, (.ifCond .eq 5, 1648, 1650)), (1648, (.iconst 0, 1649, 0)), (1649, (.ireturn, 1650, 0)), (1650, (.goto 603, 1653, 2253)), (1653, (.aload_n 1, 1654, 0)), (1654, (.aload_n 0, 1655, 0)), (1655, (.iload 5, 1657, 0)), (1657, (.iconst 1, 1658, 0)), (1658, (.iadd, 1659, 0)), (1659, (.iaload, 1660, 0)), (1660, (.aload_n 3, 1661, 0)), (1661, (.invokestatic 215, 1664, 0)), (1664, (.istore 6, 1666, 0)), (1666, (.aload_n 2, 1667, 0)), (1667, (.aload_n 0, 1668, 0)), (1668, (.iload 5, 1670, 0)), (1670, (.iconst 1, 1671, 0)), (1671, (.iadd, 1672, 0)), (1672, (.iaload, 1673, 0)), (1673, (.invokevirtual 217, 1676, 0))]
theorem kd_29 : ∀ q ∈ kc_29, decode cL_law q.1 = .ok (q.2.1, q.2.2.1 - q.1) := (fa_cons dL_law_1626 (fa_cons dL_law_1628 (fa_cons dL_law_1631 (fa_cons dL_law_1632 (fa_cons dL_law_1633 (fa_cons dL_law_1635 (fa_cons dL_law_1638 (fa_cons dL_law_1639 (fa_cons dL_law_1640 (fa_cons dL_law_1641 (fa_cons dL_law_1643 (fa_cons dL_law_1644 (fa_cons dL_law_1645 (fa_cons dL_law_1648 (fa_cons dL_law_1649 (fa_cons dL_law_1650 (fa_cons dL_law_1653 (fa_cons dL_law_1654 (fa_cons dL_law_1655 (fa_cons dL_law_1657 (fa_cons dL_law_1658 (fa_cons dL_law_1659 (fa_cons dL_law_1660 (fa_cons dL_law_1661 (fa_cons dL_law_1664 (fa_cons dL_law_1666 (fa_cons dL_law_1667 (fa_cons dL_law_1668 (fa_cons dL_law_1670 (fa_cons dL_law_1671 (fa_cons dL_law_1672 (fa_cons dL_law_1673 fa_nil))))))))))))))))))))))))))))))))
def kc_30 : List (Nat × (Instr × Nat × Nat)) := [(1676, (.istore 7, 1678, 0)), (1678, (.aload_n 2, 1679, 0)), (1679, (.invokevirtual 139, 1682, 0)), (1682, (.iload 6, 1684, 0)), (1684, (.if_icmp .eq 5, 1687, 1689)), (1687, (.iconst 0, 1688, 0)), (1688, (.ireturn, 1689, 0)), (1689, (.iload 6, 1691, 0)), (1691, (.ifCond .ne 15, 1694, 1706)), (1694, (.aload_n 3, 1695, 0)), (1695, (.iconst 0, 1696, 0)), (1696, (.laload, 1697, 0)), (1697, (.iload 7, 1699, 0)), (1699, (.i2l, 1700, 0)), (1700, (.lcmp, 1701, 0)), (1701, (.ifCond .eq 5, 1704, 1706)), (1704, (.iconst 0, 1705, 0)), (1705, (.ireturn, 1706, 0)), (1706, (.goto 547, 1709, 2253)), (1709, (.aload_n 1, 1710, 0)), (1710, (.aload_n 0, 1711, 0)), (1711, (.iload 5, 1713, 0)), (1713, (.iconst 1, 1714, 0)), (1714, (.iadd, 1715, 0)), (1715, (.iaload, 1716, 0)), (1716, (.aload_n 3, 1717, 0)), (1717, (.invokestatic 218, 1720, 0)), (1720, (.istore 6, 1722, 0)), (1722, (.aload_n 2, 1723, 0)), (1723, (.aload_n 0, 1724, 0)), (1724, (.iload 5, 1726, 0)), (1726, (.iconst 1, 1727, 0))]
theorem kd_30 : ∀ q ∈ kc_30, decode cL_law q.1 = .ok (q.2.1, q.2.2.1 - q.1) := (fa_cons dL_law_1676 (fa_cons dL_law_1678 (fa_cons dL_law_1679 (fa_cons dL_law_1682 (fa_cons dL_law_1684 (fa_cons dL_law_1687 (fa_cons dL_law_1688 (fa_cons dL_law_1689 (fa_cons dL_law_1691 (fa_cons dL_law_1694 (fa_cons dL_law_1695 (fa_cons dL_law_1696 (fa_cons dL_law_1697 (fa_cons dL_law_1699 (fa_cons dL_law_1700 (fa_cons dL_law_1701 (fa_cons dL_law_1704 (fa_cons dL_law_1705 (fa_cons dL_law_1706 (fa_cons dL_law_1709 (fa_cons dL_law_1710 (fa_cons dL_law_1711 (fa_cons dL_law_1713 (fa_cons dL_law_1714 (fa_cons dL_law_1715 (fa_cons dL_law_1716 (fa_cons dL_law_1717 (fa_cons dL_law_1720 (fa_cons dL_law_1722 (fa_cons dL_law_1723 (fa_cons dL_law_1724 (fa_cons dL_law_1726 fa_nil))))))))))))))))))))))))))))))))
def kc_31 : List (Nat × (Instr × Nat × Nat)) := [(1727, (.iadd, 1728, 0)), (1728, (.iaload, 1729, 0)), (1729, (.invokevirtual 220, 1732, 0)), (1732, (.istore 7, 1734, 0)), (1734, (.aload_n 2, 1735, 0)), (1735, (.invokevirtual 139, 1738, 0)), (1738, (.iload 6, 1740, 0)), (1740, (.if_icmp .eq 5, 1743, 1745)), (1743, (.iconst 0, 1744, 0)), (1744, (.ireturn, 1745, 0)), (1745, (.iload 6, 1747, 0)), (1747, (.ifCond .ne 15, 1750, 1762)), (1750, (.aload_n 3, 1751, 0)), (1751, (.iconst 0, 1752, 0)), (1752, (.laload, 1753, 0)), (1753, (.iload 7, 1755, 0)), (1755, (.i2l, 1756, 0)), (1756, (.lcmp, 1757, 0)), (1757, (.ifCond .eq 5, 1760, 1762)), (1760, (.iconst 0, 1761, 0)), (1761, (.ireturn, 1762, 0)), (1762, (.goto 491, 1765, 2253)), (1765, (.aload_n 1, 1766, 0)), (1766, (.aload_n 0, 1767, 0)), (1767, (.iload 5, 1769, 0)), (1769, (.iconst 1, 1770, 0)), (1770, (.iadd, 1771, 0)), (1771, (.iaload, 1772, 0)), (1772, (.i2c, 1773, 0)), (1773, (.aload_n 3, 1774, 0)), (1774, (.invokestatic 221, 1777, 0)), (1777, (.istore 6, 1779, 0))]
theorem kd_31 : ∀ q ∈ kc_31, decode cL_law q.1 = .ok (q.2.1, q.2.2.1 - q.1) := (fa_cons dL_law_1727 (fa_cons dL_law_1728 (fa_cons dL_law_1729 (fa_cons dL_law_1732 (fa_cons dL_law_1734 (fa_cons dL_law_1735 (fa_cons dL_law_1738 (fa_cons dL_law_1740 (fa_cons dL_law_1743 (fa_cons dL_law_1744 (fa_cons dL_law_1745 (fa_cons dL_law_1747 (fa_cons dL_law_1750 (fa_cons dL_law_1751 (fa_cons dL_law_1752 (fa_cons dL_law_1753 (fa_cons dL_law_1755 (fa_cons dL_law_1756 (fa_cons dL_law_1757 (fa_cons dL_law_1760 (fa_cons dL_law_1761 (fa_cons dL_law_1762 (fa_cons dL_law_1765 (fa_cons dL_law_1766 (fa_cons dL_law_1767 (fa_cons dL_law_1769 (fa_cons dL_law_1770 (fa_cons dL_law_1771 (fa_cons dL_law_1772 (fa_cons dL_law_1773 (fa_cons dL_law_1774 (fa_cons dL_law_1777 fa_nil))))))))))))))))))))))))))))))))
def kc_32 : List (Nat × (Instr × Nat × Nat)) := [(1779, (.aload_n 2, 1780, 0)), (1780, (.aload_n 0, 1781, 0)), (1781, (.iload 5, 1783, 0)), (1783, (.iconst 1, 1784, 0)), (1784, (.iadd, 1785, 0)), (1785, (.iaload, 1786, 0)), (1786, (.i2c, 1787, 0)), (1787, (.invokevirtual 224, 1790, 0)), (1790, (.istore 7, 1792, 0)), (1792, (.aload_n 2, 1793, 0)), (1793, (.invokevirtual 139, 1796, 0)), (1796, (.iload 6, 1798, 0)), (1798, (.if_icmp .eq 5, 1801, 1803)), (1801, (.iconst 0, 1802, 0)), (1802, (.ireturn, 1803, 0)), (1803, (.iload 6, 1805, 0)), (1805, (.ifCond .ne 15, 1808, 1820)), (1808, (.aload_n 3, 1809, 0)), (1809, (.iconst 0, 1810, 0)), (1810, (.laload, 1811, 0)), (1811, (.iload 7, 1813, 0)), (1813, (.i2l, 1814, 0)), (1814, (.lcmp, 1815, 0)), (1815, (.ifCond .eq 5, 1818, 1820)), (1818, (.iconst 0, 1819, 0)), (1819, (.ireturn, 1820, 0)), (1820, (.goto 433, 1823, 2253)), (1823, (.aload_n 1, 1824, 0)), (1824, (.aload_n 3, 1825, 0)), (1825, (.invokestatic 225, 1828, 0)), (1828, (.istore 6, 1830, 0)), (1830, (.aload_n 2, 1831, 0))]
theorem kd_32 : ∀ q ∈ kc_32, decode cL_law q.1 = .ok (q.2.1, q.2.2.1 - q.1) := (fa_cons dL_law_1779 (fa_cons dL_law_1780 (fa_cons dL_law_1781 (fa_cons dL_law_1783 (fa_cons dL_law_1784 (fa_cons dL_law_1785 (fa_cons dL_law_1786 (fa_cons dL_law_1787 (fa_cons dL_law_1790 (fa_cons dL_law_1792 (fa_cons dL_law_1793 (fa_cons dL_law_1796 (fa_cons dL_law_1798 (fa_cons dL_law_1801 (fa_cons dL_law_1802 (fa_cons dL_law_1803 (fa_cons dL_law_1805 (fa_cons dL_law_1808 (fa_cons dL_law_1809 (fa_cons dL_law_1810 (fa_cons dL_law_1811 (fa_cons dL_law_1813 (fa_cons dL_law_1814 (fa_cons dL_law_1815 (fa_cons dL_law_1818 (fa_cons dL_law_1819 (fa_cons dL_law_1820 (fa_cons dL_law_1823 (fa_cons dL_law_1824 (fa_cons dL_law_1825 (fa_cons dL_law_1828 (fa_cons dL_law_1830 fa_nil))))))))))))))))))))))))))))))))
def kc_33 : List (Nat × (Instr × Nat × Nat)) := [(1831, (.invokevirtual 227, 1834, 0)), (1834, (.istore 7, 1836, 0)), (1836, (.aload_n 2, 1837, 0)), (1837, (.invokevirtual 139, 1840, 0)), (1840, (.iload 6, 1842, 0)), (1842, (.if_icmp .eq 5, 1845, 1847)), (1845, (.iconst 0, 1846, 0)), (1846, (.ireturn, 1847, 0)), (1847, (.iload 6, 1849, 0)), (1849, (.ifCond .ne 15, 1852, 1864)), (1852, (.aload_n 3, 1853, 0)), (1853, (.iconst 0, 1854, 0)), (1854, (.laload, 1855, 0)), (1855, (.iload 7, 1857, 0)), (1857, (.i2l, 1858, 0)), (1858, (.lcmp, 1859, 0)), (1859, (.ifCond .eq 5, 1862, 1864)), (1862, (.iconst 0, 1863, 0)), (1863, (.ireturn, 1864, 0)), (1864, (.goto 389, 1867, 2253)), (1867, (.aload_n 1, 1868, 0)), (1868, (.invokevirtual 228, 1871, 0)), (1871, (.aload_n 2, 1872, 0)), (1872, (.invokevirtual 231, 1875, 0)), (1875, (.if_icmp .eq 378, 1878, 2253)), (1878, (.iconst 0, 1879, 0)), (1879, (.ireturn, 1880, 0)), (1880, (.aload_n 1, 1881, 0)), (1881, (.aload_n 0, 1882, 0)), (1882, (.iload 5, 1884, 0)), (1884, (.iconst 1, 1885, 0)), (1885, (.iadd, 1886, 0))]
theorem kd_33 : ∀ q ∈ kc_33, decode cL_law q.1 = .ok (q.2.1, q.2.2.1 - q.1) := (fa_cons dL_law_1831 (fa_cons dL_law_1834 (fa_cons dL_law_1836 (fa_cons dL_law_1837 (fa_cons dL_law_1840 (fa_cons dL_law_1842 (fa_cons dL_law_1845 (fa_cons dL_law_1846 (fa_cons dL_law_1847 (fa_cons dL_law_1849 (fa_cons dL_law_1852 (fa_cons dL_law_1853 (fa_cons dL_law_1854 (fa_cons dL_law_1855 (fa_cons dL_law_1857 (fa_cons dL_law_1858 (fa_cons dL_law_1859 (fa_cons dL_law_1862 (fa_cons dL_law_1863 (fa_cons dL_law_1864 (fa_cons dL_law_1867 (fa_cons dL_law_1868 (fa_cons dL_law_1871 (fa_cons dL_law_1872 (fa_cons dL_law_1875 (fa_cons dL_law_1878 (fa_cons dL_law_1879 (fa_cons dL_law_1880 (fa_cons dL_law_1881 (fa_cons dL_law_1882 (fa_cons dL_law_1884 (fa_cons dL_law_1885 fa_nil))))))))))))))))))))))))))))))))
def kc_34 : List (Nat × (Instr × Nat × Nat)) := [(1886, (.iaload, 1887, 0)), (1887, (.ifCond .eq 7, 1890, 1894)), (1890, (.iconst 1, 1891, 0)), (1891, (.goto 4, 1894, 1895)), (1894, (.iconst 0, 1895, 0)), (1895, (.aload_n 3, 1896, 0)), (1896, (.invokestatic 232, 1899, 0)), (1899, (.istore 6, 1901, 0)), (1901, (.aload_n 2, 1902, 0)), (1902, (.aload_n 0, 1903, 0)), (1903, (.iload 5, 1905, 0)), (1905, (.iconst 1, 1906, 0)), (1906, (.iadd, 1907, 0)), (1907, (.iaload, 1908, 0)), (1908, (.ifCond .eq 7, 1911, 1915)), (1911, (.iconst 1, 1912, 0)), (1912, (.goto 4, 1915, 1916)), (1915, (.iconst 0, 1916, 0)), (1916, (.invokevirtual 235, 1919, 0)), (1919, (.istore 7, 1921, 0)), (1921, (.aload_n 2, 1922, 0)), (1922, (.invokevirtual 139, 1925, 0)), (1925, (.iload 6, 1927, 0)), (1927, (.if_icmp .eq 5, 1930, 1932)), (1930, (.iconst 0, 1931, 0)), (1931, (.ireturn, 1932, 0)), (1932, (.iload 6, 1934, 0)), (1934, (.ifCond .ne 15, 1937, 1949)), (1937, (.aload_n 3, 1938, 0)), (1938, (.iconst 0, 1939, 0)), (1939, (.laload, 1940, 0)), (1940, (.iload 7, 1942, 0))]
theorem kd_34 : ∀ q ∈ kc_34, decode cL_law q.1 = .ok (q.2.1, q.2.2.1 - q.1) := (fa_cons dL_law_1886 (fa_cons dL_law_1887 (fa_cons dL_law_1890 (fa_cons dL_law_1891 (fa_cons dL_law_1894 (fa_cons dL_law_1895 (fa_cons dL_law_1896 (fa_cons dL_law_1899 (fa_cons dL_law_1901 (fa_cons dL_law_1902 (fa_cons dL_law_1903 (fa_cons dL_law_1905 (fa_cons dL_law_1906 (fa_cons dL_law_1907 (fa_cons dL_law_1908 (fa_cons dL_law_1911 (fa_cons dL_law_1912 (fa_cons dL_law_1915 (fa_cons dL_law_1916 (fa_cons dL_law_1919 (fa_cons dL_law_1921 (fa_cons dL_law_1922 (fa_cons dL_law_1925 (fa_cons dL_law_1927 (fa_cons dL_law_1930 (fa_cons dL_law_1931 (fa_cons dL_law_1932 (fa_cons dL_law_1934 (fa_cons dL_law_1937 (fa_cons dL_law_1938 (fa_cons dL_law_1939 (fa_cons dL_law_1940 fa_nil))))))))))))))))))))))))))))))))
def kc_35 : List (Nat × (Instr × Nat × Nat)) := [(1942, (.i2l, 1943, 0)), (1943, (.lcmp, 1944, 0)), (1944, (.ifCond .eq 5, 1947, 1949)), (1947, (.iconst 0, 1948, 0)), (1948, (.ireturn, 1949, 0)), (1949, (.goto 304, 1952, 2253)), (1952, (.aload_n 1, 1953, 0)), (1953, (.aload_n 0, 1954, 0)), (1954, (.iload 5, 1956, 0)), (1956, (.iconst 1, 1957, 0)), (1957, (.iadd, 1958, 0)), (1958, (.iaload, 1959, 0)), (1959, (.aload_n 3, 1960, 0)), (1960, (.invokestatic 236, 1963, 0)), (1963, (.istore 6, 1965, 0)), (1965, (.aload_n 2, 1966, 0)), (1966, (.aload_n 0, 1967, 0)), (1967, (.iload 5, 1969, 0)), (1969, (.iconst 1, 1970, 0)), (1970, (.iadd, 1971, 0)), (1971, (.iaload, 1972, 0)), (1972, (.invokevirtual 238, 1975, 0)), (1975, (.istore 7, 1977, 0)), (1977, (.aload_n 2, 1978, 0)), (1978, (.invokevirtual 139, 1981, 0)), (1981, (.iload 6, 1983, 0)), (1983, (.if_icmp .eq 5, 1986, 1988)), (1986, (.iconst 0, 1987, 0)), (1987, (.ireturn, 1988, 0)), (1988, (.iload 6, 1990, 0)), (1990, (.ifCond .ne 15, 1993, 2005)), (1993, (.aload_n 3, 1994, 0))]
theorem kd_35 : ∀ q ∈ kc_35, decode cL_law q.1 = .ok (q.2.1, q.2.2.1 - q.1) := (fa_cons dL_law_1942 (fa_cons dL_law_1943 (fa_cons dL_law_1944 (fa_cons dL_law_1947 (fa_cons dL_law_1948 (fa_cons dL_law_1949 (fa_cons dL_law_1952 (fa_cons dL_law_1953 (fa_cons dL_law_1954 (fa_cons dL_law_1956 (fa_cons dL_law_1957 (fa_cons dL_law_1958 (fa_cons dL_law_1959 (fa_cons dL_law_1960 (fa_cons dL_law_1963 (fa_cons dL_law_1965 (fa_cons dL_law_1966 (fa_cons dL_law_1967 (fa_cons dL_law_1969 (fa_cons dL_law_1970 (fa_cons dL_law_1971 (fa_cons dL_law_1972 (fa_cons dL_law_1975 (fa_cons dL_law_1977 (fa_cons dL_law_1978 (fa_cons dL_law_1981 (fa_cons dL_law_1983 (fa_cons dL_law_1986 (fa_cons dL_law_1987 (fa_cons dL_law_1988 (fa_cons dL_law_1990 (fa_cons dL_law_1993 fa_nil))))))))))))))))))))))))))))))))
def kc_36 : List (Nat × (Instr × Nat × Nat)) := [(1994, (.iconst 0, 1995, 0)), (1995, (.laload, 1996, 0)), (1996, (.iload 7, 1998, 0)), (1998, (.i2l, 1999, 0)), (1999, (.lcmp, 2000, 0)), (2000, (.ifCond .eq 5, 2003, 2005)), (2003, (.iconst 0, 2004, 0)), (2004, (.ireturn, 2005, 0)), (2005, (.goto 248, 2008, 2253)), (2008, (.aload_n 1, 2009, 0)), (2009, (.invokevirtual 239, 2012, 0)), (2012, (.aload_n 2, 2013, 0)), (2013, (.invokevirtual 243, 2016, 0)), (2016, (.if_icmp .eq 237, 2019, 2253)), (2019, (.iconst 0, 2020, 0)), (2020, (.ireturn, 2021, 0)), (2021, (.aload_n 1, 2022, 0)), (2022, (.aload 4, 2024, 0)), (2024, (.invokestatic 244, 2027, 0)), (2027, (.istore 6, 2029, 0)), (2029, (.aload_n 2, 2030, 0)), (2030, (.invokevirtual 247, 2033, 0)), (2033, (.dstore 7, 2035, 0)), (2035, (.aload_n 2, 2036, 0)), (2036, (.invokevirtual 139, 2039, 0)), (2039, (.iload 6, 2041, 0)), (2041, (.if_icmp .eq 5, 2044, 2046)), (2044, (.iconst 0, 2045, 0)), (2045, (.ireturn, 2046, 0)), (2046, (.iload 6, 2048, 0)), (2048, (.ifCond .ne 35, 2051, 2083)), (2051, (.aload 4, 2053, 0))]
theorem kd_36 : ∀ q ∈ kc_36, decode cL_law q.1 = .ok (q.2.1, q.2.2.1 - q.1) := (fa_cons dL_law_1994 (fa_cons dL_law_1995 (fa_cons dL_law_1996 (fa_cons dL_law_1998 (fa_cons dL_law_1999 (fa_cons dL_law_2000 (fa_cons dL_law_2003 (fa_cons dL_law_2004 (fa_cons dL_law_2005 (fa_cons dL_law_2008 (fa_cons dL_law_2009 (fa_cons dL_law_2012 (fa_cons dL_law_2013 (fa_cons dL_law_2016 (fa_cons dL_law_2019 (fa_cons dL_law_2020 (fa_cons dL_law_2021 (fa_cons dL_law_2022 (fa_cons dL_law_2024 (fa_cons dL_law_2027 (fa_cons dL_law_2029 (fa_cons dL_law_2030 (fa_cons dL_law_2033 (fa_cons dL_law_2035 (fa_cons dL_law_2036 (fa_cons dL_law_2039 (fa_cons dL_law_2041 (fa_cons dL_law_2044 (fa_cons dL_law_2045 (fa_cons dL_law_2046 (fa_cons dL_law_2048 (fa_cons dL_law_2051 fa_nil))))))))))))))))))))))))))))))))
def kc_37 : List (Nat × (Instr × Nat × Nat)) := [(2053, (.iconst 0, 2054, 0)), (2054, (.daload, 2055, 0)), (2055, (.dload 7, 2057, 0)), (2057, (.dcmp .l, 2058, 0)), (2058, (.ifCond .eq 25, 2061, 2083)), (2061, (.aload 4, 2063, 0)), (2063, (.iconst 0, 2064, 0)), (2064, (.daload, 2065, 0)), (2065, (.aload 4, 2067, 0)), (2067, (.iconst 0, 2068, 0)), (2068, (.daload, 2069, 0)), (2069, (.dcmp .l, 2070, 0)), (2070, (.ifCond .eq 11, 2073, 2081)), (2073, (.dload 7, 2075, 0)), (2075, (.dload 7, 2077, 0)), (2077, (.dcmp .l, 2078, 0)), (2078, (.ifCond .ne 5, 2081, 2083)), (2081, (.iconst 0, 2082, 0)), (2082, (.ireturn, 2083, 0)), (2083, (.goto 170, 2086, 2253)), (2086, (.aload_n 1, 2087, 0)), (2087, (.aload 4, 2089, 0)), (2089, (.invokestatic 248, 2092, 0)), (2092, (.istore 6, 2094, 0)), (2094, (.aload_n 2, 2095, 0)), (2095, (.invokevirtual 250, 2098, 0)), (2098, (.fstore 7, 2100, 0)), (2100, (.aload_n 2, 2101, 0)), (2101, (.invokevirtual 139, 2104, 0)), (2104, (.iload 6, 2106, 0)), (2106, (.if_icmp .eq 5, 2109, 2111)), (2109, (.iconst 0, 2110, 0))]
theorem kd_37 : ∀ q ∈ kc_37, decode cL_law q.1 = .ok (q.2.1, q.2.2.1 - q.1) := (fa_cons dL_law_2053 (fa_cons dL_law_2054 (fa_cons dL_law_2055 (fa_cons dL_law_2057 (fa_cons dL_law_2058 (fa_cons dL_law_2061 (fa_cons dL_law_2063 (fa_cons dL_law_2064 (fa_cons dL_law_2065 (fa_cons dL_law_2067 (fa_cons dL_law_2068 (fa_cons dL_law_2069 (fa_cons dL_law_2070 (fa_cons dL_law_2073 (fa_cons dL_law_2075 (fa_cons dL_law_2077 (fa_cons dL_law_2078 (fa_cons dL_law_2081 (fa_cons dL_law_2082 (fa_cons dL_law_2083 (fa_cons dL_law_2086 (fa_cons dL_law_2087 (fa_cons dL_law_2089 (fa_cons dL_law_2092 (fa_cons dL_law_2094 (fa_cons dL_law_2095 (fa_cons dL_law_2098 (fa_cons dL_law_2100 (fa_cons dL_law_2101 (fa_cons dL_law_2104 (fa_cons dL_law_2106 (fa_cons dL_law_2109 fa_nil))))))))))))))))))))))))))))))))
def kc_38 : List (Nat × (Instr × Nat × Nat)) := [(2110, (.ireturn, 2111, 0)), (2111, (.iload 6, 2113, 0)), (2113, (.ifCond .ne 36, 2116, 2149)), (2116, (.aload 4, 2118, 0)), (2118, (.iconst 0, 2119, 0)), (2119, (.daload, 2120, 0)), (2120, (.fload 7, 2122, 0)), (2122, (.f2d, 2123, 0)), (2123, (.dcmp .l, 2124, 0)), (2124, (.ifCond .eq 25, 2127, 2149)), (2127, (.aload 4, 2129, 0)), (2129, (.iconst 0, 2130, 0)), (2130, (.daload, 2131, 0)), (2131, (.aload 4, 2133, 0)), (2133, (.iconst 0, 2134, 0)), (2134, (.daload, 2135, 0)), (2135, (.dcmp .l, 2136, 0)), (2136, (.ifCond .eq 11, 2139, 2147)), (2139, (.fload 7, 2141, 0)), (2141, (.fload 7, 2143, 0)), (2143, (.fcmp .l, 2144, 0)), (2144, (.ifCond .ne 5, 2147, 2149)), (2147, (.iconst 0, 2148, 0)), (2148, (.ireturn, 2149, 0)), (2149, (.goto 104, 2152, 2253)), (2152, (.aload_n 1, 2153, 0)), (2153, (.aload_n 3, 2154, 0)), (2154, (.invokestatic 251, 2157, 0)), (2157, (.istore 6, 2159, 0)), (2159, (.aload_n 2, 2160, 0)), (2160, (.invokevirtual 253, 2163, 0)), (2163, (.istore 7, 2165, 0))]
theorem kd_38 : ∀ q ∈ kc_38, decode cL_law q.1 = .ok (q.2.1, q.2.2.1 - q.1) := (fa_cons dL_law_2110 (fa_cons dL_law_2111 (fa_cons dL_law_2113 (fa_cons dL_law_2116 (fa_cons dL_law_2118 (fa_cons dL_law_2119 (fa_cons dL_law_2120 (fa_cons dL_law_2122 (fa_cons dL_law_2123 (fa_cons dL_law_2124 (fa_cons dL_law_2127 (fa_cons dL_law_2129 (fa_cons dL_law_2130 (fa_cons dL_law_2131 (fa_cons dL_law_2133 (fa_cons dL_law_2134 (fa_cons dL_law_2135 (fa_cons dL_law_2136 (fa_cons dL_law_2139 (fa_cons dL_law_2141 (fa_cons dL_law_2143 (fa_cons dL_law_2144 (fa_cons dL_law_2147 (fa_cons dL_law_2148 (fa_cons dL_law_2149 (fa_cons dL_law_2152 (fa_cons dL_law_2153 (fa_cons dL_law_2154 (fa_cons dL_law_2157 (fa_cons dL_law_2159 (fa_cons dL_law_2160 (fa_cons dL_law_2163 fa_nil))))))))))))))))))))))))))))))))
def kc_39 : List (Nat × (Instr × Nat × Nat)) := [(2165, (.aload_n 2, 2166, 0)), (2166, (.invokevirtual 139, 2169, 0)), (2169, (.iload 6, 2171, 0)), (2171, (.if_icmp .eq 5, 2174, 2176)), (2174, (.iconst 0, 2175, 0)), (2175, (.ireturn, 2176, 0)), (2176, (.iload 6, 2178, 0)), (2178, (.ifCond .ne 15, 2181, 2193)), (2181, (.aload_n 3, 2182, 0)), (2182, (.iconst 0, 2183, 0)), (2183, (.laload, 2184, 0)), (2184, (.iload 7, 2186, 0)), (2186, (.i2l, 2187, 0)), (2187, (.lcmp, 2188, 0)), (2188, (.ifCond .eq 5, 2191, 2193)), (2191, (.iconst 0, 2192, 0)), (2192, (.ireturn, 2193, 0)), (2193, (.goto 60, 2196, 2253)), (2196, (.aload_n 1, 2197, 0)), (2197, (.invokevirtual 254, 2200, 0)), (2200, (.aload_n 2, 2201, 0)), (2201, (.invokevirtual 257, 2204, 0)), (2204, (.if_icmp .eq 49, 2207, 2253)), (2207, (.iconst 0, 2208, 0)), (2208, (.ireturn, 2209, 0)), (2209, (.aload_n 1, 2210, 0)), (2210, (.aload_n 3, 2211, 0)), (2211, (.invokestatic 258, 2214, 0)), (2214, (.istore 6, 2216, 0)), (2216, (.aload_n 2, 2217, 0)), (2217, (.invokevirtual 260, 2220, 0)), (2220, (.istore 7, 2222, 0))]
theorem kd_39 : ∀ q ∈ kc_39, decode cL_law q.1 = .ok (q.2.1, q.2.2.1 - q.1) := (fa_cons dL_law_2165 (fa_cons dL_law_2166 (fa_cons dL_law_2169 (fa_cons dL_law_2171 (fa_cons dL_law_2174 (fa_cons dL_law_2175 (fa_cons dL_law_2176 (fa_cons dL_law_2178 (fa_cons dL_law_2181 (fa_cons dL_law_2182 (fa_cons dL_law_2183 (fa_cons dL_law_2184 (fa_cons dL_law_2186 (fa_cons dL_law_2187 (fa_cons dL_law_2188 (fa_cons dL_law_2191 (fa_cons dL_law_2192 (fa_cons dL_law_2193 (fa_cons dL_law_2196 (fa_cons dL_law_2197 (fa_cons dL_law_2200 (fa_cons dL_law_2201 (fa_cons dL_law_2204 (fa_cons dL_law_2207 (fa_cons dL_law_2208 (fa_cons dL_law_2209 (fa_cons dL_law_2210 (fa_cons dL_law_2211 (fa_cons dL_law_2214 (fa_cons dL_law_2216 (fa_cons dL_law_2217 (fa_cons dL_law_2220 fa_nil))))))))))))))))))))))))))))))))
def kc_40 : List (Nat × (Instr × Nat × Nat)) := [(2222, (.aload_n 2, 2223, 0)), (2223, (.invokevirtual 139, 2226, 0)), (2226, (.iload 6, 2228, 0)), (2228, (.if_icmp .eq 5, 2231, 2233)), (2231, (.iconst 0, 2232, 0)), (2232, (.ireturn, 2233, 0)), (2233, (.iload 6, 2235, 0)), (2235, (.ifCond .ne 15, 2238, 2250)), (2238, (.aload_n 3, 2239, 0)), (2239, (.iconst 0, 2240, 0)), (2240, (.laload, 2241, 0)), (2241, (.iload 7, 2243, 0)), (2243, (.i2l, 2244, 0)), (2244, (.lcmp, 2245, 0)), (2245, (.ifCond .eq 5, 2248, 2250)), (2248, (.iconst 0, 2249, 0)), (2249, (.ireturn, 2250, 0)), (2250, (.goto 3, 2253, 2253)), (2253, (.iinc 5 3, 2256, 0)), (2256, (.goto (-2228), 2259, 28)), (2259, (.iconst 1, 2260, 0)), (2260, (.ireturn, 2261, 0))]
theorem kd_40 : ∀ q ∈ kc_40, decode cL_law q.1 = .ok (q.2.1, q.2.2.1 - q.1) := (fa_cons dL_law_2222 (fa_cons dL_law_2223 (fa_cons dL_law_2226 (fa_cons dL_law_2228 (fa_cons dL_law_2231 (fa_cons dL_law_2232 (fa_cons dL_law_2233 (fa_cons dL_law_2235 (fa_cons dL_law_2238 (fa_cons dL_law_2239 (fa_cons dL_law_2240 (fa_cons dL_law_2241 (fa_cons dL_law_2243 (fa_cons dL_law_2244 (fa_cons dL_law_2245 (fa_cons dL_law_2248 (fa_cons dL_law_2249 (fa_cons dL_law_2250 (fa_cons dL_law_2253 (fa_cons dL_law_2256 (fa_cons dL_law_2259 (fa_cons dL_law_2260 fa_nil))))))))))))))))))))))
def k_L_law : cdT := [(213, kc_0), (265, kc_1), (316, kc_2), (363, kc_3), (413, kc_4), (463, kc_5), (513, kc_6), (564, kc_7), (615, kc_8), (661, kc_9), (711, kc_10), (761, kc_11), (812, kc_12), (863, kc_13), (915, kc_14), (959, kc_15), (1011, kc_16), (1062, kc_17), (1111, kc_18), (1158, kc_19), (1211, kc_20), (1260, kc_21), (1313, kc_22), (1360, kc_23), (1413, kc_24), (1467, kc_25), (1518, kc_26), (1576, kc_27), (1626, kc_28), (1676, kc_29), (1727, kc_30), (1779, kc_31), (1831, kc_32), (1886, kc_33), (1942, kc_34), (1994, kc_35), (2053, kc_36), (2110, kc_37), (2165, kc_38), (2222, kc_39), (2261, kc_40)]
theorem kd_all : ∀ c ∈ k_L_law, ∀ q ∈ c.2, decode cL_law q.1 = .ok (q.2.1, q.2.2.1 - q.1) := (fa_cons kd_0 (fa_cons kd_1 (fa_cons kd_2 (fa_cons kd_3 (fa_cons kd_4 (fa_cons kd_5 (fa_cons kd_6 (fa_cons kd_7 (fa_cons kd_8 (fa_cons kd_9 (fa_cons kd_10 (fa_cons kd_11 (fa_cons kd_12 (fa_cons kd_13 (fa_cons kd_14 (fa_cons kd_15 (fa_cons kd_16 (fa_cons kd_17 (fa_cons kd_18 (fa_cons kd_19 (fa_cons kd_20 (fa_cons kd_21 (fa_cons kd_22 (fa_cons kd_23 (fa_cons kd_24 (fa_cons kd_25 (fa_cons kd_26 (fa_cons kd_27 (fa_cons kd_28 (fa_cons kd_29 (fa_cons kd_30 (fa_cons kd_31 (fa_cons kd_32 (fa_cons kd_33 (fa_cons kd_34 (fa_cons kd_35 (fa_cons kd_36 (fa_cons kd_37 (fa_cons kd_38 (fa_cons kd_39 (fa_cons kd_40 fa_nil)))))))))))))))))))))))))))))))))))))))))
def w_L_law : swT := [(44, ((0 : Int), [208, 264, 320, 388, 444, 512, 568, 624, 692, 760, 816, 872, 928, 996, 1052, 1120, 1204, 1272, 1328, 1412, 1456, 1512, 1553, 1597, 1653, 1709, 1765, 1823, 1867, 1880, 1952, 2008, 2021, 2086, 2152, 2196, 2209], 2253))]
abbrev m_L_law : m0T := (yL_law, cL_law, 9, (some (.boolean)), [], 1)
def M_L_law : mT := (m_L_law, lk2 k_L_law, cpL, lkp w_L_law, [], false)
theorem okL_law : mOKL M_L_law := ⟨cpokL, codeOK_ofL (cs := k_L_law) (sw := w_L_law) rfl rfl kd_all (by decide +kernel), thrOK_no (cs := k_L_law) rfl (by decide +kernel), fun pc _ _ _ _ => hndOK_no rfl pc, (fun h => nomatch h), fun h => absurd rfl h, by decide +kernel, rtOK_of (cs := k_L_law) rfl (by decide +kernel)⟩
