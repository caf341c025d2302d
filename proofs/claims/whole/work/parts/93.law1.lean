/-! ===== the law's own body: the walk is right there too ===== -/
def mOKL (M : mT) : Prop := cpOK M.m.y.cls M.ini M.cp ∧ codeOK M ∧ thrOK M ∧ (∀ pc k np tg, M.cd pc = some (.invokevirtual k, np, tg) → hndOK M pc) ∧ (M.ini = true → M.m.y.name = "<init>") ∧ (M.m.hh ≠ [] → M.ini = false) ∧ plainName M.m.y.cls = true ∧ (∀ pc i np tg, M.cd pc = some (i, np, tg) → rtOK M i)
section QL
variable {G : gT} {M : mT} {d bc bs pc : Nat} {ls : List (Option Value)} {st : List Value} {w : xW} {K : Option Value → xW → Prop} {KX : Nat → xW → Prop} {go : recT}
set_option maxRecDepth 20000 in
theorem wpI_okL (hg : gOK G) (hm : mOKL M) (hgo : hgoT G M d K KX go) {i : Instr} {np tg : Nat} (hcd : M.cd pc = some (i, np, tg)) (h : wpI G M d K KX go bc bs pc ls st w i np tg) : AW G M d bc bs pc ls st w K KX := by
  obtain ⟨⟨cpf, cps, cpm, cpc, cpn⟩, hco, hth, hhn, hini, -, -, hre⟩ := hm
  obtain ⟨⟨n, hd, hn⟩, hbr, hsw⟩ := hco pc i np tg hcd
  have hs := hg.cat
  have hsa := hg.2.2.2.2.1
  cases i with
  | iconst n =>
    obtain ⟨rfl, rfl⟩ := hn rfl
    exact q_iconst hgo hd h
  | bipush n =>
    obtain ⟨rfl, rfl⟩ := hn rfl
    exact q_bipush hgo hd h
  | sipush n =>
    obtain ⟨rfl, rfl⟩ := hn rfl
    exact q_sipush hgo hd h
  | aconst_null =>
    obtain ⟨rfl, rfl⟩ := hn rfl
    exact q_aconst_null hgo hd h
  | fconst f =>
    obtain ⟨rfl, rfl⟩ := hn rfl
    delta wpI at h
    dsimp only at h
    split at h
    · exact q_fconst0 hgo hd h
    · exact h.elim
  | dconst f =>
    obtain ⟨rfl, rfl⟩ := hn rfl
    delta wpI at h
    dsimp only at h
    split at h
    · exact q_dconst0 hgo hd h
    · exact h.elim
  | ldc k =>
    obtain ⟨rfl, rfl⟩ := hn rfl
    delta wpI at h
    dsimp only at h
    split at h
    · exact q_ldc hgo hg (cpn _ _ (by assumption)) hd h
    · exact h.elim
  | iload_n k =>
    obtain ⟨rfl, rfl⟩ := hn rfl
    delta wpI at h
    dsimp only at h
    split at h
    · exact q_iload_n hgo hd (by assumption) h
    · exact h.elim
  | iload k =>
    obtain ⟨rfl, rfl⟩ := hn rfl
    delta wpI at h
    dsimp only at h
    split at h
    · exact q_iload hgo hd (by assumption) h
    · exact h.elim
  | fload k =>
    obtain ⟨rfl, rfl⟩ := hn rfl
    delta wpI at h
    dsimp only at h
    split at h
    · exact q_fload hgo hd (by assumption) h
    · exact h.elim
  | dload k =>
    obtain ⟨rfl, rfl⟩ := hn rfl
    delta wpI at h
    dsimp only at h
    split at h
    · exact q_dload hgo hd (by assumption) h
    · exact h.elim
  | aload_n k =>
    obtain ⟨rfl, rfl⟩ := hn rfl
    delta wpI at h
    dsimp only at h
    split at h
    · exact q_aload_n hgo hsa (Or.inr (Or.inl ⟨_, rfl⟩)) hd (by assumption) h
    · exact q_aload_n hgo hsa (Or.inl rfl) hd (by assumption) h
    · exact q_aload_n hgo hsa (Or.inr (Or.inr ⟨_, rfl⟩)) hd (by assumption) h
    · exact h.elim
  | aload k =>
    obtain ⟨rfl, rfl⟩ := hn rfl
    delta wpI at h
    dsimp only at h
    split at h
    · exact q_aload hgo hsa (Or.inr (Or.inl ⟨_, rfl⟩)) hd (by assumption) h
    · exact q_aload hgo hsa (Or.inl rfl) hd (by assumption) h
    · exact q_aload hgo hsa (Or.inr (Or.inr ⟨_, rfl⟩)) hd (by assumption) h
    · exact h.elim
  | istore_n k =>
    obtain ⟨rfl, rfl⟩ := hn rfl
    delta wpI at h
    dsimp only at h
    split at h
    · exact q_istore_n hgo hs (wpS1_ok h).1 hd (wpS1_ok h).2
    · exact h.elim
  | istore k =>
    obtain ⟨rfl, rfl⟩ := hn rfl
    delta wpI at h
    dsimp only at h
    split at h
    · exact q_istore hgo hs (wpS1_ok h).1 hd (wpS1_ok h).2
    · exact h.elim
  | fstore k =>
    obtain ⟨rfl, rfl⟩ := hn rfl
    delta wpI at h
    dsimp only at h
    split at h
    · exact q_fstore hgo hs (wpS1_ok h).1 hd (wpS1_ok h).2
    · exact h.elim
  | dstore k =>
    obtain ⟨rfl, rfl⟩ := hn rfl
    delta wpI at h
    dsimp only at h
    split at h
    · exact q_dstore hgo hs (wpS2_ok h).1 hd (wpS2_ok h).2
    · exact h.elim
  | astore_n k =>
    obtain ⟨rfl, rfl⟩ := hn rfl
    delta wpI at h
    dsimp only at h
    split at h
    · exact q_astore_n hgo hs hsa (Or.inr (Or.inl ⟨_, rfl⟩)) (wpS1_ok h).1 hd (wpS1_ok h).2
    · exact q_astore_n hgo hs hsa (Or.inl rfl) (wpS1_ok h).1 hd (wpS1_ok h).2
    · exact q_astore_n hgo hs hsa (Or.inr (Or.inr ⟨_, rfl⟩)) (wpS1_ok h).1 hd (wpS1_ok h).2
    · exact h.elim
  | astore k =>
    obtain ⟨rfl, rfl⟩ := hn rfl
    delta wpI at h
    dsimp only at h
    split at h
    · exact q_astore hgo hs hsa (Or.inr (Or.inl ⟨_, rfl⟩)) (wpS1_ok h).1 hd (wpS1_ok h).2
    · exact q_astore hgo hs hsa (Or.inl rfl) (wpS1_ok h).1 hd (wpS1_ok h).2
    · exact q_astore hgo hs hsa (Or.inr (Or.inr ⟨_, rfl⟩)) (wpS1_ok h).1 hd (wpS1_ok h).2
    · exact h.elim
  | iinc k z =>
    obtain ⟨rfl, rfl⟩ := hn rfl
    delta wpI at h
    dsimp only at h
    split at h
    · exact q_iinc hgo hs (wpS1_ok h).1 hd (by assumption) (wpS1_ok h).2
    · exact h.elim
  | iadd =>
    obtain ⟨rfl, rfl⟩ := hn rfl
    delta wpI at h
    dsimp only at h
    split at h
    · exact q_iadd hgo hd h
    · exact h.elim
  | isub =>
    obtain ⟨rfl, rfl⟩ := hn rfl
    delta wpI at h
    dsimp only at h
    split at h
    · exact q_isub hgo hd h
    · exact h.elim
  | imul =>
    obtain ⟨rfl, rfl⟩ := hn rfl
    delta wpI at h
    dsimp only at h
    split at h
    · exact q_imul hgo hd h
    · exact h.elim
  | iand =>
    obtain ⟨rfl, rfl⟩ := hn rfl
    delta wpI at h
    dsimp only at h
    split at h
    · exact q_iand hgo hd h
    · exact h.elim
  | ior =>
    obtain ⟨rfl, rfl⟩ := hn rfl
    delta wpI at h
    dsimp only at h
    split at h
    · exact q_ior hgo hd h
    · exact h.elim
  | ixor =>
    obtain ⟨rfl, rfl⟩ := hn rfl
    delta wpI at h
    dsimp only at h
    split at h
    · exact q_ixor hgo hd h
    · exact h.elim
  | ishl =>
    obtain ⟨rfl, rfl⟩ := hn rfl
    delta wpI at h
    dsimp only at h
    split at h
    · exact q_ishl hgo hd h
    · exact h.elim
  | ishr =>
    obtain ⟨rfl, rfl⟩ := hn rfl
    delta wpI at h
    dsimp only at h
    split at h
    · exact q_ishr hgo hd h
    · exact h.elim
  | idiv =>
    obtain ⟨rfl, rfl⟩ := hn rfl
    delta wpI at h
    dsimp only at h
    split at h
    · exact q_idiv hgo h.1 hd h.2
    · exact h.elim
  | irem =>
    obtain ⟨rfl, rfl⟩ := hn rfl
    delta wpI at h
    dsimp only at h
    split at h
    · exact q_irem hgo h.1 hd h.2
    · exact h.elim
  | ddiv =>
    obtain ⟨rfl, rfl⟩ := hn rfl
    delta wpI at h
    dsimp only at h
    split at h
    · exact q_ddiv hgo h.1 hd h.2
    · exact h.elim
  | fdiv =>
    obtain ⟨rfl, rfl⟩ := hn rfl
    delta wpI at h
    dsimp only at h
    split at h
    · exact q_fdiv hgo h.1 hd h.2
    · exact h.elim
  | lcmp =>
    obtain ⟨rfl, rfl⟩ := hn rfl
    delta wpI at h
    dsimp only at h
    split at h
    · exact q_lcmp hgo hd h
    · exact h.elim
  | dcmp op =>
    obtain ⟨rfl, rfl⟩ := hn rfl
    delta wpI at h
    dsimp only at h
    split at h
    · exact q_dcmp hgo hd h
    · exact h.elim
  | fcmp op =>
    obtain ⟨rfl, rfl⟩ := hn rfl
    delta wpI at h
    dsimp only at h
    split at h
    · exact q_fcmp hgo hd h
    · exact h.elim
  | ineg =>
    obtain ⟨rfl, rfl⟩ := hn rfl
    delta wpI at h
    dsimp only at h
    split at h
    · exact q_ineg hgo hd h
    · exact h.elim
  | i2l =>
    obtain ⟨rfl, rfl⟩ := hn rfl
    delta wpI at h
    dsimp only at h
    split at h
    · exact q_i2l hgo hd h
    · exact h.elim
  | i2b =>
    obtain ⟨rfl, rfl⟩ := hn rfl
    delta wpI at h
    dsimp only at h
    split at h
    · exact q_i2b hgo hd h
    · exact h.elim
  | i2c =>
    obtain ⟨rfl, rfl⟩ := hn rfl
    delta wpI at h
    dsimp only at h
    split at h
    · exact q_i2c hgo hd h
    · exact h.elim
  | i2d =>
    obtain ⟨rfl, rfl⟩ := hn rfl
    delta wpI at h
    dsimp only at h
    split at h
    · exact q_i2d hgo hd h
    · exact h.elim
  | i2f =>
    obtain ⟨rfl, rfl⟩ := hn rfl
    delta wpI at h
    dsimp only at h
    split at h
    · exact q_i2f hgo hd h
    · exact h.elim
  | f2d =>
    obtain ⟨rfl, rfl⟩ := hn rfl
    delta wpI at h
    dsimp only at h
    split at h
    · exact q_f2d hgo h.1 hd h.2
    · exact h.elim
  | dup =>
    obtain ⟨rfl, rfl⟩ := hn rfl
    delta wpI at h
    dsimp only at h
    split at h
    · exact q_dup hgo hs rfl hd h
    · exact q_dup hgo hs rfl hd h
    · exact h.elim
  | dup2 =>
    obtain ⟨rfl, rfl⟩ := hn rfl
    delta wpI at h
    dsimp only at h
    split at h
    · exact q_dup2 hgo hs rfl rfl hd h
    · exact h.elim
  | dup_x1 =>
    obtain ⟨rfl, rfl⟩ := hn rfl
    delta wpI at h
    dsimp only at h
    split at h
    · exact q_dup_x1 hgo hs rfl rfl hd h
    · exact h.elim
  | pop =>
    obtain ⟨rfl, rfl⟩ := hn rfl
    delta wpI at h
    dsimp only at h
    split at h
    · exact q_pop hgo hs rfl hd h
    · exact q_pop hgo hs rfl hd h
    · exact h.elim
  | goto o =>
    obtain ⟨rfl, rfl⟩ := hn rfl
    exact q_goto hgo (hbr _ rfl) hd h
  | ifCond c o =>
    obtain ⟨rfl, rfl⟩ := hn rfl
    delta wpI at h
    dsimp only at h
    split at h
    · exact q_if hgo (hbr _ rfl) hd h
    · exact h.elim
  | if_icmp c o =>
    obtain ⟨rfl, rfl⟩ := hn rfl
    delta wpI at h
    dsimp only at h
    split at h
    · exact q_ic hgo (hbr _ rfl) hd h
    · exact h.elim
  | ifnonnull o =>
    obtain ⟨rfl, rfl⟩ := hn rfl
    delta wpI at h
    dsimp only at h
    split at h
    · exact q_ifnonnull hgo (hbr _ rfl) hd h
    · exact q_ifnonnullN hgo hd h
    · exact h.elim
  | ifnull o =>
    obtain ⟨rfl, rfl⟩ := hn rfl
    delta wpI at h
    dsimp only at h
    split at h
    · exact q_ifnull hgo hd h
    · exact q_ifnullN hgo (hbr _ rfl) hd h
    · exact h.elim
  | if_acmp c o =>
    obtain ⟨rfl, rfl⟩ := hn rfl
    delta wpI at h
    dsimp only at h
    split at h
    · split at h
      · rename_i e1 e2 e3 e4 e5
        exact q_acmp_eq hgo hg ⟨Nat.le_of_ble_eq_true e1, Nat.le_of_ble_eq_true e2⟩ ⟨Nat.le_of_ble_eq_true e3, Nat.le_of_ble_eq_true e4⟩ (hbr _ rfl) hd ⟨fun _ => h, fun q => absurd (Nat.eq_of_beq_eq_true e5) q⟩
      · rename_i e1 e2 e3 e4 e5
        exact q_acmp_eq hgo hg ⟨Nat.le_of_ble_eq_true e1, Nat.le_of_ble_eq_true e2⟩ ⟨Nat.le_of_ble_eq_true e3, Nat.le_of_ble_eq_true e4⟩ (hbr _ rfl) hd ⟨fun q => absurd q (Nat.ne_of_beq_eq_false e5), fun _ => h⟩
      · exact h.elim
    · split at h
      · rename_i e1 e2 e3 e4 e5
        exact q_acmp_ne hgo hg ⟨Nat.le_of_ble_eq_true e1, Nat.le_of_ble_eq_true e2⟩ ⟨Nat.le_of_ble_eq_true e3, Nat.le_of_ble_eq_true e4⟩ (hbr _ rfl) hd ⟨fun q => absurd (Nat.eq_of_beq_eq_true e5) q, fun _ => h⟩
      · rename_i e1 e2 e3 e4 e5
        exact q_acmp_ne hgo hg ⟨Nat.le_of_ble_eq_true e1, Nat.le_of_ble_eq_true e2⟩ ⟨Nat.le_of_ble_eq_true e3, Nat.le_of_ble_eq_true e4⟩ (hbr _ rfl) hd ⟨fun _ => h, fun q => absurd q (Nat.ne_of_beq_eq_false e5)⟩
      · exact h.elim
    · exact h.elim
  | tableswitch dfl lo hi offs =>
    delta wpI at h
    dsimp only at h
    split at h
    · split at h
      · rename_i lo2 ts df hsw2
        obtain ⟨t, h3, h4⟩ := h
        obtain ⟨rfl, e1, e2, e3⟩ := hsw _ _ _ hsw2
        exact q_switch hgo hd ⟨e1, e2, e3⟩ h3 h4
      · exact h.elim
    · exact h.elim
  | getfield k =>
    obtain ⟨rfl, rfl⟩ := hn rfl
    delta wpI at h
    dsimp only at h
    split at h
    · rename_i ci j _ a st hf
      split at h
      · split at h
        · rename_i e1
          cases Nat.eq_of_beq_eq_true e1
          split at h
          · exact q_getfield hgo hg (cpf _ _ _ _ _ hf) (by assumption) (by assumption) hd h
          · exact h.elim
        · exact h.elim
      · exact h.elim
    · exact h.elim
  | putfield k =>
    obtain ⟨rfl, rfl⟩ := hn rfl
    delta wpI at h
    dsimp only at h
    split at h
    · rename_i ci j ty fin v a st hf
      split at h
      · exact h.elim
      · rename_i hfi
        have hfi : fin = true → M.ini = true := fun q => by
          subst q
          cases hq : M.ini with
          | true => rfl
          | false => rw [hq] at hfi; cases hfi
        split at h
        · obtain ⟨fs, q1, q2, q3⟩ := wpPut_ok h
          exact q_putfield hgo hg (cpf _ _ _ _ _ hf) hfi q1 q2 (fun _ cv hv => by cases (show cv = _ from hv); exact ⟨rfl, rfl⟩) hd q3
        · obtain ⟨fs, q1, q2, q3⟩ := wpPut_ok h
          exact q_putfield hgo hg (cpf _ _ _ _ _ hf) hfi q1 q2 (fun _ cv ⟨_, _, hv⟩ => by cases hv; exact ⟨rfl, rfl⟩) hd q3
        · obtain ⟨fs, q1, q2, q3⟩ := wpPut_ok h
          exact q_putfield hgo hg (cpf _ _ _ _ _ hf) hfi q1 q2 (fun _ cv hv => by cases (show cv = _ from hv); exact ⟨rfl, rfl⟩) hd q3
        · obtain ⟨fs, q1, q2, q3⟩ := wpPut_ok h
          exact q_putfield hgo hg (cpf _ _ _ _ _ hf) hfi q1 q2 (fun _ cv ⟨_, _, hv⟩ => by cases hv; exact ⟨rfl, rfl⟩) hd q3
        · obtain ⟨g1, g2, h⟩ := h
          obtain ⟨fs, q1, q2, q3⟩ := wpPut_ok h
          exact q_putfield hgo hg (cpf _ _ _ _ _ hf) hfi q1 q2 (fun _ cv hv => by cases (show cv = _ from hv); exact ⟨g1, g2⟩) hd q3
        · exact h.elim
    · exact h.elim
  | getstatic k =>
    obtain ⟨rfl, rfl⟩ := hn rfl
    delta wpI at h
    dsimp only at h
    split at h
    · exact q_getstatic hgo hg (cps _ _ (by assumption)) hd h
    · exact h.elim
  | new k =>
    obtain ⟨rfl, rfl⟩ := hn rfl
    delta wpI at h
    dsimp only at h
    split at h
    · rename_i ci hc
      split at h
      · rename_i n9 fs hnf
        obtain ⟨e1, e2, h⟩ := h
        rw [fN_eq, fL_eq] at h
        exact q_new hgo hg ((cpc _ _ hc).1 _ _ hnf) (newF_pl hnf) e1 e2 hd h
      · exact h.elim
    · rename_i x hc
      split at h
      · exact q_throw ⟨_, _, _, hcd, hc⟩ h.1 h.2.1 h.2.2.1 h.2.2.2
      · exact h.elim
    · exact h.elim
  | newarray t =>
    obtain ⟨rfl, rfl⟩ := hn rfl
    delta wpI at h
    dsimp only at h
    split at h
    · rename_i n9 st
      split at h
      · obtain ⟨e1, e2, e3, e4, h⟩ := wpNewA_ok h
        exact q_newarray hgo hg (at9 := .int) (fun n => .inl (0, n, .inl (fun _ => 0))) (n9.toNatClampNeg, .inl (fun _ => 0)) rfl rfl (fun _ _ q => q) rfl (fun _ => rfl) (fun _ => rfl) (by decide) (List.mem_append_right _ (List.mem_of_getElem? (i := 71) (by decide +kernel))) e1 e2 e3 e4 hd h
      · obtain ⟨e1, e2, e3, e4, h⟩ := wpNewA_ok h
        exact q_newarray hgo hg (at9 := .boolean) (fun n => .inl (1, n, .inl (fun _ => 0))) (n9.toNatClampNeg, .inl (fun _ => 0)) rfl rfl (fun _ _ q => q) rfl (fun _ => rfl) (fun _ => rfl) (by decide) (List.mem_append_right _ (List.mem_of_getElem? (i := 178) (by decide +kernel))) e1 e2 e3 e4 hd h
      · obtain ⟨e1, e2, e3, e4, h⟩ := wpNewA_ok h
        exact q_newarray hgo hg (at9 := .char) (fun n => .inl (2, n, .inl (fun _ => 0))) (n9.toNatClampNeg, .inl (fun _ => 0)) rfl rfl (fun _ _ q => q) rfl (fun _ => rfl) (fun _ => rfl) (by decide) (List.mem_append_right _ (List.mem_of_getElem? (i := 167) (by decide +kernel))) e1 e2 e3 e4 hd h
      · obtain ⟨e1, e2, e3, e4, h⟩ := wpNewA_ok h
        exact q_newarray hgo hg (at9 := .byte) (fun n => .inl (3, n, .inl (fun _ => 0))) (n9.toNatClampNeg, .inl (fun _ => 0)) rfl rfl (fun _ _ q => q) rfl (fun _ => rfl) (fun _ => rfl) (by decide) (List.mem_append_right _ (List.mem_of_getElem? (i := 239) (by decide +kernel))) e1 e2 e3 e4 hd h
      · obtain ⟨e1, e2, e3, e4, h⟩ := wpNewA_ok h
        exact q_newarray hgo hg (at9 := .long) (fun n => .inl (4, n, .inr (.inl (fun _ => 0)))) (n9.toNatClampNeg, .inr (.inl (fun _ => 0))) rfl rfl (fun _ _ q => q) rfl (fun _ => rfl) (fun _ => rfl) (by decide) (List.mem_append_right _ (List.mem_of_getElem? (i := 1821) (by decide +kernel))) e1 e2 e3 e4 hd h
      · obtain ⟨e1, e2, e3, e4, h⟩ := wpNewA_ok h
        exact q_newarray hgo hg (at9 := .double) (fun n => .inl (5, n, .inr (.inr (.inr (.inl (fun _ => 0)))))) (n9.toNatClampNeg, .inr (.inr (.inr (.inl (fun _ => 0))))) rfl rfl (fun _ _ q => q) rfl (fun _ => rfl) (fun _ => rfl) (by decide) (List.mem_append_right _ (List.mem_of_getElem? (i := 1822) (by decide +kernel))) e1 e2 e3 e4 hd h
      · exact h.elim
    · exact h.elim
  | anewarray k =>
    obtain ⟨rfl, rfl⟩ := hn rfl
    delta wpI at h
    dsimp only at h
    split at h
    · rename_i hc
      obtain ⟨e1, e2, e3, e4, h⟩ := wpNewA_ok h
      exact q_anewarray hgo hg ((cpc _ _ hc).2 rfl) (ao_ok hg) e1 e2 e3 e4 hd h
    · exact h.elim
  | arraylength =>
    obtain ⟨rfl, rfl⟩ := hn rfl
    delta wpI at h
    dsimp only at h
    split at h
    · split at h
      · exact q_arraylength hgo hg (by assumption) hd h
      · exact h.elim
    · split at h
      · exact q_arraylengthS hgo hg (by assumption) hd h
      · exact h.elim
    · exact h.elim
  | iaload =>
    obtain ⟨rfl, rfl⟩ := hn rfl
    delta wpI at h
    dsimp only at h
    split at h
    · split at h
      · exact q_iaload hgo hg (by assumption) h.1 hd h.2
      · exact h.elim
    · split at h
      · exact q_ialoadS hgo hg (by assumption) h.1 hd h.2
      · exact h.elim
    · exact h.elim
  | baload =>
    obtain ⟨rfl, rfl⟩ := hn rfl
    delta wpI at h
    dsimp only at h
    split at h
    · split at h
      · exact q_zaload hgo hg (by assumption) h.1 hd h.2
      · exact q_baload hgo hg (by assumption) h.1 hd h.2
      · exact h.elim
    · split at h
      · exact q_baloadS hgo hg (by assumption) h.1 hd h.2
      · exact h.elim
    · exact h.elim
  | caload =>
    obtain ⟨rfl, rfl⟩ := hn rfl
    delta wpI at h
    dsimp only at h
    split at h
    · split at h
      · exact q_caload hgo hg (by assumption) h.1 hd h.2
      · exact h.elim
    · exact h.elim
  | laload =>
    obtain ⟨rfl, rfl⟩ := hn rfl
    delta wpI at h
    dsimp only at h
    split at h
    · split at h
      · exact q_laload hgo hg (by assumption) h.1 hd h.2
      · exact h.elim
    · exact h.elim
  | daload =>
    obtain ⟨rfl, rfl⟩ := hn rfl
    delta wpI at h
    dsimp only at h
    split at h
    · split at h
      · exact q_daload hgo hg (by assumption) h.1 hd h.2
      · exact h.elim
    · exact h.elim
  | aaload =>
    obtain ⟨rfl, rfl⟩ := hn rfl
    delta wpI at h
    dsimp only at h
    split at h
    · split at h
      · exact q_aaload hgo hg (by assumption) h.1 hd h.2
      · exact h.elim
    · exact h.elim
  | iastore =>
    obtain ⟨rfl, rfl⟩ := hn rfl
    delta wpI at h
    dsimp only at h
    split at h
    · split at h
      · obtain ⟨e1, h⟩ := h
        rw [fL_eq] at h
        exact q_iastore hgo hg (by assumption) e1 hd h
      · exact h.elim
    · exact h.elim
  | castore =>
    obtain ⟨rfl, rfl⟩ := hn rfl
    delta wpI at h
    dsimp only at h
    split at h
    · split at h
      · obtain ⟨e1, h⟩ := h
        rw [fL_eq] at h
        exact q_castore hgo hg (by assumption) e1 hd h
      · exact h.elim
    · exact h.elim
  | lastore =>
    obtain ⟨rfl, rfl⟩ := hn rfl
    delta wpI at h
    dsimp only at h
    split at h
    · split at h
      · obtain ⟨e1, h⟩ := h
        rw [fL_eq] at h
        exact q_lastore hgo hg (by assumption) e1 hd h
      · exact h.elim
    · exact h.elim
  | dastore =>
    obtain ⟨rfl, rfl⟩ := hn rfl
    delta wpI at h
    dsimp only at h
    split at h
    · split at h
      · obtain ⟨e1, h⟩ := h
        rw [fL_eq] at h
        exact q_dastore hgo hg (by assumption) e1 hd h
      · exact h.elim
    · exact h.elim
  | bastore =>
    obtain ⟨rfl, rfl⟩ := hn rfl
    delta wpI at h
    dsimp only at h
    split at h
    · split at h
      · obtain ⟨e1, h⟩ := h
        rw [fL_eq] at h
        exact q_zastore hgo hg (by assumption) e1 hd h
      · obtain ⟨e1, h⟩ := h
        rw [fL_eq] at h
        exact q_bastore hgo hg (by assumption) e1 hd h
      · exact h.elim
    · exact h.elim
  | aastore =>
    obtain ⟨rfl, rfl⟩ := hn rfl
    delta wpI at h
    dsimp only at h
    split at h
    · split at h
      · obtain ⟨e1, h⟩ := h
        rw [fL_eq] at h
        exact q_aastore hgo hg (by assumption) (by assumption) e1 hd h
      · exact h.elim
    · exact h.elim
  | invokevirtual k =>
    obtain ⟨rfl, rfl⟩ := hn rfl
    delta wpI at h
    dsimp only at h
    split at h
    · rename_i y ci hk
      have hx := cpm _ _ _ _ hk
      delta wpKV at h
      split at h
      · split at h
        · split at h
          · rename_i e1
            cases Nat.eq_of_beq_eq_true e1
            exact q_callV hg hgo (hhn _ _ _ _ hcd) hx (by assumption) (by assumption) (wpCall_C h).1 hd (wpCall_C h).2
          · exact h.elim
        · exact h.elim
      · exact h.elim
    · rename_i y ci hk
      have hx := cpm _ _ _ _ hk
      delta wpKU at h
      split at h
      · split at h
        · split at h
          · rename_i e1
            cases Nat.eq_of_beq_eq_true e1
            exact q_callU hg hgo hx (by assumption) (by assumption) (wpCall0_C h).1 hd (wpCall0_C h).2
          · exact h.elim
        · exact h.elim
      · exact h.elim
    · exact h.elim
  | invokestatic k =>
    obtain ⟨rfl, rfl⟩ := hn rfl
    delta wpI at h
    dsimp only at h
    split at h
    · rename_i y ci hk
      have hx := cpm _ _ _ _ hk
      delta wpKS at h
      split at h
      · exact q_callS0 hg hgo hx (by assumption) (wpCall0_C h).1 hd (wpCall0_C h).2
      · exact h.elim
    · rename_i y ci hk
      have hx := cpm _ _ _ _ hk
      delta wpKS at h
      split at h
      · exact q_callSN hg hgo hx (by assumption) (wpCall0_C h).1 hd (wpCall0_C h).2
      · exact h.elim
    · rename_i y ci hk
      have hx := cpm _ _ _ _ hk
      delta wpKX at h
      split at h
      · split at h
        · rename_i e1
          exact q_max hg hgo hx (Nat.le_of_ble_eq_true e1) h.1 hd h.2
        · exact h.elim
      · exact h.elim
    · rename_i y ci hk
      have hx := cpm _ _ _ _ hk
      delta wpKM at h
      split at h
      · split at h
        · rename_i e1
          exact q_min hg hgo hx (Nat.le_of_ble_eq_true e1) h.1 hd h.2
        · exact h.elim
      · exact h.elim
    · rename_i y ci hk
      have hx := cpm _ _ _ _ hk
      delta wpKC at h
      split at h
      · split at h
        · split at h
          · rename_i e0
            obtain ⟨e1, e2, e3, e4, e5, e6, e7, h⟩ := h
            rw [fL_eq] at h
            exact q_copy hg hgo hx (Nat.le_of_ble_eq_true e0) e1 (by assumption) (by assumption) e2 e3 e4 e5 e6 e7 hd h
          · exact h.elim
        · exact h.elim
      · exact h.elim
    · rename_i y ci hk
      have hx := cpm _ _ _ _ hk
      delta wpKS at h
      split at h
      · exact q_callSW hg hgo hx (by assumption) (wpCall0_C h).1 hd (wpCall0_C h).2
      · exact h.elim
    · exact h.elim
  | invokespecial k =>
    obtain ⟨rfl, rfl⟩ := hn rfl
    delta wpI at h
    dsimp only at h
    split at h
    · rename_i y ci hk
      have hx := cpm _ _ _ _ hk
      delta wpKI at h
      split at h
      · exact q_callI hg hgo hx (by assumption) (wpCall0_C h).1 hd (wpCall0_C h).2
      · exact h.elim
    · rename_i y ci hk
      have hx := cpm _ _ _ _ hk
      delta wpKI at h
      split at h
      · exact q_callIN hg hgo hx (by assumption) (wpCall0_C h).1 hd (wpCall0_C h).2
      · exact h.elim
    · rename_i y ci hk
      have hx := cpm _ _ _ _ hk
      delta wpKO at h
      split at h
      · split at h
        · rename_i e1
          exact q_objInit hg hgo hx (Nat.le_of_ble_eq_true e1) h.1 hd h.2
        · exact h.elim
      · exact h.elim
    · rename_i y ci hk
      have hx := cpm _ _ _ _ hk
      delta wpKU at h
      split at h
      · split at h
        · split at h
          · rename_i e1
            cases Nat.eq_of_beq_eq_true e1
            exact q_callSU hg hgo hx (by assumption) (by assumption) (wpCall0_C h).1 hd (wpCall0_C h).2
          · exact h.elim
        · exact h.elim
      · exact h.elim
    · exact h.elim
  | ireturn =>
    obtain ⟨rfl, rfl⟩ := hn rfl
    delta wpI at h
    dsimp only at h
    split at h
    · rename_i x
      split at h
      · rename_i hr
        exact q_ret (v := some (.int x)) ⟨_, _, hcd, _, hr, rfl⟩ rfl h
      · rename_i ty hr
        exact q_ret (v := some (.int x)) ⟨_, _, hcd, _, (by assumption), h.1⟩ rfl h.2
      · exact h.elim
    · exact h.elim
  | areturn =>
    obtain ⟨rfl, rfl⟩ := hn rfl
    delta wpI at h
    dsimp only at h
    have hra := hre _ _ _ _ hcd
    split at h
    · exact q_ret (v := some (.ref _)) ⟨_, _, hcd, hra⟩ rfl h
    · exact q_ret (v := some (.retAddr _)) ⟨_, _, hcd, hra⟩ rfl h
    · exact h.elim
  | dreturn =>
    obtain ⟨rfl, rfl⟩ := hn rfl
    delta wpI at h
    dsimp only at h
    have hra := hre _ _ _ _ hcd
    split at h
    · exact q_ret (v := some (.double _)) ⟨_, _, hcd, hra⟩ rfl h
    · exact h.elim
  | freturn =>
    obtain ⟨rfl, rfl⟩ := hn rfl
    delta wpI at h
    dsimp only at h
    have hra := hre _ _ _ _ hcd
    split at h
    · exact q_ret (v := some (.float _)) ⟨_, _, hcd, hra⟩ rfl h
    · exact h.elim
  | return_ =>
    obtain ⟨rfl, rfl⟩ := hn rfl
    delta wpI at h
    dsimp only at h
    have hra := hre _ _ _ _ hcd
    split at h
    · exact q_ret (v := none) ⟨_, _, hcd, hra⟩ rfl h
    · exact h.elim
  | _ => exact False.elim h
set_option maxRecDepth 20000 in
theorem wp_okL (hg : gOK G) (hm : mOKL M) (cut : Nat → Option (List Bool)) : ∀ (n bc bs pc : Nat) (ls : List (Option Value)) (st : List Value) (w : xW), wp G M cut d K KX n bc bs pc ls st w → AW G M d bc bs pc ls st w K KX := by
  intro n
  induction n with
  | zero => intro bc bs pc ls st w h; exact h
  | succ n ih =>
    intro bc bs pc ls st w h
    have h : (match M.cd pc with
      | some (i, np, tg) => wpI G M d K KX (wpG G M cut d K KX (wp G M cut d K KX n)) bc bs pc ls st w i np tg
      | none => False) := h
    split at h
    · refine wpI_okL hg hm (fun bc bs pc ls st w h => ?_) (by assumption) h
      unfold wpG at h
      split at h
      · exact h.msk _
      · exact ih _ _ _ _ _ _ h
    · exact h.elim
end QL
