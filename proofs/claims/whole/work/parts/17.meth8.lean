/-! ===== the methods (by program) ===== -/
def k_J8_newLength_cabcc : cdT := [(27, [(0, (.iload_n 0, 1, 0)), (1, (.iload_n 1, 2, 0)), (2, (.iload_n 2, 3, 0)), (3, (.invokestatic 194, 6, 0)), (6, (.iadd, 7, 0)), (7, (.istore_n 3, 8, 0)), (8, (.iconst 0, 9, 0)), (9, (.iload_n 3, 10, 0)), (10, (.if_icmp .ge 11, 13, 21)), (13, (.iload_n 3, 14, 0)), (14, (.ldc 200, 16, 0)), (16, (.if_icmp .gt 5, 19, 21)), (19, (.iload_n 3, 20, 0)), (20, (.ireturn, 21, 0)), (21, (.iload_n 0, 22, 0)), (22, (.iload_n 1, 23, 0)), (23, (.invokestatic 201, 26, 0)), (26, (.ireturn, 27, 0))])]
def w_J8_newLength_cabcc : swT := []
def M_J8_newLength_cabcc : mT := (m_J8_newLength_cabcc, lk2 k_J8_newLength_cabcc, cpJ8, lkp w_J8_newLength_cabcc, [], false)
theorem ok_J8_newLength_cabcc : mOK M_J8_newLength_cabcc := ⟨mo_J8_newLength_cabcc, cpokJ8, codeOK_of (cs := k_J8_newLength_cabcc) (sw := w_J8_newLength_cabcc) rfl rfl (by decide +kernel), thrOK_no (cs := k_J8_newLength_cabcc) rfl (by decide +kernel), fun pc _ _ _ _ => hndOK_no rfl pc, (fun h => nomatch h), fun h => absurd rfl h, by decide +kernel, rtOK_of (cs := k_J8_newLength_cabcc) rfl (by decide +kernel)⟩
def k_J3_checkIndex_8e157 : cdT := [(18, [(0, (.iload_n 0, 1, 0)), (1, (.ifCond .lt 8, 4, 9)), (4, (.iload_n 0, 5, 0)), (5, (.iload_n 1, 6, 0)), (6, (.if_icmp .lt 10, 9, 16)), (9, (.aload_n 2, 10, 0)), (10, (.iload_n 0, 11, 0)), (11, (.iload_n 1, 12, 0)), (12, (.invokestatic 95, 15, 0)), (15, (.athrow, 16, 0)), (16, (.iload_n 0, 17, 0)), (17, (.ireturn, 18, 0))])]
def w_J3_checkIndex_8e157 : swT := []
def M_J3_checkIndex_8e157 : mT := (m_J3_checkIndex_8e157, lk2 k_J3_checkIndex_8e157, cpJ3, lkp w_J3_checkIndex_8e157, [], false)
theorem ok_J3_checkIndex_8e157 : mOK M_J3_checkIndex_8e157 := ⟨mo_J3_checkIndex_8e157, cpokJ3, codeOK_of (cs := k_J3_checkIndex_8e157) (sw := w_J3_checkIndex_8e157) rfl rfl (by decide +kernel), thrOK_no (cs := k_J3_checkIndex_8e157) rfl (by decide +kernel), fun pc _ _ _ _ => hndOK_no rfl pc, (fun h => nomatch h), fun h => absurd rfl h, by decide +kernel, rtOK_of (cs := k_J3_checkIndex_8e157) rfl (by decide +kernel)⟩
def k_L_coal : cdT := [(17, [(0, (.aload_n 2, 1, 0)), (1, (.iconst 0, 2, 0)), (2, (.aload_n 0, 3, 0)), (3, (.iload_n 1, 4, 0)), (4, (.invokevirtual 7, 7, 0)), (7, (.i2l, 8, 0)), (8, (.lastore, 9, 0)), (9, (.goto 6, 12, 15)), (12, (.astore_n 3, 13, 0)), (13, (.iconst 1, 14, 0)), (14, (.ireturn, 15, 0)), (15, (.iconst 0, 16, 0)), (16, (.ireturn, 17, 0))])]
def w_L_coal : swT := []
def M_L_coal : mT := (m_L_coal, lk2 k_L_coal, cpL, lkp w_L_coal, [(0, 1)], false)
theorem hnd_L_coal : hndOK M_L_coal 4 := by
  intro x v h
  have h := hsF_mem h
  have h : (x, v) ∈ ([(0, 1)] : List (Nat × Int32)) := h
  have h : (x = 0 ∧ v = 1) := by simpa using h
  rcases h with ⟨rfl, rfl⟩
  · exact ⟨[], [], ⟨0, 9, 12, 13⟩, 3, (3 : Fin 4), 1, rfl, rfl, by decide, (List.mem_append_right _ (List.mem_of_getElem? (i := 414) (by decide +kernel))), (List.mem_append_right _ (List.mem_of_getElem? (i := 424) (by decide +kernel))), fa_nil, Or.inl ⟨by decide +kernel, rfl, by decide +kernel, ⟨_, _, rfl, _, rfl, rfl⟩⟩, by decide, rfl⟩
def iv_L_coal (pc : Nat) (i : Instr) (_ _ : Nat) : Bool := match i with
  | .invokevirtual _ => Nat.beq pc 4
  | _ => true
theorem ok_L_coal : mOK M_L_coal := ⟨mo_L_coal, cpokL, codeOK_of (cs := k_L_coal) (sw := w_L_coal) rfl rfl (by decide +kernel), thrOK_no (cs := k_L_coal) rfl (by decide +kernel), fun pc k np tg h => by rw [Nat.eq_of_beq_eq_true (allI_at (cs := k_L_coal) (f := iv_L_coal) (by decide +kernel) h)]; exact hnd_L_coal, (fun h => nomatch h), fun _ => rfl, by decide +kernel, rtOK_of (cs := k_L_coal) rfl (by decide +kernel)⟩
def k_L_bronze : cdT := [(20, [(0, (.aload_n 2, 1, 0)), (1, (.iconst 0, 2, 0)), (2, (.aload_n 0, 3, 0)), (3, (.iload_n 1, 4, 0)), (4, (.invokevirtual 15, 7, 0)), (7, (.i2l, 8, 0)), (8, (.lastore, 9, 0)), (9, (.goto 9, 12, 18)), (12, (.astore_n 3, 13, 0)), (13, (.iconst 1, 14, 0)), (14, (.ireturn, 15, 0)), (15, (.astore_n 3, 16, 0)), (16, (.iconst 2, 17, 0)), (17, (.ireturn, 18, 0)), (18, (.iconst 0, 19, 0)), (19, (.ireturn, 20, 0))])]
def w_L_bronze : swT := []
def M_L_bronze : mT := (m_L_bronze, lk2 k_L_bronze, cpL, lkp w_L_bronze, [(0, 1), (1, 2)], false)
theorem hnd_L_bronze : hndOK M_L_bronze 4 := by
  intro x v h
  have h := hsF_mem h
  have h : (x, v) ∈ ([(0, 1), (1, 2)] : List (Nat × Int32)) := h
  have h : (x = 0 ∧ v = 1) ∨ (x = 1 ∧ v = 2) := by simpa using h
  rcases h with ⟨rfl, rfl⟩ | ⟨rfl, rfl⟩
  · exact ⟨[], [⟨0, 9, 15, 18⟩], ⟨0, 9, 12, 13⟩, 3, (3 : Fin 4), 1, rfl, rfl, by decide, (List.mem_append_right _ (List.mem_of_getElem? (i := 414) (by decide +kernel))), (List.mem_append_right _ (List.mem_of_getElem? (i := 424) (by decide +kernel))), fa_nil, Or.inl ⟨by decide +kernel, rfl, by decide +kernel, ⟨_, _, rfl, _, rfl, rfl⟩⟩, by decide, rfl⟩
  · exact ⟨[⟨0, 9, 12, 13⟩], [], ⟨0, 9, 15, 18⟩, 3, (3 : Fin 4), 2, rfl, rfl, by decide, (List.mem_append_right _ (List.mem_of_getElem? (i := 509) (by decide +kernel))), (List.mem_append_right _ (List.mem_of_getElem? (i := 525) (by decide +kernel))), (fa_cons ⟨by decide, "java/lang/IllegalArgumentException", (List.mem_append_right _ (List.mem_of_getElem? (i := 414) (by decide +kernel))), by decide +kernel⟩ fa_nil), Or.inl ⟨by decide +kernel, rfl, by decide +kernel, ⟨_, _, rfl, _, rfl, rfl⟩⟩, by decide, rfl⟩
def iv_L_bronze (pc : Nat) (i : Instr) (_ _ : Nat) : Bool := match i with
  | .invokevirtual _ => Nat.beq pc 4
  | _ => true
theorem ok_L_bronze : mOK M_L_bronze := ⟨mo_L_bronze, cpokL, codeOK_of (cs := k_L_bronze) (sw := w_L_bronze) rfl rfl (by decide +kernel), thrOK_no (cs := k_L_bronze) rfl (by decide +kernel), fun pc k np tg h => by rw [Nat.eq_of_beq_eq_true (allI_at (cs := k_L_bronze) (f := iv_L_bronze) (by decide +kernel) h)]; exact hnd_L_bronze, (fun h => nomatch h), fun _ => rfl, by decide +kernel, rtOK_of (cs := k_L_bronze) rfl (by decide +kernel)⟩
def k_L_mould : cdT := [(23, [(0, (.aload_n 3, 1, 0)), (1, (.iconst 0, 2, 0)), (2, (.aload_n 0, 3, 0)), (3, (.iload_n 1, 4, 0)), (4, (.iload_n 2, 5, 0)), (5, (.invokevirtual 20, 8, 0)), (8, (.i2l, 9, 0)), (9, (.lastore, 10, 0)), (10, (.goto 11, 13, 21)), (13, (.astore 4, 15, 0)), (15, (.iconst 1, 16, 0)), (16, (.ireturn, 17, 0)), (17, (.astore 4, 19, 0)), (19, (.iconst 2, 20, 0)), (20, (.ireturn, 21, 0)), (21, (.iconst 0, 22, 0)), (22, (.ireturn, 23, 0))])]
def w_L_mould : swT := []
def M_L_mould : mT := (m_L_mould, lk2 k_L_mould, cpL, lkp w_L_mould, [(0, 1), (1, 2)], false)
theorem hnd_L_mould : hndOK M_L_mould 5 := by
  intro x v h
  have h := hsF_mem h
  have h : (x, v) ∈ ([(0, 1), (1, 2)] : List (Nat × Int32)) := h
  have h : (x = 0 ∧ v = 1) ∨ (x = 1 ∧ v = 2) := by simpa using h
  rcases h with ⟨rfl, rfl⟩ | ⟨rfl, rfl⟩
  · exact ⟨[], [⟨0, 10, 17, 18⟩], ⟨0, 10, 13, 13⟩, 4, (0 : Fin 4), 1, rfl, rfl, by decide, (List.mem_append_right _ (List.mem_of_getElem? (i := 414) (by decide +kernel))), (List.mem_append_right _ (List.mem_of_getElem? (i := 424) (by decide +kernel))), fa_nil, Or.inr ⟨by decide +kernel, by decide +kernel, ⟨_, _, rfl, _, rfl, rfl⟩⟩, by decide, rfl⟩
  · exact ⟨[⟨0, 10, 13, 13⟩], [], ⟨0, 10, 17, 18⟩, 4, (0 : Fin 4), 2, rfl, rfl, by decide, (List.mem_append_right _ (List.mem_of_getElem? (i := 509) (by decide +kernel))), (List.mem_append_right _ (List.mem_of_getElem? (i := 525) (by decide +kernel))), (fa_cons ⟨by decide, "java/lang/IllegalArgumentException", (List.mem_append_right _ (List.mem_of_getElem? (i := 414) (by decide +kernel))), by decide +kernel⟩ fa_nil), Or.inr ⟨by decide +kernel, by decide +kernel, ⟨_, _, rfl, _, rfl, rfl⟩⟩, by decide, rfl⟩
def iv_L_mould (pc : Nat) (i : Instr) (_ _ : Nat) : Bool := match i with
  | .invokevirtual _ => Nat.beq pc 5
  | _ => true
theorem ok_L_mould : mOK M_L_mould := ⟨mo_L_mould, cpokL, codeOK_of (cs := k_L_mould) (sw := w_L_mould) rfl rfl (by decide +kernel), thrOK_no (cs := k_L_mould) rfl (by decide +kernel), fun pc k np tg h => by rw [Nat.eq_of_beq_eq_true (allI_at (cs := k_L_mould) (f := iv_L_mould) (by decide +kernel) h)]; exact hnd_L_mould, (fun h => nomatch h), fun _ => rfl, by decide +kernel, rtOK_of (cs := k_L_mould) rfl (by decide +kernel)⟩
def k_L_smash : cdT := [(17, [(0, (.aload_n 2, 1, 0)), (1, (.iconst 0, 2, 0)), (2, (.aload_n 0, 3, 0)), (3, (.iload_n 1, 4, 0)), (4, (.invokevirtual 24, 7, 0)), (7, (.i2l, 8, 0)), (8, (.lastore, 9, 0)), (9, (.goto 6, 12, 15)), (12, (.astore_n 3, 13, 0)), (13, (.iconst 1, 14, 0)), (14, (.ireturn, 15, 0)), (15, (.iconst 0, 16, 0)), (16, (.ireturn, 17, 0))])]
def w_L_smash : swT := []
def M_L_smash : mT := (m_L_smash, lk2 k_L_smash, cpL, lkp w_L_smash, [(2, 1)], false)
theorem hnd_L_smash : hndOK M_L_smash 4 := by
  intro x v h
  have h := hsF_mem h
  have h : (x, v) ∈ ([(2, 1)] : List (Nat × Int32)) := h
  have h : (x = 2 ∧ v = 1) := by simpa using h
  rcases h with ⟨rfl, rfl⟩
  · exact ⟨[], [], ⟨0, 9, 12, 27⟩, 3, (3 : Fin 4), 1, rfl, rfl, by decide, (List.mem_append_right _ (List.mem_of_getElem? (i := 574) (by decide +kernel))), (List.mem_append_right _ (List.mem_of_getElem? (i := 608) (by decide +kernel))), fa_nil, Or.inl ⟨by decide +kernel, rfl, by decide +kernel, ⟨_, _, rfl, _, rfl, rfl⟩⟩, by decide, rfl⟩
def iv_L_smash (pc : Nat) (i : Instr) (_ _ : Nat) : Bool := match i with
  | .invokevirtual _ => Nat.beq pc 4
  | _ => true
theorem ok_L_smash : mOK M_L_smash := ⟨mo_L_smash, cpokL, codeOK_of (cs := k_L_smash) (sw := w_L_smash) rfl rfl (by decide +kernel), thrOK_no (cs := k_L_smash) rfl (by decide +kernel), fun pc k np tg h => by rw [Nat.eq_of_beq_eq_true (allI_at (cs := k_L_smash) (f := iv_L_smash) (by decide +kernel) h)]; exact hnd_L_smash, (fun h => nomatch h), fun _ => rfl, by decide +kernel, rtOK_of (cs := k_L_smash) rfl (by decide +kernel)⟩
def k_L_mouldOf : cdT := [(23, [(0, (.aload_n 3, 1, 0)), (1, (.iconst 0, 2, 0)), (2, (.aload_n 0, 3, 0)), (3, (.iload_n 1, 4, 0)), (4, (.iload_n 2, 5, 0)), (5, (.invokevirtual 29, 8, 0)), (8, (.i2l, 9, 0)), (9, (.lastore, 10, 0)), (10, (.goto 11, 13, 21)), (13, (.astore 4, 15, 0)), (15, (.iconst 1, 16, 0)), (16, (.ireturn, 17, 0)), (17, (.astore 4, 19, 0)), (19, (.iconst 2, 20, 0)), (20, (.ireturn, 21, 0)), (21, (.iconst 0, 22, 0)), (22, (.ireturn, 23, 0))])]
def w_L_mouldOf : swT := []
def M_L_mouldOf : mT := (m_L_mouldOf, lk2 k_L_mouldOf, cpL, lkp w_L_mouldOf, [(2, 1), (0, 2)], false)
theorem hnd_L_mouldOf : hndOK M_L_mouldOf 5 := by
  intro x v h
  have h := hsF_mem h
  have h : (x, v) ∈ ([(2, 1), (0, 2)] : List (Nat × Int32)) := h
  have h : (x = 2 ∧ v = 1) ∨ (x = 0 ∧ v = 2) := by simpa using h
  rcases h with ⟨rfl, rfl⟩ | ⟨rfl, rfl⟩
  · exact ⟨[], [⟨0, 10, 17, 13⟩], ⟨0, 10, 13, 27⟩, 4, (0 : Fin 4), 1, rfl, rfl, by decide, (List.mem_append_right _ (List.mem_of_getElem? (i := 574) (by decide +kernel))), (List.mem_append_right _ (List.mem_of_getElem? (i := 608) (by decide +kernel))), fa_nil, Or.inr ⟨by decide +kernel, by decide +kernel, ⟨_, _, rfl, _, rfl, rfl⟩⟩, by decide, rfl⟩
  · exact ⟨[⟨0, 10, 13, 27⟩], [], ⟨0, 10, 17, 13⟩, 4, (0 : Fin 4), 2, rfl, rfl, by decide, (List.mem_append_right _ (List.mem_of_getElem? (i := 414) (by decide +kernel))), (List.mem_append_right _ (List.mem_of_getElem? (i := 424) (by decide +kernel))), (fa_cons ⟨by decide, "java/lang/IndexOutOfBoundsException", (List.mem_append_right _ (List.mem_of_getElem? (i := 574) (by decide +kernel))), by decide +kernel⟩ fa_nil), Or.inr ⟨by decide +kernel, by decide +kernel, ⟨_, _, rfl, _, rfl, rfl⟩⟩, by decide, rfl⟩
def iv_L_mouldOf (pc : Nat) (i : Instr) (_ _ : Nat) : Bool := match i with
  | .invokevirtual _ => Nat.beq pc 5
  | _ => true
theorem ok_L_mouldOf : mOK M_L_mouldOf := ⟨mo_L_mouldOf, cpokL, codeOK_of (cs := k_L_mouldOf) (sw := w_L_mouldOf) rfl rfl (by decide +kernel), thrOK_no (cs := k_L_mouldOf) rfl (by decide +kernel), fun pc k np tg h => by rw [Nat.eq_of_beq_eq_true (allI_at (cs := k_L_mouldOf) (f := iv_L_mouldOf) (by decide +kernel) h)]; exact hnd_L_mouldOf, (fun h => nomatch h), fun _ => rfl, by decide +kernel, rtOK_of (cs := k_L_mouldOf) rfl (by decide +kernel)⟩
def k_L_rack : cdT := [(20, [(0, (.aload_n 2, 1, 0)), (1, (.iconst 0, 2, 0)), (2, (.aload_n 0, 3, 0)), (3, (.iload_n 1, 4, 0)), (4, (.invokevirtual 32, 7, 0)), (7, (.i2l, 8, 0)), (8, (.lastore, 9, 0)), (9, (.goto 9, 12, 18)), (12, (.astore_n 3, 13, 0)), (13, (.iconst 1, 14, 0)), (14, (.ireturn, 15, 0)), (15, (.astore_n 3, 16, 0)), (16, (.iconst 2, 17, 0)), (17, (.ireturn, 18, 0)), (18, (.iconst 0, 19, 0)), (19, (.ireturn, 20, 0))])]
def w_L_rack : swT := []
def M_L_rack : mT := (m_L_rack, lk2 k_L_rack, cpL, lkp w_L_rack, [(0, 1), (1, 2)], false)
theorem hnd_L_rack : hndOK M_L_rack 4 := by
  intro x v h
  have h := hsF_mem h
  have h : (x, v) ∈ ([(0, 1), (1, 2)] : List (Nat × Int32)) := h
  have h : (x = 0 ∧ v = 1) ∨ (x = 1 ∧ v = 2) := by simpa using h
  rcases h with ⟨rfl, rfl⟩ | ⟨rfl, rfl⟩
  · exact ⟨[], [⟨0, 9, 15, 18⟩], ⟨0, 9, 12, 13⟩, 3, (3 : Fin 4), 1, rfl, rfl, by decide, (List.mem_append_right _ (List.mem_of_getElem? (i := 414) (by decide +kernel))), (List.mem_append_right _ (List.mem_of_getElem? (i := 424) (by decide +kernel))), fa_nil, Or.inl ⟨by decide +kernel, rfl, by decide +kernel, ⟨_, _, rfl, _, rfl, rfl⟩⟩, by decide, rfl⟩
  · exact ⟨[⟨0, 9, 12, 13⟩], [], ⟨0, 9, 15, 18⟩, 3, (3 : Fin 4), 2, rfl, rfl, by decide, (List.mem_append_right _ (List.mem_of_getElem? (i := 509) (by decide +kernel))), (List.mem_append_right _ (List.mem_of_getElem? (i := 525) (by decide +kernel))), (fa_cons ⟨by decide, "java/lang/IllegalArgumentException", (List.mem_append_right _ (List.mem_of_getElem? (i := 414) (by decide +kernel))), by decide +kernel⟩ fa_nil), Or.inl ⟨by decide +kernel, rfl, by decide +kernel, ⟨_, _, rfl, _, rfl, rfl⟩⟩, by decide, rfl⟩
def iv_L_rack (pc : Nat) (i : Instr) (_ _ : Nat) : Bool := match i with
  | .invokevirtual _ => Nat.beq pc 4
  | _ => true
theorem ok_L_rack : mOK M_L_rack := ⟨mo_L_rack, cpokL, codeOK_of (cs := k_L_rack) (sw := w_L_rack) rfl rfl (by decide +kernel), thrOK_no (cs := k_L_rack) rfl (by decide +kernel), fun pc k np tg h => by rw [Nat.eq_of_beq_eq_true (allI_at (cs := k_L_rack) (f := iv_L_rack) (by decide +kernel) h)]; exact hnd_L_rack, (fun h => nomatch h), fun _ => rfl, by decide +kernel, rtOK_of (cs := k_L_rack) rfl (by decide +kernel)⟩
def k_L_strike : cdT := [(20, [(0, (.aload_n 2, 1, 0)), (1, (.iconst 0, 2, 0)), (2, (.aload_n 0, 3, 0)), (3, (.iload_n 1, 4, 0)), (4, (.invokevirtual 35, 7, 0)), (7, (.i2l, 8, 0)), (8, (.lastore, 9, 0)), (9, (.goto 9, 12, 18)), (12, (.astore_n 3, 13, 0)), (13, (.iconst 1, 14, 0)), (14, (.ireturn, 15, 0)), (15, (.astore_n 3, 16, 0)), (16, (.iconst 2, 17, 0)), (17, (.ireturn, 18, 0)), (18, (.iconst 0, 19, 0)), (19, (.ireturn, 20, 0))])]
def w_L_strike : swT := []
def M_L_strike : mT := (m_L_strike, lk2 k_L_strike, cpL, lkp w_L_strike, [(2, 1), (1, 2)], false)
theorem hnd_L_strike : hndOK M_L_strike 4 := by
  intro x v h
  have h := hsF_mem h
  have h : (x, v) ∈ ([(2, 1), (1, 2)] : List (Nat × Int32)) := h
  have h : (x = 2 ∧ v = 1) ∨ (x = 1 ∧ v = 2) := by simpa using h
  rcases h with ⟨rfl, rfl⟩ | ⟨rfl, rfl⟩
  · exact ⟨[], [⟨0, 9, 15, 18⟩], ⟨0, 9, 12, 27⟩, 3, (3 : Fin 4), 1, rfl, rfl, by decide, (List.mem_append_right _ (List.mem_of_getElem? (i := 574) (by decide +kernel))), (List.mem_append_right _ (List.mem_of_getElem? (i := 608) (by decide +kernel))), fa_nil, Or.inl ⟨by decide +kernel, rfl, by decide +kernel, ⟨_, _, rfl, _, rfl, rfl⟩⟩, by decide, rfl⟩
  · exact ⟨[⟨0, 9, 12, 27⟩], [], ⟨0, 9, 15, 18⟩, 3, (3 : Fin 4), 2, rfl, rfl, by decide, (List.mem_append_right _ (List.mem_of_getElem? (i := 509) (by decide +kernel))), (List.mem_append_right _ (List.mem_of_getElem? (i := 525) (by decide +kernel))), (fa_cons ⟨by decide, "java/lang/IndexOutOfBoundsException", (List.mem_append_right _ (List.mem_of_getElem? (i := 574) (by decide +kernel))), by decide +kernel⟩ fa_nil), Or.inl ⟨by decide +kernel, rfl, by decide +kernel, ⟨_, _, rfl, _, rfl, rfl⟩⟩, by decide, rfl⟩
def iv_L_strike (pc : Nat) (i : Instr) (_ _ : Nat) : Bool := match i with
  | .invokevirtual _ => Nat.beq pc 4
  | _ => true
theorem ok_L_strike : mOK M_L_strike := ⟨mo_L_strike, cpokL, codeOK_of (cs := k_L_strike) (sw := w_L_strike) rfl rfl (by decide +kernel), thrOK_no (cs := k_L_strike) rfl (by decide +kernel), fun pc k np tg h => by rw [Nat.eq_of_beq_eq_true (allI_at (cs := k_L_strike) (f := iv_L_strike) (by decide +kernel) h)]; exact hnd_L_strike, (fun h => nomatch h), fun _ => rfl, by decide +kernel, rtOK_of (cs := k_L_strike) rfl (by decide +kernel)⟩
def k_L_rackOf : cdT := [(23, [(0, (.aload_n 3, 1, 0)), (1, (.iconst 0, 2, 0)), (2, (.aload_n 0, 3, 0)), (3, (.iload_n 1, 4, 0)), (4, (.iload_n 2, 5, 0)), (5, (.invokevirtual 38, 8, 0)), (8, (.i2l, 9, 0)), (9, (.lastore, 10, 0)), (10, (.goto 11, 13, 21)), (13, (.astore 4, 15, 0)), (15, (.iconst 1, 16, 0)), (16, (.ireturn, 17, 0)), (17, (.astore 4, 19, 0)), (19, (.iconst 2, 20, 0)), (20, (.ireturn, 21, 0)), (21, (.iconst 0, 22, 0)), (22, (.ireturn, 23, 0))])]
def w_L_rackOf : swT := []
def M_L_rackOf : mT := (m_L_rackOf, lk2 k_L_rackOf, cpL, lkp w_L_rackOf, [(2, 1), (0, 2)], false)
theorem hnd_L_rackOf : hndOK M_L_rackOf 5 := by
  intro x v h
  have h := hsF_mem h
  have h : (x, v) ∈ ([(2, 1), (0, 2)] : List (Nat × Int32)) := h
  have h : (x = 2 ∧ v = 1) ∨ (x = 0 ∧ v = 2) := by simpa using h
  rcases h with ⟨rfl, rfl⟩ | ⟨rfl, rfl⟩
  · exact ⟨[], [⟨0, 10, 17, 13⟩], ⟨0, 10, 13, 27⟩, 4, (0 : Fin 4), 1, rfl, rfl, by decide, (List.mem_append_right _ (List.mem_of_getElem? (i := 574) (by decide +kernel))), (List.mem_append_right _ (List.mem_of_getElem? (i := 608) (by decide +kernel))), fa_nil, Or.inr ⟨by decide +kernel, by decide +kernel, ⟨_, _, rfl, _, rfl, rfl⟩⟩, by decide, rfl⟩
  · exact ⟨[⟨0, 10, 13, 27⟩], [], ⟨0, 10, 17, 13⟩, 4, (0 : Fin 4), 2, rfl, rfl, by decide, (List.mem_append_right _ (List.mem_of_getElem? (i := 414) (by decide +kernel))), (List.mem_append_right _ (List.mem_of_getElem? (i := 424) (by decide +kernel))), (fa_cons ⟨by decide, "java/lang/IndexOutOfBoundsException", (List.mem_append_right _ (List.mem_of_getElem? (i := 574) (by decide +kernel))), by decide +kernel⟩ fa_nil), Or.inr ⟨by decide +kernel, by decide +kernel, ⟨_, _, rfl, _, rfl, rfl⟩⟩, by decide, rfl⟩
def iv_L_rackOf (pc : Nat) (i : Instr) (_ _ : Nat) : Bool := match i with
  | .invokevirtual _ => Nat.beq pc 5
  | _ => true
theorem ok_L_rackOf : mOK M_L_rackOf := ⟨mo_L_rackOf, cpokL, codeOK_of (cs := k_L_rackOf) (sw := w_L_rackOf) rfl rfl (by decide +kernel), thrOK_no (cs := k_L_rackOf) rfl (by decide +kernel), fun pc k np tg h => by rw [Nat.eq_of_beq_eq_true (allI_at (cs := k_L_rackOf) (f := iv_L_rackOf) (by decide +kernel) h)]; exact hnd_L_rackOf, (fun h => nomatch h), fun _ => rfl, by decide +kernel, rtOK_of (cs := k_L_rackOf) rfl (by decide +kernel)⟩
def k_L_pour : cdT := [(23, [(0, (.aload_n 3, 1, 0)), (1, (.iconst 0, 2, 0)), (2, (.aload_n 0, 3, 0)), (3, (.iload_n 1, 4, 0)), (4, (.iload_n 2, 5, 0)), (5, (.invokevirtual 41, 8, 0)), (8, (.i2l, 9, 0)), (9, (.lastore, 10, 0)), (10, (.goto 11, 13, 21)), (13, (.astore 4, 15, 0)), (15, (.iconst 1, 16, 0)), (16, (.ireturn, 17, 0)), (17, (.astore 4, 19, 0)), (19, (.iconst 2, 20, 0)), (20, (.ireturn, 21, 0)), (21, (.iconst 0, 22, 0)), (22, (.ireturn, 23, 0))])]
def w_L_pour : swT := []
def M_L_pour : mT := (m_L_pour, lk2 k_L_pour, cpL, lkp w_L_pour, [(2, 1), (1, 2)], false)
theorem hnd_L_pour : hndOK M_L_pour 5 := by
  intro x v h
  have h := hsF_mem h
  have h : (x, v) ∈ ([(2, 1), (1, 2)] : List (Nat × Int32)) := h
  have h : (x = 2 ∧ v = 1) ∨ (x = 1 ∧ v = 2) := by simpa using h
  rcases h with ⟨rfl, rfl⟩ | ⟨rfl, rfl⟩
  · exact ⟨[], [⟨0, 10, 17, 18⟩], ⟨0, 10, 13, 27⟩, 4, (0 : Fin 4), 1, rfl, rfl, by decide, (List.mem_append_right _ (List.mem_of_getElem? (i := 574) (by decide +kernel))), (List.mem_append_right _ (List.mem_of_getElem? (i := 608) (by decide +kernel))), fa_nil, Or.inr ⟨by decide +kernel, by decide +kernel, ⟨_, _, rfl, _, rfl, rfl⟩⟩, by decide, rfl⟩
  · exact ⟨[⟨0, 10, 13, 27⟩], [], ⟨0, 10, 17, 18⟩, 4, (0 : Fin 4), 2, rfl, rfl, by decide, (List.mem_append_right _ (List.mem_of_getElem? (i := 509) (by decide +kernel))), (List.mem_append_right _ (List.mem_of_getElem? (i := 525) (by decide +kernel))), (fa_cons ⟨by decide, "java/lang/IndexOutOfBoundsException", (List.mem_append_right _ (List.mem_of_getElem? (i := 574) (by decide +kernel))), by decide +kernel⟩ fa_nil), Or.inr ⟨by decide +kernel, by decide +kernel, ⟨_, _, rfl, _, rfl, rfl⟩⟩, by decide, rfl⟩
def iv_L_pour (pc : Nat) (i : Instr) (_ _ : Nat) : Bool := match i with
  | .invokevirtual _ => Nat.beq pc 5
  | _ => true
theorem ok_L_pour : mOK M_L_pour := ⟨mo_L_pour, cpokL, codeOK_of (cs := k_L_pour) (sw := w_L_pour) rfl rfl (by decide +kernel), thrOK_no (cs := k_L_pour) rfl (by decide +kernel), fun pc k np tg h => by rw [Nat.eq_of_beq_eq_true (allI_at (cs := k_L_pour) (f := iv_L_pour) (by decide +kernel) h)]; exact hnd_L_pour, (fun h => nomatch h), fun _ => rfl, by decide +kernel, rtOK_of (cs := k_L_pour) rfl (by decide +kernel)⟩
def k_L_pass : cdT := [(17, [(0, (.aload_n 2, 1, 0)), (1, (.iconst 0, 2, 0)), (2, (.aload_n 0, 3, 0)), (3, (.iload_n 1, 4, 0)), (4, (.invokevirtual 44, 7, 0)), (7, (.i2l, 8, 0)), (8, (.lastore, 9, 0)), (9, (.goto 6, 12, 15)), (12, (.astore_n 3, 13, 0)), (13, (.iconst 1, 14, 0)), (14, (.ireturn, 15, 0)), (15, (.iconst 0, 16, 0)), (16, (.ireturn, 17, 0))])]
def w_L_pass : swT := []
def M_L_pass : mT := (m_L_pass, lk2 k_L_pass, cpL, lkp w_L_pass, [(0, 1)], false)
theorem hnd_L_pass : hndOK M_L_pass 4 := by
  intro x v h
  have h := hsF_mem h
  have h : (x, v) ∈ ([(0, 1)] : List (Nat × Int32)) := h
  have h : (x = 0 ∧ v = 1) := by simpa using h
  rcases h with ⟨rfl, rfl⟩
  · exact ⟨[], [], ⟨0, 9, 12, 13⟩, 3, (3 : Fin 4), 1, rfl, rfl, by decide, (List.mem_append_right _ (List.mem_of_getElem? (i := 414) (by decide +kernel))), (List.mem_append_right _ (List.mem_of_getElem? (i := 424) (by decide +kernel))), fa_nil, Or.inl ⟨by decide +kernel, rfl, by decide +kernel, ⟨_, _, rfl, _, rfl, rfl⟩⟩, by decide, rfl⟩
def iv_L_pass (pc : Nat) (i : Instr) (_ _ : Nat) : Bool := match i with
  | .invokevirtual _ => Nat.beq pc 4
  | _ => true
theorem ok_L_pass : mOK M_L_pass := ⟨mo_L_pass, cpokL, codeOK_of (cs := k_L_pass) (sw := w_L_pass) rfl rfl (by decide +kernel), thrOK_no (cs := k_L_pass) rfl (by decide +kernel), fun pc k np tg h => by rw [Nat.eq_of_beq_eq_true (allI_at (cs := k_L_pass) (f := iv_L_pass) (by decide +kernel) h)]; exact hnd_L_pass, (fun h => nomatch h), fun _ => rfl, by decide +kernel, rtOK_of (cs := k_L_pass) rfl (by decide +kernel)⟩
def k_L_take : cdT := [(20, [(0, (.aload_n 2, 1, 0)), (1, (.iconst 0, 2, 0)), (2, (.aload_n 0, 3, 0)), (3, (.iload_n 1, 4, 0)), (4, (.invokevirtual 47, 7, 0)), (7, (.i2l, 8, 0)), (8, (.lastore, 9, 0)), (9, (.goto 9, 12, 18)), (12, (.astore_n 3, 13, 0)), (13, (.iconst 1, 14, 0)), (14, (.ireturn, 15, 0)), (15, (.astore_n 3, 16, 0)), (16, (.iconst 2, 17, 0)), (17, (.ireturn, 18, 0)), (18, (.iconst 0, 19, 0)), (19, (.ireturn, 20, 0))])]
def w_L_take : swT := []
def M_L_take : mT := (m_L_take, lk2 k_L_take, cpL, lkp w_L_take, [(2, 1), (1, 2)], false)
theorem hnd_L_take : hndOK M_L_take 4 := by
  intro x v h
  have h := hsF_mem h
  have h : (x, v) ∈ ([(2, 1), (1, 2)] : List (Nat × Int32)) := h
  have h : (x = 2 ∧ v = 1) ∨ (x = 1 ∧ v = 2) := by simpa using h
  rcases h with ⟨rfl, rfl⟩ | ⟨rfl, rfl⟩
  · exact ⟨[], [⟨0, 9, 15, 18⟩], ⟨0, 9, 12, 27⟩, 3, (3 : Fin 4), 1, rfl, rfl, by decide, (List.mem_append_right _ (List.mem_of_getElem? (i := 574) (by decide +kernel))), (List.mem_append_right _ (List.mem_of_getElem? (i := 608) (by decide +kernel))), fa_nil, Or.inl ⟨by decide +kernel, rfl, by decide +kernel, ⟨_, _, rfl, _, rfl, rfl⟩⟩, by decide, rfl⟩
  · exact ⟨[⟨0, 9, 12, 27⟩], [], ⟨0, 9, 15, 18⟩, 3, (3 : Fin 4), 2, rfl, rfl, by decide, (List.mem_append_right _ (List.mem_of_getElem? (i := 509) (by decide +kernel))), (List.mem_append_right _ (List.mem_of_getElem? (i := 525) (by decide +kernel))), (fa_cons ⟨by decide, "java/lang/IndexOutOfBoundsException", (List.mem_append_right _ (List.mem_of_getElem? (i := 574) (by decide +kernel))), by decide +kernel⟩ fa_nil), Or.inl ⟨by decide +kernel, rfl, by decide +kernel, ⟨_, _, rfl, _, rfl, rfl⟩⟩, by decide, rfl⟩
def iv_L_take (pc : Nat) (i : Instr) (_ _ : Nat) : Bool := match i with
  | .invokevirtual _ => Nat.beq pc 4
  | _ => true
theorem ok_L_take : mOK M_L_take := ⟨mo_L_take, cpokL, codeOK_of (cs := k_L_take) (sw := w_L_take) rfl rfl (by decide +kernel), thrOK_no (cs := k_L_take) rfl (by decide +kernel), fun pc k np tg h => by rw [Nat.eq_of_beq_eq_true (allI_at (cs := k_L_take) (f := iv_L_take) (by decide +kernel) h)]; exact hnd_L_take, (fun h => nomatch h), fun _ => rfl, by decide +kernel, rtOK_of (cs := k_L_take) rfl (by decide +kernel)⟩
def k_L_ring : cdT := [(20, [(0, (.aload_n 2, 1, 0)), (1, (.iconst 0, 2, 0)), (2, (.aload_n 0, 3, 0)), (3, (.iload_n 1, 4, 0)), (4, (.invokevirtual 50, 7, 0)), (7, (.i2l, 8, 0)), (8, (.lastore, 9, 0)), (9, (.goto 9, 12, 18)), (12, (.astore_n 3, 13, 0)), (13, (.iconst 1, 14, 0)), (14, (.ireturn, 15, 0)), (15, (.astore_n 3, 16, 0)), (16, (.iconst 2, 17, 0)), (17, (.ireturn, 18, 0)), (18, (.iconst 0, 19, 0)), (19, (.ireturn, 20, 0))])]
def w_L_ring : swT := []
def M_L_ring : mT := (m_L_ring, lk2 k_L_ring, cpL, lkp w_L_ring, [(2, 1), (1, 2)], false)
theorem hnd_L_ring : hndOK M_L_ring 4 := by
  intro x v h
  have h := hsF_mem h
  have h : (x, v) ∈ ([(2, 1), (1, 2)] : List (Nat × Int32)) := h
  have h : (x = 2 ∧ v = 1) ∨ (x = 1 ∧ v = 2) := by simpa using h
  rcases h with ⟨rfl, rfl⟩ | ⟨rfl, rfl⟩
  · exact ⟨[], [⟨0, 9, 15, 18⟩], ⟨0, 9, 12, 27⟩, 3, (3 : Fin 4), 1, rfl, rfl, by decide, (List.mem_append_right _ (List.mem_of_getElem? (i := 574) (by decide +kernel))), (List.mem_append_right _ (List.mem_of_getElem? (i := 608) (by decide +kernel))), fa_nil, Or.inl ⟨by decide +kernel, rfl, by decide +kernel, ⟨_, _, rfl, _, rfl, rfl⟩⟩, by decide, rfl⟩
  · exact ⟨[⟨0, 9, 12, 27⟩], [], ⟨0, 9, 15, 18⟩, 3, (3 : Fin 4), 2, rfl, rfl, by decide, (List.mem_append_right _ (List.mem_of_getElem? (i := 509) (by decide +kernel))), (List.mem_append_right _ (List.mem_of_getElem? (i := 525) (by decide +kernel))), (fa_cons ⟨by decide, "java/lang/IndexOutOfBoundsException", (List.mem_append_right _ (List.mem_of_getElem? (i := 574) (by decide +kernel))), by decide +kernel⟩ fa_nil), Or.inl ⟨by decide +kernel, rfl, by decide +kernel, ⟨_, _, rfl, _, rfl, rfl⟩⟩, by decide, rfl⟩
def iv_L_ring (pc : Nat) (i : Instr) (_ _ : Nat) : Bool := match i with
  | .invokevirtual _ => Nat.beq pc 4
  | _ => true
theorem ok_L_ring : mOK M_L_ring := ⟨mo_L_ring, cpokL, codeOK_of (cs := k_L_ring) (sw := w_L_ring) rfl rfl (by decide +kernel), thrOK_no (cs := k_L_ring) rfl (by decide +kernel), fun pc k np tg h => by rw [Nat.eq_of_beq_eq_true (allI_at (cs := k_L_ring) (f := iv_L_ring) (by decide +kernel) h)]; exact hnd_L_ring, (fun h => nomatch h), fun _ => rfl, by decide +kernel, rtOK_of (cs := k_L_ring) rfl (by decide +kernel)⟩
def k_L_file : cdT := [(27, [(0, (.aload_n 3, 1, 0)), (1, (.iconst 0, 2, 0)), (2, (.aload_n 0, 3, 0)), (3, (.iload_n 1, 4, 0)), (4, (.iload_n 2, 5, 0)), (5, (.invokevirtual 53, 8, 0)), (8, (.i2l, 9, 0)), (9, (.lastore, 10, 0)), (10, (.goto 15, 13, 25)), (13, (.astore 4, 15, 0)), (15, (.iconst 1, 16, 0)), (16, (.ireturn, 17, 0)), (17, (.astore 4, 19, 0)), (19, (.iconst 2, 20, 0)), (20, (.ireturn, 21, 0)), (21, (.astore 4, 23, 0)), (23, (.iconst 3, 24, 0)), (24, (.ireturn, 25, 0)), (25, (.iconst 0, 26, 0)), (26, (.ireturn, 27, 0))])]
def w_L_file : swT := []
def M_L_file : mT := (m_L_file, lk2 k_L_file, cpL, lkp w_L_file, [(2, 1), (0, 2), (1, 3)], false)
theorem hnd_L_file : hndOK M_L_file 5 := by
  intro x v h
  have h := hsF_mem h
  have h : (x, v) ∈ ([(2, 1), (0, 2), (1, 3)] : List (Nat × Int32)) := h
  have h : (x = 2 ∧ v = 1) ∨ (x = 0 ∧ v = 2) ∨ (x = 1 ∧ v = 3) := by simpa using h
  rcases h with ⟨rfl, rfl⟩ | ⟨rfl, rfl⟩ | ⟨rfl, rfl⟩
  · exact ⟨[], [⟨0, 10, 17, 13⟩, ⟨0, 10, 21, 18⟩], ⟨0, 10, 13, 27⟩, 4, (0 : Fin 4), 1, rfl, rfl, by decide, (List.mem_append_right _ (List.mem_of_getElem? (i := 574) (by decide +kernel))), (List.mem_append_right _ (List.mem_of_getElem? (i := 608) (by decide +kernel))), fa_nil, Or.inr ⟨by decide +kernel, by decide +kernel, ⟨_, _, rfl, _, rfl, rfl⟩⟩, by decide, rfl⟩
  · exact ⟨[⟨0, 10, 13, 27⟩], [⟨0, 10, 21, 18⟩], ⟨0, 10, 17, 13⟩, 4, (0 : Fin 4), 2, rfl, rfl, by decide, (List.mem_append_right _ (List.mem_of_getElem? (i := 414) (by decide +kernel))), (List.mem_append_right _ (List.mem_of_getElem? (i := 424) (by decide +kernel))), (fa_cons ⟨by decide, "java/lang/IndexOutOfBoundsException", (List.mem_append_right _ (List.mem_of_getElem? (i := 574) (by decide +kernel))), by decide +kernel⟩ fa_nil), Or.inr ⟨by decide +kernel, by decide +kernel, ⟨_, _, rfl, _, rfl, rfl⟩⟩, by decide, rfl⟩
  · exact ⟨[⟨0, 10, 13, 27⟩, ⟨0, 10, 17, 13⟩], [], ⟨0, 10, 21, 18⟩, 4, (0 : Fin 4), 3, rfl, rfl, by decide, (List.mem_append_right _ (List.mem_of_getElem? (i := 509) (by decide +kernel))), (List.mem_append_right _ (List.mem_of_getElem? (i := 525) (by decide +kernel))), (fa_cons ⟨by decide, "java/lang/IndexOutOfBoundsException", (List.mem_append_right _ (List.mem_of_getElem? (i := 574) (by decide +kernel))), by decide +kernel⟩ (fa_cons ⟨by decide, "java/lang/IllegalArgumentException", (List.mem_append_right _ (List.mem_of_getElem? (i := 414) (by decide +kernel))), by decide +kernel⟩ fa_nil)), Or.inr ⟨by decide +kernel, by decide +kernel, ⟨_, _, rfl, _, rfl, rfl⟩⟩, by decide, rfl⟩
def iv_L_file (pc : Nat) (i : Instr) (_ _ : Nat) : Bool := match i with
  | .invokevirtual _ => Nat.beq pc 5
  | _ => true
theorem ok_L_file : mOK M_L_file := ⟨mo_L_file, cpokL, codeOK_of (cs := k_L_file) (sw := w_L_file) rfl rfl (by decide +kernel), thrOK_no (cs := k_L_file) rfl (by decide +kernel), fun pc k np tg h => by rw [Nat.eq_of_beq_eq_true (allI_at (cs := k_L_file) (f := iv_L_file) (by decide +kernel) h)]; exact hnd_L_file, (fun h => nomatch h), fun _ => rfl, by decide +kernel, rtOK_of (cs := k_L_file) rfl (by decide +kernel)⟩
def k_L_recast : cdT := [(20, [(0, (.aload_n 2, 1, 0)), (1, (.iconst 0, 2, 0)), (2, (.aload_n 0, 3, 0)), (3, (.iload_n 1, 4, 0)), (4, (.invokevirtual 56, 7, 0)), (7, (.i2l, 8, 0)), (8, (.lastore, 9, 0)), (9, (.goto 9, 12, 18)), (12, (.astore_n 3, 13, 0)), (13, (.iconst 1, 14, 0)), (14, (.ireturn, 15, 0)), (15, (.astore_n 3, 16, 0)), (16, (.iconst 2, 17, 0)), (17, (.ireturn, 18, 0)), (18, (.iconst 0, 19, 0)), (19, (.ireturn, 20, 0))])]
def w_L_recast : swT := []
def M_L_recast : mT := (m_L_recast, lk2 k_L_recast, cpL, lkp w_L_recast, [(2, 1), (1, 2)], false)
theorem hnd_L_recast : hndOK M_L_recast 4 := by
  intro x v h
  have h := hsF_mem h
  have h : (x, v) ∈ ([(2, 1), (1, 2)] : List (Nat × Int32)) := h
  have h : (x = 2 ∧ v = 1) ∨ (x = 1 ∧ v = 2) := by simpa using h
  rcases h with ⟨rfl, rfl⟩ | ⟨rfl, rfl⟩
  · exact ⟨[], [⟨0, 9, 15, 18⟩], ⟨0, 9, 12, 27⟩, 3, (3 : Fin 4), 1, rfl, rfl, by decide, (List.mem_append_right _ (List.mem_of_getElem? (i := 574) (by decide +kernel))), (List.mem_append_right _ (List.mem_of_getElem? (i := 608) (by decide +kernel))), fa_nil, Or.inl ⟨by decide +kernel, rfl, by decide +kernel, ⟨_, _, rfl, _, rfl, rfl⟩⟩, by decide, rfl⟩
  · exact ⟨[⟨0, 9, 12, 27⟩], [], ⟨0, 9, 15, 18⟩, 3, (3 : Fin 4), 2, rfl, rfl, by decide, (List.mem_append_right _ (List.mem_of_getElem? (i := 509) (by decide +kernel))), (List.mem_append_right _ (List.mem_of_getElem? (i := 525) (by decide +kernel))), (fa_cons ⟨by decide, "java/lang/IndexOutOfBoundsException", (List.mem_append_right _ (List.mem_of_getElem? (i := 574) (by decide +kernel))), by decide +kernel⟩ fa_nil), Or.inl ⟨by decide +kernel, rfl, by decide +kernel, ⟨_, _, rfl, _, rfl, rfl⟩⟩, by decide, rfl⟩
def iv_L_recast (pc : Nat) (i : Instr) (_ _ : Nat) : Bool := match i with
  | .invokevirtual _ => Nat.beq pc 4
  | _ => true
theorem ok_L_recast : mOK M_L_recast := ⟨mo_L_recast, cpokL, codeOK_of (cs := k_L_recast) (sw := w_L_recast) rfl rfl (by decide +kernel), thrOK_no (cs := k_L_recast) rfl (by decide +kernel), fun pc k np tg h => by rw [Nat.eq_of_beq_eq_true (allI_at (cs := k_L_recast) (f := iv_L_recast) (by decide +kernel) h)]; exact hnd_L_recast, (fun h => nomatch h), fun _ => rfl, by decide +kernel, rtOK_of (cs := k_L_recast) rfl (by decide +kernel)⟩
def k_L_bellOf : cdT := [(23, [(0, (.aload_n 3, 1, 0)), (1, (.iconst 0, 2, 0)), (2, (.aload_n 0, 3, 0)), (3, (.iload_n 1, 4, 0)), (4, (.iload_n 2, 5, 0)), (5, (.invokevirtual 59, 8, 0)), (8, (.i2l, 9, 0)), (9, (.lastore, 10, 0)), (10, (.goto 11, 13, 21)), (13, (.astore 4, 15, 0)), (15, (.iconst 1, 16, 0)), (16, (.ireturn, 17, 0)), (17, (.astore 4, 19, 0)), (19, (.iconst 2, 20, 0)), (20, (.ireturn, 21, 0)), (21, (.iconst 0, 22, 0)), (22, (.ireturn, 23, 0))])]
def w_L_bellOf : swT := []
def M_L_bellOf : mT := (m_L_bellOf, lk2 k_L_bellOf, cpL, lkp w_L_bellOf, [(2, 1), (0, 2)], false)
theorem hnd_L_bellOf : hndOK M_L_bellOf 5 := by
  intro x v h
  have h := hsF_mem h
  have h : (x, v) ∈ ([(2, 1), (0, 2)] : List (Nat × Int32)) := h
  have h : (x = 2 ∧ v = 1) ∨ (x = 0 ∧ v = 2) := by simpa using h
  rcases h with ⟨rfl, rfl⟩ | ⟨rfl, rfl⟩
  · exact ⟨[], [⟨0, 10, 17, 13⟩], ⟨0, 10, 13, 27⟩, 4, (0 : Fin 4), 1, rfl, rfl, by decide, (List.mem_append_right _ (List.mem_of_getElem? (i := 574) (by decide +kernel))), (List.mem_append_right _ (List.mem_of_getElem? (i := 608) (by decide +kernel))), fa_nil, Or.inr ⟨by decide +kernel, by decide +kernel, ⟨_, _, rfl, _, rfl, rfl⟩⟩, by decide, rfl⟩
  · exact ⟨[⟨0, 10, 13, 27⟩], [], ⟨0, 10, 17, 13⟩, 4, (0 : Fin 4), 2, rfl, rfl, by decide, (List.mem_append_right _ (List.mem_of_getElem? (i := 414) (by decide +kernel))), (List.mem_append_right _ (List.mem_of_getElem? (i := 424) (by decide +kernel))), (fa_cons ⟨by decide, "java/lang/IndexOutOfBoundsException", (List.mem_append_right _ (List.mem_of_getElem? (i := 574) (by decide +kernel))), by decide +kernel⟩ fa_nil), Or.inr ⟨by decide +kernel, by decide +kernel, ⟨_, _, rfl, _, rfl, rfl⟩⟩, by decide, rfl⟩
def iv_L_bellOf (pc : Nat) (i : Instr) (_ _ : Nat) : Bool := match i with
  | .invokevirtual _ => Nat.beq pc 5
  | _ => true
theorem ok_L_bellOf : mOK M_L_bellOf := ⟨mo_L_bellOf, cpokL, codeOK_of (cs := k_L_bellOf) (sw := w_L_bellOf) rfl rfl (by decide +kernel), thrOK_no (cs := k_L_bellOf) rfl (by decide +kernel), fun pc k np tg h => by rw [Nat.eq_of_beq_eq_true (allI_at (cs := k_L_bellOf) (f := iv_L_bellOf) (by decide +kernel) h)]; exact hnd_L_bellOf, (fun h => nomatch h), fun _ => rfl, by decide +kernel, rtOK_of (cs := k_L_bellOf) rfl (by decide +kernel)⟩
def k_L_note : cdT := [(19, [(0, (.aload_n 3, 1, 0)), (1, (.iconst 0, 2, 0)), (2, (.aload_n 0, 3, 0)), (3, (.iload_n 1, 4, 0)), (4, (.iload_n 2, 5, 0)), (5, (.invokevirtual 62, 8, 0)), (8, (.i2l, 9, 0)), (9, (.lastore, 10, 0)), (10, (.goto 7, 13, 17)), (13, (.astore 4, 15, 0)), (15, (.iconst 1, 16, 0)), (16, (.ireturn, 17, 0)), (17, (.iconst 0, 18, 0)), (18, (.ireturn, 19, 0))])]
def w_L_note : swT := []
def M_L_note : mT := (m_L_note, lk2 k_L_note, cpL, lkp w_L_note, [(2, 1)], false)
theorem hnd_L_note : hndOK M_L_note 5 := by
  intro x v h
  have h := hsF_mem h
  have h : (x, v) ∈ ([(2, 1)] : List (Nat × Int32)) := h
  have h : (x = 2 ∧ v = 1) := by simpa using h
  rcases h with ⟨rfl, rfl⟩
  · exact ⟨[], [], ⟨0, 10, 13, 27⟩, 4, (0 : Fin 4), 1, rfl, rfl, by decide, (List.mem_append_right _ (List.mem_of_getElem? (i := 574) (by decide +kernel))), (List.mem_append_right _ (List.mem_of_getElem? (i := 608) (by decide +kernel))), fa_nil, Or.inr ⟨by decide +kernel, by decide +kernel, ⟨_, _, rfl, _, rfl, rfl⟩⟩, by decide, rfl⟩
def iv_L_note (pc : Nat) (i : Instr) (_ _ : Nat) : Bool := match i with
  | .invokevirtual _ => Nat.beq pc 5
  | _ => true
theorem ok_L_note : mOK M_L_note := ⟨mo_L_note, cpokL, codeOK_of (cs := k_L_note) (sw := w_L_note) rfl rfl (by decide +kernel), thrOK_no (cs := k_L_note) rfl (by decide +kernel), fun pc k np tg h => by rw [Nat.eq_of_beq_eq_true (allI_at (cs := k_L_note) (f := iv_L_note) (by decide +kernel) h)]; exact hnd_L_note, (fun h => nomatch h), fun _ => rfl, by decide +kernel, rtOK_of (cs := k_L_note) rfl (by decide +kernel)⟩
def k_L_wouldCrack : cdT := [(23, [(0, (.aload_n 3, 1, 0)), (1, (.iconst 0, 2, 0)), (2, (.aload_n 0, 3, 0)), (3, (.iload_n 1, 4, 0)), (4, (.iload_n 2, 5, 0)), (5, (.invokevirtual 66, 8, 0)), (8, (.i2l, 9, 0)), (9, (.lastore, 10, 0)), (10, (.goto 11, 13, 21)), (13, (.astore 4, 15, 0)), (15, (.iconst 1, 16, 0)), (16, (.ireturn, 17, 0)), (17, (.astore 4, 19, 0)), (19, (.iconst 2, 20, 0)), (20, (.ireturn, 21, 0)), (21, (.iconst 0, 22, 0)), (22, (.ireturn, 23, 0))])]
def w_L_wouldCrack : swT := []
def M_L_wouldCrack : mT := (m_L_wouldCrack, lk2 k_L_wouldCrack, cpL, lkp w_L_wouldCrack, [(2, 1), (0, 2)], false)
theorem hnd_L_wouldCrack : hndOK M_L_wouldCrack 5 := by
  intro x v h
  have h := hsF_mem h
  have h : (x, v) ∈ ([(2, 1), (0, 2)] : List (Nat × Int32)) := h
  have h : (x = 2 ∧ v = 1) ∨ (x = 0 ∧ v = 2) := by simpa using h
  rcases h with ⟨rfl, rfl⟩ | ⟨rfl, rfl⟩
  · exact ⟨[], [⟨0, 10, 17, 13⟩], ⟨0, 10, 13, 27⟩, 4, (0 : Fin 4), 1, rfl, rfl, by decide, (List.mem_append_right _ (List.mem_of_getElem? (i := 574) (by decide +kernel))), (List.mem_append_right _ (List.mem_of_getElem? (i := 608) (by decide +kernel))), fa_nil, Or.inr ⟨by decide +kernel, by decide +kernel, ⟨_, _, rfl, _, rfl, rfl⟩⟩, by decide, rfl⟩
  · exact ⟨[⟨0, 10, 13, 27⟩], [], ⟨0, 10, 17, 13⟩, 4, (0 : Fin 4), 2, rfl, rfl, by decide, (List.mem_append_right _ (List.mem_of_getElem? (i := 414) (by decide +kernel))), (List.mem_append_right _ (List.mem_of_getElem? (i := 424) (by decide +kernel))), (fa_cons ⟨by decide, "java/lang/IndexOutOfBoundsException", (List.mem_append_right _ (List.mem_of_getElem? (i := 574) (by decide +kernel))), by decide +kernel⟩ fa_nil), Or.inr ⟨by decide +kernel, by decide +kernel, ⟨_, _, rfl, _, rfl, rfl⟩⟩, by decide, rfl⟩
def iv_L_wouldCrack (pc : Nat) (i : Instr) (_ _ : Nat) : Bool := match i with
  | .invokevirtual _ => Nat.beq pc 5
  | _ => true
theorem ok_L_wouldCrack : mOK M_L_wouldCrack := ⟨mo_L_wouldCrack, cpokL, codeOK_of (cs := k_L_wouldCrack) (sw := w_L_wouldCrack) rfl rfl (by decide +kernel), thrOK_no (cs := k_L_wouldCrack) rfl (by decide +kernel), fun pc k np tg h => by rw [Nat.eq_of_beq_eq_true (allI_at (cs := k_L_wouldCrack) (f := iv_L_wouldCrack) (by decide +kernel) h)]; exact hnd_L_wouldCrack, (fun h => nomatch h), fun _ => rfl, by decide +kernel, rtOK_of (cs := k_L_wouldCrack) rfl (by decide +kernel)⟩
def k_L_coldIn : cdT := [(17, [(0, (.aload_n 2, 1, 0)), (1, (.iconst 0, 2, 0)), (2, (.aload_n 0, 3, 0)), (3, (.iload_n 1, 4, 0)), (4, (.invokevirtual 69, 7, 0)), (7, (.i2l, 8, 0)), (8, (.lastore, 9, 0)), (9, (.goto 6, 12, 15)), (12, (.astore_n 3, 13, 0)), (13, (.iconst 1, 14, 0)), (14, (.ireturn, 15, 0)), (15, (.iconst 0, 16, 0)), (16, (.ireturn, 17, 0))])]
def w_L_coldIn : swT := []
def M_L_coldIn : mT := (m_L_coldIn, lk2 k_L_coldIn, cpL, lkp w_L_coldIn, [(2, 1)], false)
theorem hnd_L_coldIn : hndOK M_L_coldIn 4 := by
  intro x v h
  have h := hsF_mem h
  have h : (x, v) ∈ ([(2, 1)] : List (Nat × Int32)) := h
  have h : (x = 2 ∧ v = 1) := by simpa using h
  rcases h with ⟨rfl, rfl⟩
  · exact ⟨[], [], ⟨0, 9, 12, 27⟩, 3, (3 : Fin 4), 1, rfl, rfl, by decide, (List.mem_append_right _ (List.mem_of_getElem? (i := 574) (by decide +kernel))), (List.mem_append_right _ (List.mem_of_getElem? (i := 608) (by decide +kernel))), fa_nil, Or.inl ⟨by decide +kernel, rfl, by decide +kernel, ⟨_, _, rfl, _, rfl, rfl⟩⟩, by decide, rfl⟩
def iv_L_coldIn (pc : Nat) (i : Instr) (_ _ : Nat) : Bool := match i with
  | .invokevirtual _ => Nat.beq pc 4
  | _ => true
theorem ok_L_coldIn : mOK M_L_coldIn := ⟨mo_L_coldIn, cpokL, codeOK_of (cs := k_L_coldIn) (sw := w_L_coldIn) rfl rfl (by decide +kernel), thrOK_no (cs := k_L_coldIn) rfl (by decide +kernel), fun pc k np tg h => by rw [Nat.eq_of_beq_eq_true (allI_at (cs := k_L_coldIn) (f := iv_L_coldIn) (by decide +kernel) h)]; exact hnd_L_coldIn, (fun h => nomatch h), fun _ => rfl, by decide +kernel, rtOK_of (cs := k_L_coldIn) rfl (by decide +kernel)⟩
def k_L_peal : cdT := [(19, [(0, (.aload_n 3, 1, 0)), (1, (.iconst 0, 2, 0)), (2, (.aload_n 0, 3, 0)), (3, (.iload_n 1, 4, 0)), (4, (.iload_n 2, 5, 0)), (5, (.invokevirtual 72, 8, 0)), (8, (.i2l, 9, 0)), (9, (.lastore, 10, 0)), (10, (.goto 7, 13, 17)), (13, (.astore 4, 15, 0)), (15, (.iconst 1, 16, 0)), (16, (.ireturn, 17, 0)), (17, (.iconst 0, 18, 0)), (18, (.ireturn, 19, 0))])]
def w_L_peal : swT := []
def M_L_peal : mT := (m_L_peal, lk2 k_L_peal, cpL, lkp w_L_peal, [(0, 1)], false)
theorem hnd_L_peal : hndOK M_L_peal 5 := by
  intro x v h
  have h := hsF_mem h
  have h : (x, v) ∈ ([(0, 1)] : List (Nat × Int32)) := h
  have h : (x = 0 ∧ v = 1) := by simpa using h
  rcases h with ⟨rfl, rfl⟩
  · exact ⟨[], [], ⟨0, 10, 13, 13⟩, 4, (0 : Fin 4), 1, rfl, rfl, by decide, (List.mem_append_right _ (List.mem_of_getElem? (i := 414) (by decide +kernel))), (List.mem_append_right _ (List.mem_of_getElem? (i := 424) (by decide +kernel))), fa_nil, Or.inr ⟨by decide +kernel, by decide +kernel, ⟨_, _, rfl, _, rfl, rfl⟩⟩, by decide, rfl⟩
def iv_L_peal (pc : Nat) (i : Instr) (_ _ : Nat) : Bool := match i with
  | .invokevirtual _ => Nat.beq pc 5
  | _ => true
theorem ok_L_peal : mOK M_L_peal := ⟨mo_L_peal, cpokL, codeOK_of (cs := k_L_peal) (sw := w_L_peal) rfl rfl (by decide +kernel), thrOK_no (cs := k_L_peal) rfl (by decide +kernel), fun pc k np tg h => by rw [Nat.eq_of_beq_eq_true (allI_at (cs := k_L_peal) (f := iv_L_peal) (by decide +kernel) h)]; exact hnd_L_peal, (fun h => nomatch h), fun _ => rfl, by decide +kernel, rtOK_of (cs := k_L_peal) rfl (by decide +kernel)⟩
def k_L_longest : cdT := [(16, [(0, (.aload_n 1, 1, 0)), (1, (.iconst 0, 2, 0)), (2, (.aload_n 0, 3, 0)), (3, (.invokevirtual 75, 6, 0)), (6, (.i2l, 7, 0)), (7, (.lastore, 8, 0)), (8, (.goto 6, 11, 14)), (11, (.astore_n 2, 12, 0)), (12, (.iconst 1, 13, 0)), (13, (.ireturn, 14, 0)), (14, (.iconst 0, 15, 0)), (15, (.ireturn, 16, 0))])]
def w_L_longest : swT := []
def M_L_longest : mT := (m_L_longest, lk2 k_L_longest, cpL, lkp w_L_longest, [(3, 1)], false)
theorem hnd_L_longest : hndOK M_L_longest 3 := by
  intro x v h
  have h := hsF_mem h
  have h : (x, v) ∈ ([(3, 1)] : List (Nat × Int32)) := h
  have h : (x = 3 ∧ v = 1) := by simpa using h
  rcases h with ⟨rfl, rfl⟩
  · exact ⟨[], [], ⟨0, 8, 11, 79⟩, 2, (2 : Fin 4), 1, rfl, rfl, by decide, (List.mem_append_right _ (List.mem_of_getElem? (i := 863) (by decide +kernel))), (List.mem_append_right _ (List.mem_of_getElem? (i := 870) (by decide +kernel))), fa_nil, Or.inl ⟨by decide +kernel, rfl, by decide +kernel, ⟨_, _, rfl, _, rfl, rfl⟩⟩, by decide, rfl⟩
def iv_L_longest (pc : Nat) (i : Instr) (_ _ : Nat) : Bool := match i with
  | .invokevirtual _ => Nat.beq pc 3
  | _ => true
theorem ok_L_longest : mOK M_L_longest := ⟨mo_L_longest, cpokL, codeOK_of (cs := k_L_longest) (sw := w_L_longest) rfl rfl (by decide +kernel), thrOK_no (cs := k_L_longest) rfl (by decide +kernel), fun pc k np tg h => by rw [Nat.eq_of_beq_eq_true (allI_at (cs := k_L_longest) (f := iv_L_longest) (by decide +kernel) h)]; exact hnd_L_longest, (fun h => nomatch h), fun _ => rfl, by decide +kernel, rtOK_of (cs := k_L_longest) rfl (by decide +kernel)⟩
def k_L_ranked : cdT := [(17, [(0, (.aload_n 2, 1, 0)), (1, (.iconst 0, 2, 0)), (2, (.aload_n 0, 3, 0)), (3, (.iload_n 1, 4, 0)), (4, (.invokevirtual 81, 7, 0)), (7, (.i2l, 8, 0)), (8, (.lastore, 9, 0)), (9, (.goto 6, 12, 15)), (12, (.astore_n 3, 13, 0)), (13, (.iconst 1, 14, 0)), (14, (.ireturn, 15, 0)), (15, (.iconst 0, 16, 0)), (16, (.ireturn, 17, 0))])]
def w_L_ranked : swT := []
def M_L_ranked : mT := (m_L_ranked, lk2 k_L_ranked, cpL, lkp w_L_ranked, [(3, 1)], false)
theorem hnd_L_ranked : hndOK M_L_ranked 4 := by
  intro x v h
  have h := hsF_mem h
  have h : (x, v) ∈ ([(3, 1)] : List (Nat × Int32)) := h
  have h : (x = 3 ∧ v = 1) := by simpa using h
  rcases h with ⟨rfl, rfl⟩
  · exact ⟨[], [], ⟨0, 9, 12, 79⟩, 3, (3 : Fin 4), 1, rfl, rfl, by decide, (List.mem_append_right _ (List.mem_of_getElem? (i := 863) (by decide +kernel))), (List.mem_append_right _ (List.mem_of_getElem? (i := 870) (by decide +kernel))), fa_nil, Or.inl ⟨by decide +kernel, rfl, by decide +kernel, ⟨_, _, rfl, _, rfl, rfl⟩⟩, by decide, rfl⟩
def iv_L_ranked (pc : Nat) (i : Instr) (_ _ : Nat) : Bool := match i with
  | .invokevirtual _ => Nat.beq pc 4
  | _ => true
theorem ok_L_ranked : mOK M_L_ranked := ⟨mo_L_ranked, cpokL, codeOK_of (cs := k_L_ranked) (sw := w_L_ranked) rfl rfl (by decide +kernel), thrOK_no (cs := k_L_ranked) rfl (by decide +kernel), fun pc k np tg h => by rw [Nat.eq_of_beq_eq_true (allI_at (cs := k_L_ranked) (f := iv_L_ranked) (by decide +kernel) h)]; exact hnd_L_ranked, (fun h => nomatch h), fun _ => rfl, by decide +kernel, rtOK_of (cs := k_L_ranked) rfl (by decide +kernel)⟩
def k_L_first : cdT := [(16, [(0, (.aload_n 1, 1, 0)), (1, (.iconst 0, 2, 0)), (2, (.aload_n 0, 3, 0)), (3, (.invokevirtual 84, 6, 0)), (6, (.i2l, 7, 0)), (7, (.lastore, 8, 0)), (8, (.goto 6, 11, 14)), (11, (.astore_n 2, 12, 0)), (12, (.iconst 1, 13, 0)), (13, (.ireturn, 14, 0)), (14, (.iconst 0, 15, 0)), (15, (.ireturn, 16, 0))])]
def w_L_first : swT := []
def M_L_first : mT := (m_L_first, lk2 k_L_first, cpL, lkp w_L_first, [(3, 1)], false)
theorem hnd_L_first : hndOK M_L_first 3 := by
  intro x v h
  have h := hsF_mem h
  have h : (x, v) ∈ ([(3, 1)] : List (Nat × Int32)) := h
  have h : (x = 3 ∧ v = 1) := by simpa using h
  rcases h with ⟨rfl, rfl⟩
  · exact ⟨[], [], ⟨0, 8, 11, 79⟩, 2, (2 : Fin 4), 1, rfl, rfl, by decide, (List.mem_append_right _ (List.mem_of_getElem? (i := 863) (by decide +kernel))), (List.mem_append_right _ (List.mem_of_getElem? (i := 870) (by decide +kernel))), fa_nil, Or.inl ⟨by decide +kernel, rfl, by decide +kernel, ⟨_, _, rfl, _, rfl, rfl⟩⟩, by decide, rfl⟩
def iv_L_first (pc : Nat) (i : Instr) (_ _ : Nat) : Bool := match i with
  | .invokevirtual _ => Nat.beq pc 3
  | _ => true
theorem ok_L_first : mOK M_L_first := ⟨mo_L_first, cpokL, codeOK_of (cs := k_L_first) (sw := w_L_first) rfl rfl (by decide +kernel), thrOK_no (cs := k_L_first) rfl (by decide +kernel), fun pc k np tg h => by rw [Nat.eq_of_beq_eq_true (allI_at (cs := k_L_first) (f := iv_L_first) (by decide +kernel) h)]; exact hnd_L_first, (fun h => nomatch h), fun _ => rfl, by decide +kernel, rtOK_of (cs := k_L_first) rfl (by decide +kernel)⟩
def k_L_line : cdT := [(17, [(0, (.aload_n 2, 1, 0)), (1, (.iconst 0, 2, 0)), (2, (.aload_n 0, 3, 0)), (3, (.iload_n 1, 4, 0)), (4, (.invokevirtual 87, 7, 0)), (7, (.i2l, 8, 0)), (8, (.lastore, 9, 0)), (9, (.goto 6, 12, 15)), (12, (.astore_n 3, 13, 0)), (13, (.iconst 1, 14, 0)), (14, (.ireturn, 15, 0)), (15, (.iconst 0, 16, 0)), (16, (.ireturn, 17, 0))])]
def w_L_line : swT := []
def M_L_line : mT := (m_L_line, lk2 k_L_line, cpL, lkp w_L_line, [(2, 1)], false)
theorem hnd_L_line : hndOK M_L_line 4 := by
  intro x v h
  have h := hsF_mem h
  have h : (x, v) ∈ ([(2, 1)] : List (Nat × Int32)) := h
  have h : (x = 2 ∧ v = 1) := by simpa using h
  rcases h with ⟨rfl, rfl⟩
  · exact ⟨[], [], ⟨0, 9, 12, 27⟩, 3, (3 : Fin 4), 1, rfl, rfl, by decide, (List.mem_append_right _ (List.mem_of_getElem? (i := 574) (by decide +kernel))), (List.mem_append_right _ (List.mem_of_getElem? (i := 608) (by decide +kernel))), fa_nil, Or.inl ⟨by decide +kernel, rfl, by decide +kernel, ⟨_, _, rfl, _, rfl, rfl⟩⟩, by decide, rfl⟩
def iv_L_line (pc : Nat) (i : Instr) (_ _ : Nat) : Bool := match i with
  | .invokevirtual _ => Nat.beq pc 4
  | _ => true
theorem ok_L_line : mOK M_L_line := ⟨mo_L_line, cpokL, codeOK_of (cs := k_L_line) (sw := w_L_line) rfl rfl (by decide +kernel), thrOK_no (cs := k_L_line) rfl (by decide +kernel), fun pc k np tg h => by rw [Nat.eq_of_beq_eq_true (allI_at (cs := k_L_line) (f := iv_L_line) (by decide +kernel) h)]; exact hnd_L_line, (fun h => nomatch h), fun _ => rfl, by decide +kernel, rtOK_of (cs := k_L_line) rfl (by decide +kernel)⟩
def k_L_rackLine : cdT := [(17, [(0, (.aload_n 2, 1, 0)), (1, (.iconst 0, 2, 0)), (2, (.aload_n 0, 3, 0)), (3, (.iload_n 1, 4, 0)), (4, (.invokevirtual 90, 7, 0)), (7, (.i2l, 8, 0)), (8, (.lastore, 9, 0)), (9, (.goto 6, 12, 15)), (12, (.astore_n 3, 13, 0)), (13, (.iconst 1, 14, 0)), (14, (.ireturn, 15, 0)), (15, (.iconst 0, 16, 0)), (16, (.ireturn, 17, 0))])]
def w_L_rackLine : swT := []
def M_L_rackLine : mT := (m_L_rackLine, lk2 k_L_rackLine, cpL, lkp w_L_rackLine, [(2, 1)], false)
theorem hnd_L_rackLine : hndOK M_L_rackLine 4 := by
  intro x v h
  have h := hsF_mem h
  have h : (x, v) ∈ ([(2, 1)] : List (Nat × Int32)) := h
  have h : (x = 2 ∧ v = 1) := by simpa using h
  rcases h with ⟨rfl, rfl⟩
  · exact ⟨[], [], ⟨0, 9, 12, 27⟩, 3, (3 : Fin 4), 1, rfl, rfl, by decide, (List.mem_append_right _ (List.mem_of_getElem? (i := 574) (by decide +kernel))), (List.mem_append_right _ (List.mem_of_getElem? (i := 608) (by decide +kernel))), fa_nil, Or.inl ⟨by decide +kernel, rfl, by decide +kernel, ⟨_, _, rfl, _, rfl, rfl⟩⟩, by decide, rfl⟩
def iv_L_rackLine (pc : Nat) (i : Instr) (_ _ : Nat) : Bool := match i with
  | .invokevirtual _ => Nat.beq pc 4
  | _ => true
theorem ok_L_rackLine : mOK M_L_rackLine := ⟨mo_L_rackLine, cpokL, codeOK_of (cs := k_L_rackLine) (sw := w_L_rackLine) rfl rfl (by decide +kernel), thrOK_no (cs := k_L_rackLine) rfl (by decide +kernel), fun pc k np tg h => by rw [Nat.eq_of_beq_eq_true (allI_at (cs := k_L_rackLine) (f := iv_L_rackLine) (by decide +kernel) h)]; exact hnd_L_rackLine, (fun h => nomatch h), fun _ => rfl, by decide +kernel, rtOK_of (cs := k_L_rackLine) rfl (by decide +kernel)⟩
def k_L_character : cdT := [(17, [(0, (.aload_n 2, 1, 0)), (1, (.iconst 0, 2, 0)), (2, (.aload_n 0, 3, 0)), (3, (.iload_n 1, 4, 0)), (4, (.invokevirtual 93, 7, 0)), (7, (.i2l, 8, 0)), (8, (.lastore, 9, 0)), (9, (.goto 6, 12, 15)), (12, (.astore_n 3, 13, 0)), (13, (.iconst 1, 14, 0)), (14, (.ireturn, 15, 0)), (15, (.iconst 0, 16, 0)), (16, (.ireturn, 17, 0))])]
def w_L_character : swT := []
def M_L_character : mT := (m_L_character, lk2 k_L_character, cpL, lkp w_L_character, [(2, 1)], false)
theorem hnd_L_character : hndOK M_L_character 4 := by
  intro x v h
  have h := hsF_mem h
  have h : (x, v) ∈ ([(2, 1)] : List (Nat × Int32)) := h
  have h : (x = 2 ∧ v = 1) := by simpa using h
  rcases h with ⟨rfl, rfl⟩
  · exact ⟨[], [], ⟨0, 9, 12, 27⟩, 3, (3 : Fin 4), 1, rfl, rfl, by decide, (List.mem_append_right _ (List.mem_of_getElem? (i := 574) (by decide +kernel))), (List.mem_append_right _ (List.mem_of_getElem? (i := 608) (by decide +kernel))), fa_nil, Or.inl ⟨by decide +kernel, rfl, by decide +kernel, ⟨_, _, rfl, _, rfl, rfl⟩⟩, by decide, rfl⟩
def iv_L_character (pc : Nat) (i : Instr) (_ _ : Nat) : Bool := match i with
  | .invokevirtual _ => Nat.beq pc 4
  | _ => true
theorem ok_L_character : mOK M_L_character := ⟨mo_L_character, cpokL, codeOK_of (cs := k_L_character) (sw := w_L_character) rfl rfl (by decide +kernel), thrOK_no (cs := k_L_character) rfl (by decide +kernel), fun pc k np tg h => by rw [Nat.eq_of_beq_eq_true (allI_at (cs := k_L_character) (f := iv_L_character) (by decide +kernel) h)]; exact hnd_L_character, (fun h => nomatch h), fun _ => rfl, by decide +kernel, rtOK_of (cs := k_L_character) rfl (by decide +kernel)⟩
def k_L_append : cdT := [(17, [(0, (.aload_n 2, 1, 0)), (1, (.iconst 0, 2, 0)), (2, (.aload_n 0, 3, 0)), (3, (.iload_n 1, 4, 0)), (4, (.invokevirtual 97, 7, 0)), (7, (.i2l, 8, 0)), (8, (.lastore, 9, 0)), (9, (.goto 6, 12, 15)), (12, (.astore_n 3, 13, 0)), (13, (.iconst 1, 14, 0)), (14, (.ireturn, 15, 0)), (15, (.iconst 0, 16, 0)), (16, (.ireturn, 17, 0))])]
def w_L_append : swT := []
def M_L_append : mT := (m_L_append, lk2 k_L_append, cpL, lkp w_L_append, [(4, 1)], false)
theorem hnd_L_append : hndOK M_L_append 4 := by
  intro x v h
  have h := hsF_mem h
  have h : (x, v) ∈ ([(4, 1)] : List (Nat × Int32)) := h
  have h : (x = 4 ∧ v = 1) := by simpa using h
  rcases h with ⟨rfl, rfl⟩
  · exact ⟨[], [], ⟨0, 9, 12, 101⟩, 3, (3 : Fin 4), 1, rfl, rfl, by decide, (List.mem_append_right _ (List.mem_of_getElem? (i := 1238) (by decide +kernel))), (List.mem_append_right _ (List.mem_of_getElem? (i := 1249) (by decide +kernel))), fa_nil, Or.inl ⟨by decide +kernel, rfl, by decide +kernel, ⟨_, _, rfl, _, rfl, rfl⟩⟩, by decide, rfl⟩
def iv_L_append (pc : Nat) (i : Instr) (_ _ : Nat) : Bool := match i with
  | .invokevirtual _ => Nat.beq pc 4
  | _ => true
theorem ok_L_append : mOK M_L_append := ⟨mo_L_append, cpokL, codeOK_of (cs := k_L_append) (sw := w_L_append) rfl rfl (by decide +kernel), thrOK_no (cs := k_L_append) rfl (by decide +kernel), fun pc k np tg h => by rw [Nat.eq_of_beq_eq_true (allI_at (cs := k_L_append) (f := iv_L_append) (by decide +kernel) h)]; exact hnd_L_append, (fun h => nomatch h), fun _ => rfl, by decide +kernel, rtOK_of (cs := k_L_append) rfl (by decide +kernel)⟩
def k_L_run : cdT := [(19, [(0, (.aload_n 1, 1, 0)), (1, (.iconst 0, 2, 0)), (2, (.aload_n 0, 3, 0)), (3, (.invokevirtual 103, 6, 0)), (6, (.i2l, 7, 0)), (7, (.lastore, 8, 0)), (8, (.goto 9, 11, 17)), (11, (.astore_n 2, 12, 0)), (12, (.iconst 1, 13, 0)), (13, (.ireturn, 14, 0)), (14, (.astore_n 2, 15, 0)), (15, (.iconst 2, 16, 0)), (16, (.ireturn, 17, 0)), (17, (.iconst 0, 18, 0)), (18, (.ireturn, 19, 0))])]
def w_L_run : swT := []
def M_L_run : mT := (m_L_run, lk2 k_L_run, cpL, lkp w_L_run, [(0, 1), (1, 2)], false)
theorem hnd_L_run : hndOK M_L_run 3 := by
  intro x v h
  have h := hsF_mem h
  have h : (x, v) ∈ ([(0, 1), (1, 2)] : List (Nat × Int32)) := h
  have h : (x = 0 ∧ v = 1) ∨ (x = 1 ∧ v = 2) := by simpa using h
  rcases h with ⟨rfl, rfl⟩ | ⟨rfl, rfl⟩
  · exact ⟨[], [⟨0, 8, 14, 18⟩], ⟨0, 8, 11, 13⟩, 2, (2 : Fin 4), 1, rfl, rfl, by decide, (List.mem_append_right _ (List.mem_of_getElem? (i := 414) (by decide +kernel))), (List.mem_append_right _ (List.mem_of_getElem? (i := 424) (by decide +kernel))), fa_nil, Or.inl ⟨by decide +kernel, rfl, by decide +kernel, ⟨_, _, rfl, _, rfl, rfl⟩⟩, by decide, rfl⟩
  · exact ⟨[⟨0, 8, 11, 13⟩], [], ⟨0, 8, 14, 18⟩, 2, (2 : Fin 4), 2, rfl, rfl, by decide, (List.mem_append_right _ (List.mem_of_getElem? (i := 509) (by decide +kernel))), (List.mem_append_right _ (List.mem_of_getElem? (i := 525) (by decide +kernel))), (fa_cons ⟨by decide, "java/lang/IllegalArgumentException", (List.mem_append_right _ (List.mem_of_getElem? (i := 414) (by decide +kernel))), by decide +kernel⟩ fa_nil), Or.inl ⟨by decide +kernel, rfl, by decide +kernel, ⟨_, _, rfl, _, rfl, rfl⟩⟩, by decide, rfl⟩
def iv_L_run (pc : Nat) (i : Instr) (_ _ : Nat) : Bool := match i with
  | .invokevirtual _ => Nat.beq pc 3
  | _ => true
theorem ok_L_run : mOK M_L_run := ⟨mo_L_run, cpokL, codeOK_of (cs := k_L_run) (sw := w_L_run) rfl rfl (by decide +kernel), thrOK_no (cs := k_L_run) rfl (by decide +kernel), fun pc k np tg h => by rw [Nat.eq_of_beq_eq_true (allI_at (cs := k_L_run) (f := iv_L_run) (by decide +kernel) h)]; exact hnd_L_run, (fun h => nomatch h), fun _ => rfl, by decide +kernel, rtOK_of (cs := k_L_run) rfl (by decide +kernel)⟩
def k_L_refusal : cdT := [(17, [(0, (.aload_n 2, 1, 0)), (1, (.iconst 0, 2, 0)), (2, (.aload_n 0, 3, 0)), (3, (.iload_n 1, 4, 0)), (4, (.invokevirtual 106, 7, 0)), (7, (.i2l, 8, 0)), (8, (.lastore, 9, 0)), (9, (.goto 6, 12, 15)), (12, (.astore_n 3, 13, 0)), (13, (.iconst 1, 14, 0)), (14, (.ireturn, 15, 0)), (15, (.iconst 0, 16, 0)), (16, (.ireturn, 17, 0))])]
def w_L_refusal : swT := []
def M_L_refusal : mT := (m_L_refusal, lk2 k_L_refusal, cpL, lkp w_L_refusal, [(3, 1)], false)
theorem hnd_L_refusal : hndOK M_L_refusal 4 := by
  intro x v h
  have h := hsF_mem h
  have h : (x, v) ∈ ([(3, 1)] : List (Nat × Int32)) := h
  have h : (x = 3 ∧ v = 1) := by simpa using h
  rcases h with ⟨rfl, rfl⟩
  · exact ⟨[], [], ⟨0, 9, 12, 79⟩, 3, (3 : Fin 4), 1, rfl, rfl, by decide, (List.mem_append_right _ (List.mem_of_getElem? (i := 863) (by decide +kernel))), (List.mem_append_right _ (List.mem_of_getElem? (i := 870) (by decide +kernel))), fa_nil, Or.inl ⟨by decide +kernel, rfl, by decide +kernel, ⟨_, _, rfl, _, rfl, rfl⟩⟩, by decide, rfl⟩
def iv_L_refusal (pc : Nat) (i : Instr) (_ _ : Nat) : Bool := match i with
  | .invokevirtual _ => Nat.beq pc 4
  | _ => true
theorem ok_L_refusal : mOK M_L_refusal := ⟨mo_L_refusal, cpokL, codeOK_of (cs := k_L_refusal) (sw := w_L_refusal) rfl rfl (by decide +kernel), thrOK_no (cs := k_L_refusal) rfl (by decide +kernel), fun pc k np tg h => by rw [Nat.eq_of_beq_eq_true (allI_at (cs := k_L_refusal) (f := iv_L_refusal) (by decide +kernel) h)]; exact hnd_L_refusal, (fun h => nomatch h), fun _ => rfl, by decide +kernel, rtOK_of (cs := k_L_refusal) rfl (by decide +kernel)⟩
def k_L_account : cdT := [(17, [(0, (.aload_n 2, 1, 0)), (1, (.iconst 0, 2, 0)), (2, (.aload_n 0, 3, 0)), (3, (.iload_n 1, 4, 0)), (4, (.invokevirtual 110, 7, 0)), (7, (.i2l, 8, 0)), (8, (.lastore, 9, 0)), (9, (.goto 6, 12, 15)), (12, (.astore_n 3, 13, 0)), (13, (.iconst 1, 14, 0)), (14, (.ireturn, 15, 0)), (15, (.iconst 0, 16, 0)), (16, (.ireturn, 17, 0))])]
def w_L_account : swT := []
def M_L_account : mT := (m_L_account, lk2 k_L_account, cpL, lkp w_L_account, [(0, 1)], false)
theorem hnd_L_account : hndOK M_L_account 4 := by
  intro x v h
  have h := hsF_mem h
  have h : (x, v) ∈ ([(0, 1)] : List (Nat × Int32)) := h
  have h : (x = 0 ∧ v = 1) := by simpa using h
  rcases h with ⟨rfl, rfl⟩
  · exact ⟨[], [], ⟨0, 9, 12, 13⟩, 3, (3 : Fin 4), 1, rfl, rfl, by decide, (List.mem_append_right _ (List.mem_of_getElem? (i := 414) (by decide +kernel))), (List.mem_append_right _ (List.mem_of_getElem? (i := 424) (by decide +kernel))), fa_nil, Or.inl ⟨by decide +kernel, rfl, by decide +kernel, ⟨_, _, rfl, _, rfl, rfl⟩⟩, by decide, rfl⟩
def iv_L_account (pc : Nat) (i : Instr) (_ _ : Nat) : Bool := match i with
  | .invokevirtual _ => Nat.beq pc 4
  | _ => true
theorem ok_L_account : mOK M_L_account := ⟨mo_L_account, cpokL, codeOK_of (cs := k_L_account) (sw := w_L_account) rfl rfl (by decide +kernel), thrOK_no (cs := k_L_account) rfl (by decide +kernel), fun pc k np tg h => by rw [Nat.eq_of_beq_eq_true (allI_at (cs := k_L_account) (f := iv_L_account) (by decide +kernel) h)]; exact hnd_L_account, (fun h => nomatch h), fun _ => rfl, by decide +kernel, rtOK_of (cs := k_L_account) rfl (by decide +kernel)⟩
def k_L_meanNote : cdT := [(15, [(0, (.aload_n 1, 1, 0)), (1, (.iconst 0, 2, 0)), (2, (.aload_n 0, 3, 0)), (3, (.invokevirtual 113, 6, 0)), (6, (.dastore, 7, 0)), (7, (.goto 6, 10, 13)), (10, (.astore_n 2, 11, 0)), (11, (.iconst 1, 12, 0)), (12, (.ireturn, 13, 0)), (13, (.iconst 0, 14, 0)), (14, (.ireturn, 15, 0))])]
def w_L_meanNote : swT := []
def M_L_meanNote : mT := (m_L_meanNote, lk2 k_L_meanNote, cpL, lkp w_L_meanNote, [(5, 1)], false)
theorem hnd_L_meanNote : hndOK M_L_meanNote 3 := by
  intro x v h
  have h := hsF_mem h
  have h : (x, v) ∈ ([(5, 1)] : List (Nat × Int32)) := h
  have h : (x = 5 ∧ v = 1) := by simpa using h
  rcases h with ⟨rfl, rfl⟩
  · exact ⟨[], [], ⟨0, 7, 10, 117⟩, 2, (2 : Fin 4), 1, rfl, rfl, by decide, (List.mem_append_right _ (List.mem_of_getElem? (i := 1377) (by decide +kernel))), (List.mem_append_right _ (List.mem_of_getElem? (i := 1389) (by decide +kernel))), fa_nil, Or.inl ⟨by decide +kernel, rfl, by decide +kernel, ⟨_, _, rfl, _, rfl, rfl⟩⟩, by decide, rfl⟩
def iv_L_meanNote (pc : Nat) (i : Instr) (_ _ : Nat) : Bool := match i with
  | .invokevirtual _ => Nat.beq pc 3
  | _ => true
theorem ok_L_meanNote : mOK M_L_meanNote := ⟨mo_L_meanNote, cpokL, codeOK_of (cs := k_L_meanNote) (sw := w_L_meanNote) rfl rfl (by decide +kernel), thrOK_no (cs := k_L_meanNote) rfl (by decide +kernel), fun pc k np tg h => by rw [Nat.eq_of_beq_eq_true (allI_at (cs := k_L_meanNote) (f := iv_L_meanNote) (by decide +kernel) h)]; exact hnd_L_meanNote, (fun h => nomatch h), fun _ => rfl, by decide +kernel, rtOK_of (cs := k_L_meanNote) rfl (by decide +kernel)⟩
def k_L_soundShare : cdT := [(16, [(0, (.aload_n 1, 1, 0)), (1, (.iconst 0, 2, 0)), (2, (.aload_n 0, 3, 0)), (3, (.invokevirtual 119, 6, 0)), (6, (.f2d, 7, 0)), (7, (.dastore, 8, 0)), (8, (.goto 6, 11, 14)), (11, (.astore_n 2, 12, 0)), (12, (.iconst 1, 13, 0)), (13, (.ireturn, 14, 0)), (14, (.iconst 0, 15, 0)), (15, (.ireturn, 16, 0))])]
def w_L_soundShare : swT := []
def M_L_soundShare : mT := (m_L_soundShare, lk2 k_L_soundShare, cpL, lkp w_L_soundShare, [(5, 1)], false)
theorem hnd_L_soundShare : hndOK M_L_soundShare 3 := by
  intro x v h
  have h := hsF_mem h
  have h : (x, v) ∈ ([(5, 1)] : List (Nat × Int32)) := h
  have h : (x = 5 ∧ v = 1) := by simpa using h
  rcases h with ⟨rfl, rfl⟩
  · exact ⟨[], [], ⟨0, 8, 11, 117⟩, 2, (2 : Fin 4), 1, rfl, rfl, by decide, (List.mem_append_right _ (List.mem_of_getElem? (i := 1377) (by decide +kernel))), (List.mem_append_right _ (List.mem_of_getElem? (i := 1389) (by decide +kernel))), fa_nil, Or.inl ⟨by decide +kernel, rfl, by decide +kernel, ⟨_, _, rfl, _, rfl, rfl⟩⟩, by decide, rfl⟩
def iv_L_soundShare (pc : Nat) (i : Instr) (_ _ : Nat) : Bool := match i with
  | .invokevirtual _ => Nat.beq pc 3
  | _ => true
theorem ok_L_soundShare : mOK M_L_soundShare := ⟨mo_L_soundShare, cpokL, codeOK_of (cs := k_L_soundShare) (sw := w_L_soundShare) rfl rfl (by decide +kernel), thrOK_no (cs := k_L_soundShare) rfl (by decide +kernel), fun pc k np tg h => by rw [Nat.eq_of_beq_eq_true (allI_at (cs := k_L_soundShare) (f := iv_L_soundShare) (by decide +kernel) h)]; exact hnd_L_soundShare, (fun h => nomatch h), fun _ => rfl, by decide +kernel, rtOK_of (cs := k_L_soundShare) rfl (by decide +kernel)⟩
def k_L_undo : cdT := [(16, [(0, (.aload_n 1, 1, 0)), (1, (.iconst 0, 2, 0)), (2, (.aload_n 0, 3, 0)), (3, (.invokevirtual 123, 6, 0)), (6, (.i2l, 7, 0)), (7, (.lastore, 8, 0)), (8, (.goto 6, 11, 14)), (11, (.astore_n 2, 12, 0)), (12, (.iconst 1, 13, 0)), (13, (.ireturn, 14, 0)), (14, (.iconst 0, 15, 0)), (15, (.ireturn, 16, 0))])]
def w_L_undo : swT := []
def M_L_undo : mT := (m_L_undo, lk2 k_L_undo, cpL, lkp w_L_undo, [(4, 1)], false)
theorem hnd_L_undo : hndOK M_L_undo 3 := by
  intro x v h
  have h := hsF_mem h
  have h : (x, v) ∈ ([(4, 1)] : List (Nat × Int32)) := h
  have h : (x = 4 ∧ v = 1) := by simpa using h
  rcases h with ⟨rfl, rfl⟩
  · exact ⟨[], [], ⟨0, 8, 11, 101⟩, 2, (2 : Fin 4), 1, rfl, rfl, by decide, (List.mem_append_right _ (List.mem_of_getElem? (i := 1238) (by decide +kernel))), (List.mem_append_right _ (List.mem_of_getElem? (i := 1249) (by decide +kernel))), fa_nil, Or.inl ⟨by decide +kernel, rfl, by decide +kernel, ⟨_, _, rfl, _, rfl, rfl⟩⟩, by decide, rfl⟩
def iv_L_undo (pc : Nat) (i : Instr) (_ _ : Nat) : Bool := match i with
  | .invokevirtual _ => Nat.beq pc 3
  | _ => true
theorem ok_L_undo : mOK M_L_undo := ⟨mo_L_undo, cpokL, codeOK_of (cs := k_L_undo) (sw := w_L_undo) rfl rfl (by decide +kernel), thrOK_no (cs := k_L_undo) rfl (by decide +kernel), fun pc k np tg h => by rw [Nat.eq_of_beq_eq_true (allI_at (cs := k_L_undo) (f := iv_L_undo) (by decide +kernel) h)]; exact hnd_L_undo, (fun h => nomatch h), fun _ => rfl, by decide +kernel, rtOK_of (cs := k_L_undo) rfl (by decide +kernel)⟩
def k_L_restore : cdT := [(16, [(0, (.aload_n 1, 1, 0)), (1, (.iconst 0, 2, 0)), (2, (.aload_n 0, 3, 0)), (3, (.invokevirtual 126, 6, 0)), (6, (.i2l, 7, 0)), (7, (.lastore, 8, 0)), (8, (.goto 6, 11, 14)), (11, (.astore_n 2, 12, 0)), (12, (.iconst 1, 13, 0)), (13, (.ireturn, 14, 0)), (14, (.iconst 0, 15, 0)), (15, (.ireturn, 16, 0))])]
def w_L_restore : swT := []
def M_L_restore : mT := (m_L_restore, lk2 k_L_restore, cpL, lkp w_L_restore, [(4, 1)], false)
theorem hnd_L_restore : hndOK M_L_restore 3 := by
  intro x v h
  have h := hsF_mem h
  have h : (x, v) ∈ ([(4, 1)] : List (Nat × Int32)) := h
  have h : (x = 4 ∧ v = 1) := by simpa using h
  rcases h with ⟨rfl, rfl⟩
  · exact ⟨[], [], ⟨0, 8, 11, 101⟩, 2, (2 : Fin 4), 1, rfl, rfl, by decide, (List.mem_append_right _ (List.mem_of_getElem? (i := 1238) (by decide +kernel))), (List.mem_append_right _ (List.mem_of_getElem? (i := 1249) (by decide +kernel))), fa_nil, Or.inl ⟨by decide +kernel, rfl, by decide +kernel, ⟨_, _, rfl, _, rfl, rfl⟩⟩, by decide, rfl⟩
def iv_L_restore (pc : Nat) (i : Instr) (_ _ : Nat) : Bool := match i with
  | .invokevirtual _ => Nat.beq pc 3
  | _ => true
theorem ok_L_restore : mOK M_L_restore := ⟨mo_L_restore, cpokL, codeOK_of (cs := k_L_restore) (sw := w_L_restore) rfl rfl (by decide +kernel), thrOK_no (cs := k_L_restore) rfl (by decide +kernel), fun pc k np tg h => by rw [Nat.eq_of_beq_eq_true (allI_at (cs := k_L_restore) (f := iv_L_restore) (by decide +kernel) h)]; exact hnd_L_restore, (fun h => nomatch h), fun _ => rfl, by decide +kernel, rtOK_of (cs := k_L_restore) rfl (by decide +kernel)⟩
