/-! ===== the reference: run ===== -/
theorem sOrd_k {N N' : nT} {nm nr nb : Nat} {o : orT} (h : sOrd N nm nr nb o N') : N'.td = N.td ∧ N'.tm = N.tm ∧ N'.bf = N.bf ∧ N'.iW = N.iW ∧ N'.er = N.er ∧ N'.ln = N.ln ∧ N'.sv = N.sv ∧ N'.iS = N.iS ∧ N'.sn = N.sn ∧ N'.sm = N.sm ∧ (N.iW = nI 1 → N'.kp = N.kp ∧ N'.ch = N.ch) := by
  have h1 : N.iW = nI 1 → kpX N N.g = N.kp ∧ chX N = N.ch := fun e => by
    constructor
    · exact if_neg (by rw [e]; decide)
    · exact if_neg (by rw [e]; decide)
  have fin : ∀ X : nT, (X.td = N.td ∧ X.tm = N.tm ∧ X.bf = N.bf ∧ X.iW = N.iW ∧ X.er = N.er ∧ X.ln = N.ln ∧ X.sv = N.sv ∧ X.iS = N.iS ∧ X.sn = N.sn ∧ X.sm = N.sm ∧ (N.iW = nI 1 → X.kp = N.kp ∧ X.ch = N.ch)) → N' = X → N'.td = N.td ∧ N'.tm = N.tm ∧ N'.bf = N.bf ∧ N'.iW = N.iW ∧ N'.er = N.er ∧ N'.ln = N.ln ∧ N'.sv = N.sv ∧ N'.iS = N.iS ∧ N'.sn = N.sn ∧ N'.sm = N.sm ∧ (N.iW = nI 1 → N'.kp = N.kp ∧ N'.ch = N.ch) := fun X hX e => by rw [e]; exact hX
  have r1 : ∀ k, N' = N.s_co (nI k) → _ := fun k => fin _ ⟨rfl, rfl, rfl, rfl, rfl, rfl, rfl, rfl, rfl, rfl, fun _ => ⟨rfl, rfl⟩⟩
  have r2 : ∀ k x y, N' = N.ref (nI k) x y → _ := fun k x y => fin _ ⟨rfl, rfl, rfl, rfl, rfl, rfl, rfl, rfl, rfl, rfl, fun _ => ⟨rfl, rfl⟩⟩
  have r3 : ∀ f, N' = (N.kps N.g).s_g f → _ := fun f => fin _ ⟨rfl, rfl, rfl, rfl, rfl, rfl, rfl, rfl, rfl, rfl, h1⟩
  rcases h with ⟨-, h⟩ | ⟨-, h⟩ | ⟨-, h⟩ | ⟨-, h⟩ | ⟨-, h⟩ | ⟨-, h⟩ | ⟨-, h⟩ | ⟨-, h⟩
  · rcases h with ⟨-, h⟩ | ⟨-, h⟩
    · exact r1 _ h
    · exact r3 _ h
  · rcases h with ⟨-, h⟩ | ⟨-, -, h⟩ | ⟨-, -, h⟩
    · exact r1 _ h
    · exact r2 _ _ _ h
    · exact r3 _ h
  · rcases h with ⟨-, h⟩ | ⟨-, -, h⟩ | ⟨-, -, h⟩
    · exact r1 _ h
    · exact r2 _ _ _ h
    · exact r3 _ h
  · rcases h with ⟨-, h⟩ | ⟨-, -, h⟩ | ⟨-, -, h⟩
    · exact r1 _ h
    · exact r2 _ _ _ h
    · exact r3 _ h
  · rcases h with ⟨-, h⟩ | ⟨i, -, -, -, ⟨-, h⟩ | ⟨-, -, h⟩ | ⟨-, -, -, h⟩ | ⟨-, -, -, -, h⟩ | ⟨-, -, -, -, h⟩⟩
    · exact r1 _ h
    · exact r2 _ _ _ h
    · exact r2 _ _ _ h
    · exact r2 _ _ _ h
    · exact r2 _ _ _ h
    · exact r3 _ h
  · rcases h with ⟨-, h⟩ | ⟨t, -, -, -, h⟩
    · exact r1 _ h
    · exact r3 _ h
  · rcases h with ⟨-, h⟩ | ⟨i, -, -, -, h⟩ | ⟨i, -, -, -, -, h⟩ | ⟨i, -, -, -, -, h⟩
    · exact r1 _ h
    · exact r2 _ _ _ h
    · exact r2 _ _ _ h
    · exact r3 _ h
  · rcases h with ⟨-, h⟩ | ⟨i, -, -, -, h⟩ | ⟨i, -, -, -, -, h⟩ | ⟨i, -, -, -, -, h⟩
    · exact r1 _ h
    · exact r2 _ _ _ h
    · exact r2 _ _ _ h
    · exact r3 _ h
/-- orders one behind another, till one doesn't go -/
def mRun (J : nT → Nat → Nat → Nat → Prop) : nT → List orT → nT → Prop
  | N, [], N' => N' = N
  | N, o :: L, N' => ∃ nm nr nb N1, J N nm nr nb ∧ sOrd N nm nr nb o N1 ∧ ((N1.co = nI 0 ∧ mRun J N1 L N') ∨ (¬ N1.co = nI 0 ∧ N' = N1))
/-- the state in which the orders begin -/
abbrev nT.bgn (N : nT) (td : Nat → Int32) (e q : Nat) : nT := ((((((((N.s_td td).s_ap (nI e)).s_tm (nI q)).s_er (-1)).s_ln (nI 0)).s_co (nI 0)).s_bf (cpo N.bf N.g 0 0 114)).s_iW (nI 1))
section NN
variable {G : gT}
set_option maxRecDepth 20000 in
theorem mo_run_l (hg : gOK G) (J : nT → Nat → Nat → Nat → Prop) (hJ : ∀ N nm nr nb, J N nm nr nb → N.ok nm nr nb) (hJ2 : ∀ N nm nr nb o N', J N nm nr nb → sOrd N nm nr nb o N' → N'.co = nI 0 → ∃ nm nr nb, J N' nm nr nb) (L : List orT) (hL : L.length ≤ 21) (hLk : ∀ o ∈ L, isKd o.1) {K : Option Value → xW → Prop} {KX : Nat → xW → Prop} (N0 : nT) (hK : ∀ N' y is, mRun J N0 L N' → N'.tm = nI L.length → AW G M_X9_run 8 0 0 95 [some (.ref 0), some (.int is), none, some (.int y)] [] (mw N') K KX) (is : Int32) : ∀ (k : Nat) (hk : k ≤ L.length) (N : nT) (y : Int32) (htd : tldO N.td L) (htm : N.tm = nI L.length) (hgo : N.co = nI 0 → ∃ nm nr nb, J N nm nr nb) (hb : ∀ N', (N.co = nI 0 → mRun J N (L.drop (L.length - k)) N') → (¬ N.co = nI 0 → N' = N) → mRun J N0 L N'),
    AW G M_X9_run 8 0 0 66 [some (.ref 0), some (.int is), some (.int (nI (L.length - k))), some (.int y)] [] (mw N) K KX
  | 0, hk, N, y, htd, htm, hgo, hb => by
    refine wp_ok (M := M_X9_run) hg ok_X9_run (lkp [(66, [true, true, true, true]), (95, [true, true, false, true])]) 60 _ _ _ _ _ _ ?_
    repeat' (first | refine And.intro ?_ ?_ | (with_reducible intro h9; exact absurd h9 (by simp only [cI, cN]; decide +kernel)) | with_reducible intro _ | exact (rfl : narrow _ _ = _) | decide | (unfold vp_in; decide))
    · refine hK N y is (hb N (fun _ => ?_) (fun _ => rfl)) htm
      rw [Nat.sub_zero, List.drop_length]
      rfl
    · rename_i g g2
      replace g : ¬ N.tm ≤ nI (L.length - 0) := g
      rw [htm, nI_leI (by omega) (by omega)] at g
      omega
    · rename_i g g2
      replace g : ¬ N.tm ≤ nI (L.length - 0) := g
      rw [htm, nI_leI (by omega) (by omega)] at g
      omega
  | k + 1, hk, N, y, htd, htm, hgo, hb => by
    have hd : L.length - (k + 1) < L.length := by omega
    have hdr : L.drop (L.length - (k + 1)) = L[L.length - (k + 1)] :: L.drop (L.length - k) := by
      rw [List.drop_eq_getElem_cons hd]
      congr 2
      omega
    refine wp_ok (M := M_X9_run) hg ok_X9_run (lkp [(66, [true, true, true, true]), (95, [true, true, false, true])]) 60 _ _ _ _ _ _ ?_
    repeat' (first | refine And.intro ?_ ?_ | (with_reducible intro h9; exact absurd h9 (by simp only [cI, cN]; decide +kernel)) | with_reducible intro _ | exact (rfl : narrow _ _ = _) | decide | (unfold vp_in; decide))
    · rename_i g
      replace g : N.tm ≤ nI (L.length - (k + 1)) := g
      rw [htm, nI_leI (by omega) (by omega)] at g
      omega
    · rename_i g g2
      replace g2 : ¬ N.co = nI 0 := by rw [nI_0]; exact g2
      exact hK N y is (hb N (fun z => absurd z g2) (fun _ => rfl)) htm
    · rename_i g g2
      replace g2 : N.co = nI 0 := by rw [nI_0]; exact g2
      obtain ⟨nm, nr, nb, hj⟩ := hgo g2
      generalize ho : L[L.length - (k + 1)] = o at hdr
      have hget : L[L.length - (k + 1)]? = some o := by rw [List.getElem?_eq_getElem hd, ho]
      obtain ⟨t0, t1, t2⟩ := htd _ _ hget
      have hkd := hLk o (by rw [← ho]; exact List.getElem_mem hd)
      refine cc0 [0, 1, 2, 3, 4, 5, 6, 7, 8] (md_carries hg N nm nr nb (hJ _ _ _ _ hj) (3 * (L.length - (k + 1))) (by omega) o hkd t0 t1 t2) (by decide) (by decide) (by decide) rfl (by repeat' (first | exact trivial | refine And.intro ?_ ?_ | rfl)) (by first | rfl | (simp (discharger := omega) only [renVs, renV, rnI, cI, cN, ← nI_0, nI_ltI, nI_leI, nI_eq, nI_add, pk_mul, pk_sub, nI_clamp, vinI, not_true_eq_false, not_false_eq_true, iK0, iK1, iK2, iK3, iK4, iK5, iKm1, bK6, bK7, bK8, bK9, bK10, bK12, bK14, bK15, bK16, bK20, bK21, bK26, bK30, bK32, bK33, bK45, bK48, bK57, bK59, bK60, bK62, bK63, bK64, bK80, bK93, bK98, bK99, bK100, bK104, bK107, bK109, bK110, bK112, bK113, bK114, bK115, bK116, bK119, sK255, sK256, sK500, sK700, sK798, sK912, sK1400, sK2000])) ?_
      (rintro _ _ ⟨⟨y2, rfl⟩, N2, hs, rfl⟩) <;> (repeat' (first | refine And.intro ?_ ?_ | (with_reducible intro h9; exact absurd h9 (by simp only [cI, cN]; decide +kernel)) | with_reducible intro _ | exact (rfl : narrow _ _ = _) | decide | (unfold vp_in; decide)))
      obtain ⟨k1, k2, -⟩ := sOrd_k hs
      refine AW.cg (mo_run_l hg J hJ hJ2 L hL hLk N0 hK is k (by omega) N2 y2 (by rw [k1]; exact htd) (k2.trans htm) (fun z => hJ2 _ _ _ _ _ _ hj hs z) (fun N3 h1 h2 => hb N3 (fun _ => ?_) (fun z => absurd g2 z))) rfl rfl rfl ?_ rfl rfl
      · rw [hdr]
        refine ⟨nm, nr, nb, N2, hj, hs, ?_⟩
        by_cases z : N2.co = nI 0
        · exact Or.inl ⟨z, h1 z⟩
        · exact Or.inr ⟨z, h2 z⟩
      · rw [show L.length - k = L.length - (k + 1) + 1 by omega, ← nI_add]
        rfl
end NN
