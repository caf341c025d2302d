/-! ===== the reference's constructor ===== -/
def n00 : nT := (((((upd (fun _ => 0) 0 (nI 20), (fun _ => 0)), (fun _ => 0)), ((fun _ => 0), (fun _ => 0))), ((((fun _ => 0), (fun _ => 0)), (fun _ => 0)), (0, 0))), ((((0, 0), 0), (0, 0)), ((-1, 0), (0, 0))))
section NN
variable {G : gT}
set_option maxRecDepth 20000 in
theorem md_init (hg : gOK G) : Spec G 3 8 1743 m_X9_init [.ref 0] [.inr (12, [.null, .null, .null, .null, .int 0, .int 0, .int 0, .int 0, .int 0, .int 0, .null, .int 0, .int 0, .null, .int 0, .null, .int 0, .null, .int 0])] (fun v w' => v = none ∧ w' = mw n00) NX := by
  refine wp_spec (M := M_X9_init) hg ok_X9_init cut0 90 rfl rfl ?_
  repeat' (first | refine And.intro ?_ ?_ | (with_reducible intro h9; exact absurd h9 (by simp only [cI, cN]; decide +kernel)) | with_reducible intro _ | exact (rfl : narrow _ _ = _) | decide | (unfold vp_in; decide))
  all_goals first | rfl | decide
end NN
