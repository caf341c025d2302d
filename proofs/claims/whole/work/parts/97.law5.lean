/-! ===== the law's calls: what an answer is ===== -/
theorem l4_0 : (0 : Nat) < 4 := by omega
theorem l4_1 : (1 : Nat) < 4 := by omega
theorem l4_2 : (2 : Nat) < 4 := by omega
theorem l4_3 : (3 : Nat) < 4 := by omega
def lt4 (R : oA3 → Prop) : Prop := ∀ o, R o → o.1 < 4
theorem lt_run {N : nT} {n : Nat} : lt4 (okRun N n) := by
  rintro _ (⟨e, td, ap, tm, h, rfl⟩ | ⟨L, e, td, h, ⟨h2, rfl⟩ | ⟨k, h2, h3, rfl⟩⟩)
  · exact l4_1
  · exact l4_0
  · show k + 1 < 4
    omega
theorem cV.iS {F E : fT} {H : hT} {r : Int32 × Int32} {X : xT} {S : sT4} {sd : Value} {er : Int32} {t : xW} {N : nT} (I : cV F E H r X S sd er t N) : N.iS = nI 0 ∨ N.iS = nI 1 := by
  obtain ⟨_, ⟨⟨c, kf, DF, b, h1, h2, h3, h4⟩, _⟩, _⟩ := I
  exact h4.imp (fun z => z.2) (fun z => z.2.1)
theorem nI_z {k : Nat} (h : k < 4) (z : nI k = 0) : k = 0 := by
  rw [← nI_0, nI_eq (by omega) (by omega)] at z
  exact z
set_option maxRecDepth 20000 in
theorem sp_R {G : gT} {d mc ms : Nat} {m : m0T} {as : List Value} {w : xW} {o : oA3} (h : Spec G d mc ms m as w (ansR o) NX) : Spec G d mc ms m as w (ansRR (fun x => x = o)) NX := Spec.mono h (fun _ _ k => ⟨o, rfl, k⟩) (fun _ _ k => k)
set_option maxRecDepth 20000 in
theorem sp_C {G : gT} {d mc ms : Nat} {m : m0T} {as : List Value} {w t : xW} {o : oA3} (h : Spec G d mc ms m as w (ansC t o) NX) : Spec G d mc ms m as w (ansCR t (fun x => x = o)) NX := Spec.mono h (fun _ _ k => ⟨o, rfl, k⟩) (fun _ _ k => k)
theorem lt_oCoal {N : nT} {x : Int32} : lt4 (fun o => o = oCoal N x) := by
  rintro _ rfl
  show (oCoal N x).1 < 4
  unfold oCoal
  repeat' (first | exact l4_0 | exact l4_1 | exact l4_2 | exact l4_3 | refine if_lt ?_ ?_)
theorem lt_oBronze {N : nT} {x : Int32} : lt4 (fun o => o = oBronze N x) := by
  rintro _ rfl
  show (oBronze N x).1 < 4
  unfold oBronze
  repeat' (first | exact l4_0 | exact l4_1 | exact l4_2 | exact l4_3 | refine if_lt ?_ ?_)
theorem lt_oMould {N : nT} {n : Nat} {x : Int32} {y : Int32} : lt4 (fun o => o = oMould N n x y) := by
  rintro _ rfl
  show (oMould N n x y).1 < 4
  unfold oMould
  repeat' (first | exact l4_0 | exact l4_1 | exact l4_2 | exact l4_3 | refine if_lt ?_ ?_)
theorem lt_oSmash {N : nT} {n : Nat} {x : Int32} : lt4 (fun o => o = oSmash N n x) := by
  rintro _ rfl
  show (oSmash N n x).1 < 4
  unfold oSmash
  repeat' (first | exact l4_0 | exact l4_1 | exact l4_2 | exact l4_3 | refine if_lt ?_ ?_)
theorem lt_oTwo {N : nT} {n : Nat} {m : Nat} {f : Nat → Nat → Int32} {x : Int32} {y : Int32} : lt4 (fun o => o = oTwo N n m f x y) := by
  rintro _ rfl
  show (oTwo N n m f x y).1 < 4
  unfold oTwo
  repeat' (first | exact l4_0 | exact l4_1 | exact l4_2 | exact l4_3 | refine if_lt ?_ ?_)
theorem lt_oRack {N : nT} {n : Nat} {x : Int32} : lt4 (fun o => o = oRack N n x) := by
  rintro _ rfl
  show (oRack N n x).1 < 4
  unfold oRack
  repeat' (first | exact l4_0 | exact l4_1 | exact l4_2 | exact l4_3 | refine if_lt ?_ ?_)
theorem lt_oStrike {N : nT} {n : Nat} {nb : Nat} {x : Int32} : lt4 (fun o => o = oStrike N n nb x) := by
  rintro _ rfl
  show (oStrike N n nb x).1 < 4
  unfold oStrike
  repeat' (first | exact l4_0 | exact l4_1 | exact l4_2 | exact l4_3 | refine if_lt ?_ ?_)
theorem lt_oPour {N : nT} {a : Nat} {b : Nat} {c : Nat} {x : Int32} {y : Int32} : lt4 (fun o => o = oPour N a b c x y) := by
  rintro _ rfl
  show (oPour N a b c x y).1 < 4
  unfold oPour
  repeat' (first | exact l4_0 | exact l4_1 | exact l4_2 | exact l4_3 | refine if_lt ?_ ?_)
theorem lt_oPass {N : nT} {n : Nat} {x : Int32} : lt4 (fun o => o = oPass N n x) := by
  rintro _ rfl
  show (oPass N n x).1 < 4
  unfold oPass
  repeat' (first | exact l4_0 | exact l4_1 | exact l4_2 | exact l4_3 | refine if_lt ?_ ?_)
theorem lt_oTake {N : nT} {n : Nat} {x : Int32} : lt4 (fun o => o = oTake N n x) := by
  rintro _ rfl
  show (oTake N n x).1 < 4
  unfold oTake
  repeat' (first | exact l4_0 | exact l4_1 | exact l4_2 | exact l4_3 | refine if_lt ?_ ?_)
theorem lt_oRing {N : nT} {n : Nat} {x : Int32} : lt4 (fun o => o = oRing N n x) := by
  rintro _ rfl
  show (oRing N n x).1 < 4
  unfold oRing
  repeat' (first | exact l4_0 | exact l4_1 | exact l4_2 | exact l4_3 | refine if_lt ?_ ?_)
theorem lt_oFile {N : nT} {n : Nat} {x : Int32} {y : Int32} : lt4 (fun o => o = oFile N n x y) := by
  rintro _ rfl
  show (oFile N n x y).1 < 4
  unfold oFile
  repeat' (first | exact l4_0 | exact l4_1 | exact l4_2 | exact l4_3 | refine if_lt ?_ ?_)
theorem lt_oRecast {N : nT} {n : Nat} {x : Int32} : lt4 (fun o => o = oRecast N n x) := by
  rintro _ rfl
  show (oRecast N n x).1 < 4
  unfold oRecast
  repeat' (first | exact l4_0 | exact l4_1 | exact l4_2 | exact l4_3 | refine if_lt ?_ ?_)
theorem lt_oWould {N : nT} {n : Nat} {x : Int32} {y : Int32} : lt4 (fun o => o = oWould N n x y) := by
  rintro _ rfl
  show (oWould N n x y).1 < 4
  unfold oWould
  repeat' (first | exact l4_0 | exact l4_1 | exact l4_2 | exact l4_3 | refine if_lt ?_ ?_)
theorem lt_oOne {N : nT} {n : Nat} {f : Nat → Int32} {x : Int32} : lt4 (fun o => o = oOne N n f x) := by
  rintro _ rfl
  show (oOne N n f x).1 < 4
  unfold oOne
  repeat' (first | exact l4_0 | exact l4_1 | exact l4_2 | exact l4_3 | refine if_lt ?_ ?_)
theorem lt_oAppend {N : nT} {n : Nat} {x : Int32} : lt4 (fun o => o = oAppend N n x) := by
  rintro _ rfl
  show (oAppend N n x).1 < 4
  unfold oAppend
  repeat' (first | exact l4_0 | exact l4_1 | exact l4_2 | exact l4_3 | refine if_lt ?_ ?_)
theorem lt_oRefusal {N : nT} {x : Int32} : lt4 (fun o => o = oRefusal N x) := by
  rintro _ rfl
  show (oRefusal N x).1 < 4
  unfold oRefusal
  repeat' (first | exact l4_0 | exact l4_1 | exact l4_2 | exact l4_3 | refine if_lt ?_ ?_)
theorem lt_oUndo {N : nT} {n : Nat} : lt4 (fun o => o = oUndo N n) := by
  rintro _ rfl
  show (oUndo N n).1 < 4
  unfold oUndo
  repeat' (first | exact l4_0 | exact l4_1 | exact l4_2 | exact l4_3 | refine if_lt ?_ ?_)
theorem lt_oRestore {N : nT} : lt4 (fun o => o = oRestore N) := by
  rintro _ rfl
  show (oRestore N).1 < 4
  unfold oRestore
  repeat' (first | exact l4_0 | exact l4_1 | exact l4_2 | exact l4_3 | refine if_lt ?_ ?_)
theorem lt_okPeal {N : nT} {nb : Nat} {x : Int32} : lt4 (okPeal N nb x) := by
  rintro _ (⟨h, rfl⟩ | ⟨h, s, hs, rfl⟩) <;> first | exact l4_0 | exact l4_1
theorem lt_okLong {N : nT} {nb : Nat} : lt4 (okLong N nb) := by
  rintro _ (⟨h, rfl⟩ | ⟨h, s, hs, rfl⟩) <;> first | exact l4_0 | exact l4_1
theorem lt_okRank {N : nT} {nb : Nat} {x : Int32} : lt4 (okRank N nb x) := by
  rintro _ (⟨a, ha, h1, rfl⟩ | ⟨h1, rfl⟩) <;> first | exact l4_0 | exact l4_1
theorem lt_okPour {D : pT} {N : nT} {b : Int32} : lt4 (okPour D N b) := by
  rintro _ ⟨cb, ⟨h, m, hm, rfl⟩ | ⟨h, s, q, hs, rfl⟩⟩ <;> first | exact l4_0 | exact l4_1
theorem lt_okFirst {D : pT} {N : nT} : lt4 (okFirst D N) := by
  rintro _ ⟨M, cb, hM, ⟨h, rfl⟩ | ⟨h, k, h1, h2, rfl⟩⟩ <;> first | exact l4_0 | exact l4_1
theorem lt_okWell {D : pT} {N : nT} {nb : Nat} : lt4 (okWell D N nb) := by
  rintro _ ⟨y, cb, h, rfl⟩ <;> first | exact l4_0 | exact l4_1
theorem lt_okLine {N : nT} {nb : Nat} {x : Int32} : lt4 (okLine N nb x) := by
  rintro _ (⟨h, rfl⟩ | ⟨i, z, cr, r, h1, h2, h3, h4, h5, h6, h7, rfl⟩) <;> first | exact l4_0 | exact l4_1
theorem lt_okRl {N : nT} {nr nb : Nat} {w : Nat → Nat} {x : Int32} : lt4 (okRl N nr nb w x) := by
  rintro _ (⟨h, rfl⟩ | ⟨h, rfl⟩) <;> first | exact l4_0 | exact l4_1
