/-! ===== the pools (by program) ===== -/
abbrev mNone : m0T := (⟨"", "", ""⟩, ⟨#[]⟩, 0, none, [], 0)
def flX8 : List (Nat × (Nat × Nat × FieldType × Bool)) := [(10, (11, 0, .object "BellCores$Foundry", true)), (16, (11, 1, .object "BellCores$Foundry", true)), (22, (11, 2, .object "BellCores$History", true)), (29, (11, 3, .object "BellCores$Refusal", true)), (36, (11, 4, .object "BellCores$Text", true)), (43, (11, 5, .object "BellCores$Hall", true)), (50, (11, 6, .object "BellCores$Pouring", true)), (57, (11, 7, .object "java/lang/StringBuilder", true)), (61, (11, 8, .object "BellCores$Foundry", false)), (64, (11, 9, .int, false)), (87, (4, 3, .int, false)), (104, (4, 4, .int, false)), (123, (4, 0, .object "BellCores$Table", true)), (170, (4, 1, .object "BellCores$Table", true)), (210, (4, 2, .object "BellCores$Table", true)), (358, (10, 0, .object "BellCores$Table", true)), (361, (8, 0, .int, false)), (366, (8, 1, .int, false))]
def fiX8 : List (Nat × (Nat × Nat × FieldType × Bool)) := [(10, (11, 0, .object "BellCores$Foundry", true)), (16, (11, 1, .object "BellCores$Foundry", true)), (22, (11, 2, .object "BellCores$History", true)), (29, (11, 3, .object "BellCores$Refusal", true)), (36, (11, 4, .object "BellCores$Text", true)), (43, (11, 5, .object "BellCores$Hall", true)), (50, (11, 6, .object "BellCores$Pouring", true)), (57, (11, 7, .object "java/lang/StringBuilder", true)), (61, (11, 8, .object "BellCores$Foundry", false)), (64, (11, 9, .int, false)), (87, (4, 3, .int, false)), (104, (4, 4, .int, false)), (361, (8, 0, .int, false)), (366, (8, 1, .int, false))]
def slX8 : List (Nat × Value) := [(342, .retAddr 4), (350, .retAddr 5), (431, .retAddr 3)]
def mlX8 : List (Nat × (Nat × m0T × Nat)) := [(1, (5, mNone, 0)), (9, (4, m_X0_init, 0)), (21, (4, m_X2_init, 0)), (28, (4, m_X5_init, 0)), (35, (4, m_X7_init, 0)), (42, (4, m_X1_init, 0)), (49, (4, m_X4_init, 0)), (56, (2, m_J4_init_da8c8, 0)), (68, (1, m_X8_isWithin, 0)), (79, (0, m_X2_remember, 6)), (83, (0, m_X0_burnCoal, 4)), (92, (0, m_X0_refusesPounds, 4)), (101, (0, m_X0_bringBronze, 4)), (107, (1, m_X8_isMould, 0)), (113, (0, m_X0_refusesMould, 4)), (119, (0, m_X0_makeMould, 4)), (127, (0, m_X6_has, 9)), (138, (0, m_X6_drop, 9)), (141, (0, m_X6_size, 9)), (145, (0, m_X6_get, 9)), (148, (1, m_X8_poundsFor, 0)), (152, (1, m_X8_heatFor, 0)), (155, (1, m_X8_firstNote, 0)), (162, (0, m_X0_refusesRack, 4)), (167, (0, m_X0_setRack, 4)), (175, (0, m_X0_refusesStrike, 4)), (180, (0, m_X0_strikeRack, 4)), (183, (0, m_X0_bellsOn, 4)), (186, (0, m_X0_lossOn, 4)), (191, (0, m_X0_hasBoth, 4)), (196, (0, m_X0_refusesPour, 4)), (202, (0, m_X0_pourMould, 4)), (207, (0, m_X0_letHoursGoBy, 4)), (215, (0, m_X0_refusesTake, 4)), (220, (0, m_X0_takeBell, 4)), (223, (0, m_X0_refusesOutsideHall, 4)), (228, (0, m_X0_ringBell, 4)), (233, (0, m_X0_refusesFile, 4)), (238, (0, m_X0_addMarks, 4)), (242, (0, m_X0_noteOf, 4)), (245, (0, m_X0_refusesRecast, 4)), (250, (0, m_X0_recastBell, 4)), (257, (0, m_X0_cracksAfter, 4)), (260, (0, m_X0_hoursUntilCold, 4)), (265, (0, m_X0_pealBellByBell, 4)), (268, (0, m_X1_gather, 5)), (271, (0, m_X1_pealFrom, 5)), (279, (0, m_X1_startOfLongest, 5)), (284, (0, m_X0_bellAtPlace, 4)), (287, (0, m_X4_lookAt, 7)), (290, (0, m_X4_best, 7)), (293, (0, m_X4_hottest, 7)), (296, (0, m_X4_firstOfBest, 7)), (301, (0, m_X8_writeBell, 11)), (304, (0, m_J4_length_8abf5, 1)), (307, (0, m_X8_writeRack, 11)), (312, (0, m_J4_charAt_5068e, 1)), (316, (0, m_X7_isFull, 10)), (325, (0, m_X7_add, 10)), (329, (0, m_X7_size, 10)), (330, (0, m_X7_readOrders, 10)), (333, (0, m_X7_empty, 10)), (338, (0, m_X8_tryOrders, 11)), (355, (0, m_X0_copyFrom, 4)), (371, (0, m_X2_size, 6)), (372, (0, m_X0_accountOf, 4)), (375, (0, m_X0_areNotesAlike, 4)), (378, (0, m_X8_arePealsAlike, 11)), (381, (0, m_X0_doesBronzeAddUp, 4)), (384, (0, m_X0_hasRoomOnRacks, 4)), (387, (0, m_X8_pourable, 11)), (396, (0, m_X0_sumOfNotes, 4)), (399, (0, m_X6_countOf, 9)), (404, (0, m_X2_goBack, 6)), (409, (0, m_X2_forget, 6)), (412, (6, mNone, 0)), (417, (0, m_J4_setLength_d00df, 1)), (420, (0, m_J4_append_bf812, 1)), (424, (0, m_J4_append_cf468, 1)), (427, (0, m_X8_judge, 11)), (434, (0, m_X8_carryOut, 11)), (438, (0, m_X8_isPossible, 11)), (441, (0, m_X8_isRefused, 11))]
def clX8 : List (Nat × (Nat ⊕ Nat)) := [(7, .inl 4), (19, .inl 6), (26, .inl 8), (33, .inl 10), (40, .inl 5), (47, .inl 7), (54, .inl 1), (72, .inr 0), (96, .inr 1), (133, .inr 2), (274, .inr 3), (320, .inr 4), (391, .inr 5)]
def nlX8 : List (Nat × Int32) := []
def cpX8 : cpT := (lkp flX8, lkp slX8, lkp mlX8, lkp clX8, lkp nlX8)
def cpIX8 : cpT := (lkp fiX8, lkp slX8, lkp mlX8, lkp clX8, lkp nlX8)
theorem fipX8 : ∀ q ∈ fiX8, fldOK RX8 true q.1 q.2.1 q.2.2.1 q.2.2.2.1 q.2.2.2.2 := (fa_cons ⟨clOK11, RX8, TX8, 10, rfl, by decide, rfl, by decide +kernel, (List.mem_append_right _ (List.mem_of_getElem? (i := 240) (by decide +kernel))), fun _ _ => rfl⟩ (fa_cons ⟨clOK11, RX8, TX8, 10, rfl, by decide, rfl, by decide +kernel, (List.mem_append_right _ (List.mem_of_getElem? (i := 241) (by decide +kernel))), fun _ _ => rfl⟩ (fa_cons ⟨clOK11, RX8, TX8, 10, rfl, by decide, rfl, by decide +kernel, (List.mem_append_right _ (List.mem_of_getElem? (i := 242) (by decide +kernel))), fun _ _ => rfl⟩ (fa_cons ⟨clOK11, RX8, TX8, 10, rfl, by decide, rfl, by decide +kernel, (List.mem_append_right _ (List.mem_of_getElem? (i := 243) (by decide +kernel))), fun _ _ => rfl⟩ (fa_cons ⟨clOK11, RX8, TX8, 10, rfl, by decide, rfl, by decide +kernel, (List.mem_append_right _ (List.mem_of_getElem? (i := 244) (by decide +kernel))), fun _ _ => rfl⟩ (fa_cons ⟨clOK11, RX8, TX8, 10, rfl, by decide, rfl, by decide +kernel, (List.mem_append_right _ (List.mem_of_getElem? (i := 245) (by decide +kernel))), fun _ _ => rfl⟩ (fa_cons ⟨clOK11, RX8, TX8, 10, rfl, by decide, rfl, by decide +kernel, (List.mem_append_right _ (List.mem_of_getElem? (i := 246) (by decide +kernel))), fun _ _ => rfl⟩ (fa_cons ⟨clOK11, RX8, TX8, 10, rfl, by decide, rfl, by decide +kernel, (List.mem_append_right _ (List.mem_of_getElem? (i := 247) (by decide +kernel))), fun _ _ => rfl⟩ (fa_cons ⟨clOK11, RX8, TX8, 10, rfl, by decide, rfl, by decide +kernel, (List.mem_append_right _ (List.mem_of_getElem? (i := 248) (by decide +kernel))), fun h => nomatch h⟩ (fa_cons ⟨clOK11, RX8, TX8, 10, rfl, by decide, rfl, by decide +kernel, (List.mem_append_right _ (List.mem_of_getElem? (i := 249) (by decide +kernel))), fun h => nomatch h⟩ (fa_cons ⟨clOK4, RX0, TX0, 10, rfl, by decide, rfl, by decide +kernel, (List.mem_append_right _ (List.mem_of_getElem? (i := 81) (by decide +kernel))), fun h => nomatch h⟩ (fa_cons ⟨clOK4, RX0, TX0, 10, rfl, by decide, rfl, by decide +kernel, (List.mem_append_right _ (List.mem_of_getElem? (i := 85) (by decide +kernel))), fun h => nomatch h⟩ (fa_cons ⟨clOK8, RX5, TX5, 2, rfl, by decide, rfl, by decide +kernel, (List.mem_append_right _ (List.mem_of_getElem? (i := 137) (by decide +kernel))), fun h => nomatch h⟩ (fa_cons ⟨clOK8, RX5, TX5, 2, rfl, by decide, rfl, by decide +kernel, (List.mem_append_right _ (List.mem_of_getElem? (i := 139) (by decide +kernel))), fun h => nomatch h⟩ fa_nil))))))))))))))
theorem flpX8 : ∀ q ∈ flX8, fldOK RX8 false q.1 q.2.1 q.2.2.1 q.2.2.2.1 q.2.2.2.2 := (fa_cons ⟨clOK11, RX8, TX8, 10, rfl, by decide, rfl, by decide +kernel, (List.mem_append_right _ (List.mem_of_getElem? (i := 240) (by decide +kernel))), fun _ h => nomatch h⟩ (fa_cons ⟨clOK11, RX8, TX8, 10, rfl, by decide, rfl, by decide +kernel, (List.mem_append_right _ (List.mem_of_getElem? (i := 241) (by decide +kernel))), fun _ h => nomatch h⟩ (fa_cons ⟨clOK11, RX8, TX8, 10, rfl, by decide, rfl, by decide +kernel, (List.mem_append_right _ (List.mem_of_getElem? (i := 242) (by decide +kernel))), fun _ h => nomatch h⟩ (fa_cons ⟨clOK11, RX8, TX8, 10, rfl, by decide, rfl, by decide +kernel, (List.mem_append_right _ (List.mem_of_getElem? (i := 243) (by decide +kernel))), fun _ h => nomatch h⟩ (fa_cons ⟨clOK11, RX8, TX8, 10, rfl, by decide, rfl, by decide +kernel, (List.mem_append_right _ (List.mem_of_getElem? (i := 244) (by decide +kernel))), fun _ h => nomatch h⟩ (fa_cons ⟨clOK11, RX8, TX8, 10, rfl, by decide, rfl, by decide +kernel, (List.mem_append_right _ (List.mem_of_getElem? (i := 245) (by decide +kernel))), fun _ h => nomatch h⟩ (fa_cons ⟨clOK11, RX8, TX8, 10, rfl, by decide, rfl, by decide +kernel, (List.mem_append_right _ (List.mem_of_getElem? (i := 246) (by decide +kernel))), fun _ h => nomatch h⟩ (fa_cons ⟨clOK11, RX8, TX8, 10, rfl, by decide, rfl, by decide +kernel, (List.mem_append_right _ (List.mem_of_getElem? (i := 247) (by decide +kernel))), fun _ h => nomatch h⟩ (fa_cons ⟨clOK11, RX8, TX8, 10, rfl, by decide, rfl, by decide +kernel, (List.mem_append_right _ (List.mem_of_getElem? (i := 248) (by decide +kernel))), fun _ h => nomatch h⟩ (fa_cons ⟨clOK11, RX8, TX8, 10, rfl, by decide, rfl, by decide +kernel, (List.mem_append_right _ (List.mem_of_getElem? (i := 249) (by decide +kernel))), fun _ h => nomatch h⟩ (fa_cons ⟨clOK4, RX0, TX0, 10, rfl, by decide, rfl, by decide +kernel, (List.mem_append_right _ (List.mem_of_getElem? (i := 81) (by decide +kernel))), fun _ h => nomatch h⟩ (fa_cons ⟨clOK4, RX0, TX0, 10, rfl, by decide, rfl, by decide +kernel, (List.mem_append_right _ (List.mem_of_getElem? (i := 85) (by decide +kernel))), fun _ h => nomatch h⟩ (fa_cons ⟨clOK4, RX0, TX0, 10, rfl, by decide, rfl, by decide +kernel, (List.mem_append_right _ (List.mem_of_getElem? (i := 74) (by decide +kernel))), fun _ h => nomatch h⟩ (fa_cons ⟨clOK4, RX0, TX0, 10, rfl, by decide, rfl, by decide +kernel, (List.mem_append_right _ (List.mem_of_getElem? (i := 76) (by decide +kernel))), fun _ h => nomatch h⟩ (fa_cons ⟨clOK4, RX0, TX0, 10, rfl, by decide, rfl, by decide +kernel, (List.mem_append_right _ (List.mem_of_getElem? (i := 79) (by decide +kernel))), fun _ h => nomatch h⟩ (fa_cons ⟨clOK10, RX7, TX7, 4, rfl, by decide, rfl, by decide +kernel, (List.mem_append_right _ (List.mem_of_getElem? (i := 154) (by decide +kernel))), fun _ h => nomatch h⟩ (fa_cons ⟨clOK8, RX5, TX5, 2, rfl, by decide, rfl, by decide +kernel, (List.mem_append_right _ (List.mem_of_getElem? (i := 137) (by decide +kernel))), fun _ h => nomatch h⟩ (fa_cons ⟨clOK8, RX5, TX5, 2, rfl, by decide, rfl, by decide +kernel, (List.mem_append_right _ (List.mem_of_getElem? (i := 139) (by decide +kernel))), fun _ h => nomatch h⟩ fa_nil))))))))))))))))))
theorem slpX8 : ∀ q ∈ slX8, stcOK RX8 q.1 q.2 := (fa_cons ⟨_, List.mem_of_getElem? (i := 4) rfl, rfl, Or.inl (List.mem_append_right _ (List.mem_of_getElem? (i := 1330) (by decide +kernel)))⟩ (fa_cons ⟨_, List.mem_of_getElem? (i := 5) rfl, rfl, Or.inl (List.mem_append_right _ (List.mem_of_getElem? (i := 1336) (by decide +kernel)))⟩ (fa_cons ⟨_, List.mem_of_getElem? (i := 3) rfl, rfl, Or.inl (List.mem_append_right _ (List.mem_of_getElem? (i := 1338) (by decide +kernel)))⟩ fa_nil)))
theorem mpX8_1 : oiOK RX8 1 := ⟨(List.mem_append_right _ (List.mem_of_getElem? (i := 40) (by decide +kernel))), (List.mem_append_right _ (List.mem_of_getElem? (i := 41) (by decide +kernel))), (List.mem_append_right _ (List.mem_of_getElem? (i := 42) (by decide +kernel)))⟩
theorem mpX8_9 : inOK RX8 9 m_X0_init := ⟨mo_X0_init, rfl, rfl, ⟨"BellCores", (List.mem_append_right _ (List.mem_of_getElem? (i := 45) (by decide +kernel)))⟩, rfl, (List.mem_append_right _ (List.mem_of_getElem? (i := 46) (by decide +kernel)))⟩
theorem mpX8_21 : inOK RX8 21 m_X2_init := ⟨mo_X2_init, rfl, rfl, ⟨"BellCores", (List.mem_append_right _ (List.mem_of_getElem? (i := 114) (by decide +kernel)))⟩, rfl, (List.mem_append_right _ (List.mem_of_getElem? (i := 115) (by decide +kernel)))⟩
theorem mpX8_28 : inOK RX8 28 m_X5_init := ⟨mo_X5_init, rfl, rfl, ⟨"BellCores", (List.mem_append_right _ (List.mem_of_getElem? (i := 132) (by decide +kernel)))⟩, rfl, (List.mem_append_right _ (List.mem_of_getElem? (i := 133) (by decide +kernel)))⟩
theorem mpX8_35 : inOK RX8 35 m_X7_init := ⟨mo_X7_init, rfl, rfl, ⟨"BellCores", (List.mem_append_right _ (List.mem_of_getElem? (i := 147) (by decide +kernel)))⟩, rfl, (List.mem_append_right _ (List.mem_of_getElem? (i := 148) (by decide +kernel)))⟩
theorem mpX8_42 : inOK RX8 42 m_X1_init := ⟨mo_X1_init, rfl, rfl, ⟨"BellCores", (List.mem_append_right _ (List.mem_of_getElem? (i := 170) (by decide +kernel)))⟩, rfl, (List.mem_append_right _ (List.mem_of_getElem? (i := 171) (by decide +kernel)))⟩
theorem mpX8_49 : inOK RX8 49 m_X4_init := ⟨mo_X4_init, rfl, rfl, ⟨"BellCores", (List.mem_append_right _ (List.mem_of_getElem? (i := 181) (by decide +kernel)))⟩, rfl, (List.mem_append_right _ (List.mem_of_getElem? (i := 182) (by decide +kernel)))⟩
theorem mpX8_56 : iOK RX8 56 m_J4_init_da8c8 := ⟨mo_J4_init_da8c8, rfl, rfl, (List.mem_append_right _ (List.mem_of_getElem? (i := 209) (by decide +kernel))), rfl, (List.mem_append_right _ (List.mem_of_getElem? (i := 210) (by decide +kernel)))⟩
theorem mpX8_68 : sOK RX8 68 m_X8_isWithin := ⟨mo_X8_isWithin, rfl, (List.mem_append_right _ (List.mem_of_getElem? (i := 419) (by decide +kernel))), (List.mem_append_right _ (List.mem_of_getElem? (i := 420) (by decide +kernel)))⟩
theorem mpX8_79 : vOK RX8 79 m_X2_remember 6 := ⟨mo_X2_remember, rfl, (List.mem_append_right _ (List.mem_of_getElem? (i := 494) (by decide +kernel))), (List.mem_append_right _ (List.mem_of_getElem? (i := 495) (by decide +kernel))), (List.mem_append_right _ (List.mem_of_getElem? (i := 496) (by decide +kernel))), TX2, 3, rfl⟩
theorem mpX8_83 : vOK RX8 83 m_X0_burnCoal 4 := ⟨mo_X0_burnCoal, rfl, (List.mem_append_right _ (List.mem_of_getElem? (i := 501) (by decide +kernel))), (List.mem_append_right _ (List.mem_of_getElem? (i := 502) (by decide +kernel))), (List.mem_append_right _ (List.mem_of_getElem? (i := 503) (by decide +kernel))), TX0, 10, rfl⟩
theorem mpX8_92 : vOK RX8 92 m_X0_refusesPounds 4 := ⟨mo_X0_refusesPounds, rfl, (List.mem_append_right _ (List.mem_of_getElem? (i := 515) (by decide +kernel))), (List.mem_append_right _ (List.mem_of_getElem? (i := 516) (by decide +kernel))), (List.mem_append_right _ (List.mem_of_getElem? (i := 517) (by decide +kernel))), TX0, 10, rfl⟩
theorem mpX8_101 : vOK RX8 101 m_X0_bringBronze 4 := ⟨mo_X0_bringBronze, rfl, (List.mem_append_right _ (List.mem_of_getElem? (i := 539) (by decide +kernel))), (List.mem_append_right _ (List.mem_of_getElem? (i := 540) (by decide +kernel))), (List.mem_append_right _ (List.mem_of_getElem? (i := 541) (by decide +kernel))), TX0, 10, rfl⟩
theorem mpX8_107 : sOK RX8 107 m_X8_isMould := ⟨mo_X8_isMould, rfl, (List.mem_append_right _ (List.mem_of_getElem? (i := 550) (by decide +kernel))), (List.mem_append_right _ (List.mem_of_getElem? (i := 551) (by decide +kernel)))⟩
theorem mpX8_113 : vOK RX8 113 m_X0_refusesMould 4 := ⟨mo_X0_refusesMould, rfl, (List.mem_append_right _ (List.mem_of_getElem? (i := 554) (by decide +kernel))), (List.mem_append_right _ (List.mem_of_getElem? (i := 555) (by decide +kernel))), (List.mem_append_right _ (List.mem_of_getElem? (i := 556) (by decide +kernel))), TX0, 10, rfl⟩
theorem mpX8_119 : vOK RX8 119 m_X0_makeMould 4 := ⟨mo_X0_makeMould, rfl, (List.mem_append_right _ (List.mem_of_getElem? (i := 559) (by decide +kernel))), (List.mem_append_right _ (List.mem_of_getElem? (i := 560) (by decide +kernel))), (List.mem_append_right _ (List.mem_of_getElem? (i := 561) (by decide +kernel))), TX0, 10, rfl⟩
theorem mpX8_127 : vOK RX8 127 m_X6_has 9 := ⟨mo_X6_has, rfl, (List.mem_append_right _ (List.mem_of_getElem? (i := 602) (by decide +kernel))), (List.mem_append_right _ (List.mem_of_getElem? (i := 603) (by decide +kernel))), (List.mem_append_right _ (List.mem_of_getElem? (i := 604) (by decide +kernel))), TX6, 4, rfl⟩
theorem mpX8_138 : vOK RX8 138 m_X6_drop 9 := ⟨mo_X6_drop, rfl, (List.mem_append_right _ (List.mem_of_getElem? (i := 619) (by decide +kernel))), (List.mem_append_right _ (List.mem_of_getElem? (i := 620) (by decide +kernel))), (List.mem_append_right _ (List.mem_of_getElem? (i := 621) (by decide +kernel))), TX6, 4, rfl⟩
theorem mpX8_141 : vOK RX8 141 m_X6_size 9 := ⟨mo_X6_size, rfl, (List.mem_append_right _ (List.mem_of_getElem? (i := 410) (by decide +kernel))), (List.mem_append_right _ (List.mem_of_getElem? (i := 280) (by decide +kernel))), (List.mem_append_right _ (List.mem_of_getElem? (i := 281) (by decide +kernel))), TX6, 4, rfl⟩
theorem mpX8_145 : vOK RX8 145 m_X6_get 9 := ⟨mo_X6_get, rfl, (List.mem_append_right _ (List.mem_of_getElem? (i := 630) (by decide +kernel))), (List.mem_append_right _ (List.mem_of_getElem? (i := 287) (by decide +kernel))), (List.mem_append_right _ (List.mem_of_getElem? (i := 288) (by decide +kernel))), TX6, 4, rfl⟩
theorem mpX8_148 : sOK RX8 148 m_X8_poundsFor := ⟨mo_X8_poundsFor, rfl, (List.mem_append_right _ (List.mem_of_getElem? (i := 301) (by decide +kernel))), (List.mem_append_right _ (List.mem_of_getElem? (i := 302) (by decide +kernel)))⟩
theorem mpX8_152 : sOK RX8 152 m_X8_heatFor := ⟨mo_X8_heatFor, rfl, (List.mem_append_right _ (List.mem_of_getElem? (i := 631) (by decide +kernel))), (List.mem_append_right _ (List.mem_of_getElem? (i := 318) (by decide +kernel)))⟩
theorem mpX8_155 : sOK RX8 155 m_X8_firstNote := ⟨mo_X8_firstNote, rfl, (List.mem_append_right _ (List.mem_of_getElem? (i := 632) (by decide +kernel))), (List.mem_append_right _ (List.mem_of_getElem? (i := 348) (by decide +kernel)))⟩
theorem mpX8_162 : vOK RX8 162 m_X0_refusesRack 4 := ⟨mo_X0_refusesRack, rfl, (List.mem_append_right _ (List.mem_of_getElem? (i := 642) (by decide +kernel))), (List.mem_append_right _ (List.mem_of_getElem? (i := 643) (by decide +kernel))), (List.mem_append_right _ (List.mem_of_getElem? (i := 644) (by decide +kernel))), TX0, 10, rfl⟩
theorem mpX8_167 : vOK RX8 167 m_X0_setRack 4 := ⟨mo_X0_setRack, rfl, (List.mem_append_right _ (List.mem_of_getElem? (i := 647) (by decide +kernel))), (List.mem_append_right _ (List.mem_of_getElem? (i := 648) (by decide +kernel))), (List.mem_append_right _ (List.mem_of_getElem? (i := 649) (by decide +kernel))), TX0, 10, rfl⟩
theorem mpX8_175 : vOK RX8 175 m_X0_refusesStrike 4 := ⟨mo_X0_refusesStrike, rfl, (List.mem_append_right _ (List.mem_of_getElem? (i := 659) (by decide +kernel))), (List.mem_append_right _ (List.mem_of_getElem? (i := 660) (by decide +kernel))), (List.mem_append_right _ (List.mem_of_getElem? (i := 661) (by decide +kernel))), TX0, 10, rfl⟩
theorem mpX8_180 : vOK RX8 180 m_X0_strikeRack 4 := ⟨mo_X0_strikeRack, rfl, (List.mem_append_right _ (List.mem_of_getElem? (i := 664) (by decide +kernel))), (List.mem_append_right _ (List.mem_of_getElem? (i := 665) (by decide +kernel))), (List.mem_append_right _ (List.mem_of_getElem? (i := 666) (by decide +kernel))), TX0, 10, rfl⟩
theorem mpX8_183 : vOK RX8 183 m_X0_bellsOn 4 := ⟨mo_X0_bellsOn, rfl, (List.mem_append_right _ (List.mem_of_getElem? (i := 681) (by decide +kernel))), (List.mem_append_right _ (List.mem_of_getElem? (i := 390) (by decide +kernel))), (List.mem_append_right _ (List.mem_of_getElem? (i := 391) (by decide +kernel))), TX0, 10, rfl⟩
theorem mpX8_186 : vOK RX8 186 m_X0_lossOn 4 := ⟨mo_X0_lossOn, rfl, (List.mem_append_right _ (List.mem_of_getElem? (i := 682) (by decide +kernel))), (List.mem_append_right _ (List.mem_of_getElem? (i := 683) (by decide +kernel))), (List.mem_append_right _ (List.mem_of_getElem? (i := 684) (by decide +kernel))), TX0, 10, rfl⟩
theorem mpX8_191 : vOK RX8 191 m_X0_hasBoth 4 := ⟨mo_X0_hasBoth, rfl, (List.mem_append_right _ (List.mem_of_getElem? (i := 694) (by decide +kernel))), (List.mem_append_right _ (List.mem_of_getElem? (i := 695) (by decide +kernel))), (List.mem_append_right _ (List.mem_of_getElem? (i := 696) (by decide +kernel))), TX0, 10, rfl⟩
theorem mpX8_196 : vOK RX8 196 m_X0_refusesPour 4 := ⟨mo_X0_refusesPour, rfl, (List.mem_append_right _ (List.mem_of_getElem? (i := 700) (by decide +kernel))), (List.mem_append_right _ (List.mem_of_getElem? (i := 701) (by decide +kernel))), (List.mem_append_right _ (List.mem_of_getElem? (i := 702) (by decide +kernel))), TX0, 10, rfl⟩
theorem mpX8_202 : vOK RX8 202 m_X0_pourMould 4 := ⟨mo_X0_pourMould, rfl, (List.mem_append_right _ (List.mem_of_getElem? (i := 707) (by decide +kernel))), (List.mem_append_right _ (List.mem_of_getElem? (i := 708) (by decide +kernel))), (List.mem_append_right _ (List.mem_of_getElem? (i := 709) (by decide +kernel))), TX0, 10, rfl⟩
theorem mpX8_207 : vOK RX8 207 m_X0_letHoursGoBy 4 := ⟨mo_X0_letHoursGoBy, rfl, (List.mem_append_right _ (List.mem_of_getElem? (i := 720) (by decide +kernel))), (List.mem_append_right _ (List.mem_of_getElem? (i := 721) (by decide +kernel))), (List.mem_append_right _ (List.mem_of_getElem? (i := 722) (by decide +kernel))), TX0, 10, rfl⟩
theorem mpX8_215 : vOK RX8 215 m_X0_refusesTake 4 := ⟨mo_X0_refusesTake, rfl, (List.mem_append_right _ (List.mem_of_getElem? (i := 749) (by decide +kernel))), (List.mem_append_right _ (List.mem_of_getElem? (i := 750) (by decide +kernel))), (List.mem_append_right _ (List.mem_of_getElem? (i := 751) (by decide +kernel))), TX0, 10, rfl⟩
theorem mpX8_220 : vOK RX8 220 m_X0_takeBell 4 := ⟨mo_X0_takeBell, rfl, (List.mem_append_right _ (List.mem_of_getElem? (i := 754) (by decide +kernel))), (List.mem_append_right _ (List.mem_of_getElem? (i := 755) (by decide +kernel))), (List.mem_append_right _ (List.mem_of_getElem? (i := 756) (by decide +kernel))), TX0, 10, rfl⟩
theorem mpX8_223 : vOK RX8 223 m_X0_refusesOutsideHall 4 := ⟨mo_X0_refusesOutsideHall, rfl, (List.mem_append_right _ (List.mem_of_getElem? (i := 765) (by decide +kernel))), (List.mem_append_right _ (List.mem_of_getElem? (i := 766) (by decide +kernel))), (List.mem_append_right _ (List.mem_of_getElem? (i := 767) (by decide +kernel))), TX0, 10, rfl⟩
theorem mpX8_228 : vOK RX8 228 m_X0_ringBell 4 := ⟨mo_X0_ringBell, rfl, (List.mem_append_right _ (List.mem_of_getElem? (i := 770) (by decide +kernel))), (List.mem_append_right _ (List.mem_of_getElem? (i := 771) (by decide +kernel))), (List.mem_append_right _ (List.mem_of_getElem? (i := 772) (by decide +kernel))), TX0, 10, rfl⟩
theorem mpX8_233 : vOK RX8 233 m_X0_refusesFile 4 := ⟨mo_X0_refusesFile, rfl, (List.mem_append_right _ (List.mem_of_getElem? (i := 782) (by decide +kernel))), (List.mem_append_right _ (List.mem_of_getElem? (i := 783) (by decide +kernel))), (List.mem_append_right _ (List.mem_of_getElem? (i := 784) (by decide +kernel))), TX0, 10, rfl⟩
theorem mpX8_238 : vOK RX8 238 m_X0_addMarks 4 := ⟨mo_X0_addMarks, rfl, (List.mem_append_right _ (List.mem_of_getElem? (i := 788) (by decide +kernel))), (List.mem_append_right _ (List.mem_of_getElem? (i := 789) (by decide +kernel))), (List.mem_append_right _ (List.mem_of_getElem? (i := 790) (by decide +kernel))), TX0, 10, rfl⟩
theorem mpX8_242 : vOK RX8 242 m_X0_noteOf 4 := ⟨mo_X0_noteOf, rfl, (List.mem_append_right _ (List.mem_of_getElem? (i := 792) (by decide +kernel))), (List.mem_append_right _ (List.mem_of_getElem? (i := 343) (by decide +kernel))), (List.mem_append_right _ (List.mem_of_getElem? (i := 344) (by decide +kernel))), TX0, 10, rfl⟩
theorem mpX8_245 : vOK RX8 245 m_X0_refusesRecast 4 := ⟨mo_X0_refusesRecast, rfl, (List.mem_append_right _ (List.mem_of_getElem? (i := 800) (by decide +kernel))), (List.mem_append_right _ (List.mem_of_getElem? (i := 801) (by decide +kernel))), (List.mem_append_right _ (List.mem_of_getElem? (i := 802) (by decide +kernel))), TX0, 10, rfl⟩
theorem mpX8_250 : vOK RX8 250 m_X0_recastBell 4 := ⟨mo_X0_recastBell, rfl, (List.mem_append_right _ (List.mem_of_getElem? (i := 810) (by decide +kernel))), (List.mem_append_right _ (List.mem_of_getElem? (i := 811) (by decide +kernel))), (List.mem_append_right _ (List.mem_of_getElem? (i := 812) (by decide +kernel))), TX0, 10, rfl⟩
theorem mpX8_257 : vOK RX8 257 m_X0_cracksAfter 4 := ⟨mo_X0_cracksAfter, rfl, (List.mem_append_right _ (List.mem_of_getElem? (i := 837) (by decide +kernel))), (List.mem_append_right _ (List.mem_of_getElem? (i := 838) (by decide +kernel))), (List.mem_append_right _ (List.mem_of_getElem? (i := 839) (by decide +kernel))), TX0, 10, rfl⟩
theorem mpX8_260 : vOK RX8 260 m_X0_hoursUntilCold 4 := ⟨mo_X0_hoursUntilCold, rfl, (List.mem_append_right _ (List.mem_of_getElem? (i := 848) (by decide +kernel))), (List.mem_append_right _ (List.mem_of_getElem? (i := 849) (by decide +kernel))), (List.mem_append_right _ (List.mem_of_getElem? (i := 850) (by decide +kernel))), TX0, 10, rfl⟩
theorem mpX8_265 : vOK RX8 265 m_X0_pealBellByBell 4 := ⟨mo_X0_pealBellByBell, rfl, (List.mem_append_right _ (List.mem_of_getElem? (i := 367) (by decide +kernel))), (List.mem_append_right _ (List.mem_of_getElem? (i := 368) (by decide +kernel))), (List.mem_append_right _ (List.mem_of_getElem? (i := 369) (by decide +kernel))), TX0, 10, rfl⟩
theorem mpX8_268 : vOK RX8 268 m_X1_gather 5 := ⟨mo_X1_gather, rfl, (List.mem_append_right _ (List.mem_of_getElem? (i := 354) (by decide +kernel))), (List.mem_append_right _ (List.mem_of_getElem? (i := 355) (by decide +kernel))), (List.mem_append_right _ (List.mem_of_getElem? (i := 356) (by decide +kernel))), TX1, 1, rfl⟩
theorem mpX8_271 : vOK RX8 271 m_X1_pealFrom 5 := ⟨mo_X1_pealFrom, rfl, (List.mem_append_right _ (List.mem_of_getElem? (i := 361) (by decide +kernel))), (List.mem_append_right _ (List.mem_of_getElem? (i := 362) (by decide +kernel))), (List.mem_append_right _ (List.mem_of_getElem? (i := 363) (by decide +kernel))), TX1, 1, rfl⟩
theorem mpX8_279 : vOK RX8 279 m_X1_startOfLongest 5 := ⟨mo_X1_startOfLongest, rfl, (List.mem_append_right _ (List.mem_of_getElem? (i := 884) (by decide +kernel))), (List.mem_append_right _ (List.mem_of_getElem? (i := 885) (by decide +kernel))), (List.mem_append_right _ (List.mem_of_getElem? (i := 886) (by decide +kernel))), TX1, 1, rfl⟩
theorem mpX8_284 : vOK RX8 284 m_X0_bellAtPlace 4 := ⟨mo_X0_bellAtPlace, rfl, (List.mem_append_right _ (List.mem_of_getElem? (i := 897) (by decide +kernel))), (List.mem_append_right _ (List.mem_of_getElem? (i := 898) (by decide +kernel))), (List.mem_append_right _ (List.mem_of_getElem? (i := 899) (by decide +kernel))), TX0, 10, rfl⟩
theorem mpX8_287 : vOK RX8 287 m_X4_lookAt 7 := ⟨mo_X4_lookAt, rfl, (List.mem_append_right _ (List.mem_of_getElem? (i := 275) (by decide +kernel))), (List.mem_append_right _ (List.mem_of_getElem? (i := 276) (by decide +kernel))), (List.mem_append_right _ (List.mem_of_getElem? (i := 277) (by decide +kernel))), TX4, 7, rfl⟩
theorem mpX8_290 : vOK RX8 290 m_X4_best 7 := ⟨mo_X4_best, rfl, (List.mem_append_right _ (List.mem_of_getElem? (i := 290) (by decide +kernel))), (List.mem_append_right _ (List.mem_of_getElem? (i := 291) (by decide +kernel))), (List.mem_append_right _ (List.mem_of_getElem? (i := 292) (by decide +kernel))), TX4, 7, rfl⟩
theorem mpX8_293 : vOK RX8 293 m_X4_hottest 7 := ⟨mo_X4_hottest, rfl, (List.mem_append_right _ (List.mem_of_getElem? (i := 321) (by decide +kernel))), (List.mem_append_right _ (List.mem_of_getElem? (i := 322) (by decide +kernel))), (List.mem_append_right _ (List.mem_of_getElem? (i := 323) (by decide +kernel))), TX4, 7, rfl⟩
theorem mpX8_296 : vOK RX8 296 m_X4_firstOfBest 7 := ⟨mo_X4_firstOfBest, rfl, (List.mem_append_right _ (List.mem_of_getElem? (i := 912) (by decide +kernel))), (List.mem_append_right _ (List.mem_of_getElem? (i := 913) (by decide +kernel))), (List.mem_append_right _ (List.mem_of_getElem? (i := 914) (by decide +kernel))), TX4, 7, rfl⟩
theorem mpX8_301 : vOK RX8 301 m_X8_writeBell 11 := ⟨mo_X8_writeBell, rfl, (List.mem_append_right _ (List.mem_of_getElem? (i := 925) (by decide +kernel))), (List.mem_append_right _ (List.mem_of_getElem? (i := 927) (by decide +kernel))), (List.mem_append_left _ (List.mem_of_getElem? (i := 12) (by decide +kernel))), TX8, 10, rfl⟩
theorem mpX8_304 : vOK RX8 304 m_J4_length_8abf5 1 := ⟨mo_J4_length_8abf5, rfl, (List.mem_append_right _ (List.mem_of_getElem? (i := 1205) (by decide +kernel))), (List.mem_append_right _ (List.mem_of_getElem? (i := 1106) (by decide +kernel))), (List.mem_append_right _ (List.mem_of_getElem? (i := 1834) (by decide +kernel))), TJ4, 4, rfl⟩
theorem mpX8_307 : vOK RX8 307 m_X8_writeRack 11 := ⟨mo_X8_writeRack, rfl, (List.mem_append_right _ (List.mem_of_getElem? (i := 1213) (by decide +kernel))), (List.mem_append_right _ (List.mem_of_getElem? (i := 1215) (by decide +kernel))), (List.mem_append_left _ (List.mem_of_getElem? (i := 13) (by decide +kernel))), TX8, 10, rfl⟩
theorem mpX8_312 : vOK RX8 312 m_J4_charAt_5068e 1 := ⟨mo_J4_charAt_5068e, rfl, (List.mem_append_right _ (List.mem_of_getElem? (i := 1225) (by decide +kernel))), (List.mem_append_right _ (List.mem_of_getElem? (i := 1226) (by decide +kernel))), (List.mem_append_right _ (List.mem_of_getElem? (i := 1227) (by decide +kernel))), TJ4, 4, rfl⟩
theorem mpX8_316 : vOK RX8 316 m_X7_isFull 10 := ⟨mo_X7_isFull, rfl, (List.mem_append_right _ (List.mem_of_getElem? (i := 1243) (by decide +kernel))), (List.mem_append_right _ (List.mem_of_getElem? (i := 1244) (by decide +kernel))), (List.mem_append_right _ (List.mem_of_getElem? (i := 1245) (by decide +kernel))), TX7, 4, rfl⟩
theorem mpX8_325 : vOK RX8 325 m_X7_add 10 := ⟨mo_X7_add, rfl, (List.mem_append_right _ (List.mem_of_getElem? (i := 1263) (by decide +kernel))), (List.mem_append_right _ (List.mem_of_getElem? (i := 1264) (by decide +kernel))), (List.mem_append_right _ (List.mem_of_getElem? (i := 1265) (by decide +kernel))), TX7, 4, rfl⟩
theorem mpX8_329 : vOK RX8 329 m_X7_size 10 := ⟨mo_X7_size, rfl, (List.mem_append_right _ (List.mem_of_getElem? (i := 1268) (by decide +kernel))), (List.mem_append_right _ (List.mem_of_getElem? (i := 1269) (by decide +kernel))), (List.mem_append_right _ (List.mem_of_getElem? (i := 1270) (by decide +kernel))), TX7, 4, rfl⟩
theorem mpX8_330 : vOK RX8 330 m_X7_readOrders 10 := ⟨mo_X7_readOrders, rfl, (List.mem_append_right _ (List.mem_of_getElem? (i := 1279) (by decide +kernel))), (List.mem_append_right _ (List.mem_of_getElem? (i := 1280) (by decide +kernel))), (List.mem_append_right _ (List.mem_of_getElem? (i := 1281) (by decide +kernel))), TX7, 4, rfl⟩
theorem mpX8_333 : vOK RX8 333 m_X7_empty 10 := ⟨mo_X7_empty, rfl, (List.mem_append_right _ (List.mem_of_getElem? (i := 1313) (by decide +kernel))), (List.mem_append_right _ (List.mem_of_getElem? (i := 1314) (by decide +kernel))), (List.mem_append_right _ (List.mem_of_getElem? (i := 1315) (by decide +kernel))), TX7, 4, rfl⟩
theorem mpX8_338 : vOK RX8 338 m_X8_tryOrders 11 := ⟨mo_X8_tryOrders, rfl, (List.mem_append_right _ (List.mem_of_getElem? (i := 1318) (by decide +kernel))), (List.mem_append_right _ (List.mem_of_getElem? (i := 1320) (by decide +kernel))), (List.mem_append_left _ (List.mem_of_getElem? (i := 20) (by decide +kernel))), TX8, 10, rfl⟩
theorem mpX8_355 : vOK RX8 355 m_X0_copyFrom 4 := ⟨mo_X0_copyFrom, rfl, (List.mem_append_right _ (List.mem_of_getElem? (i := 402) (by decide +kernel))), (List.mem_append_right _ (List.mem_of_getElem? (i := 403) (by decide +kernel))), (List.mem_append_right _ (List.mem_of_getElem? (i := 404) (by decide +kernel))), TX0, 10, rfl⟩
theorem mpX8_371 : vOK RX8 371 m_X2_size 6 := ⟨mo_X2_size, rfl, (List.mem_append_right _ (List.mem_of_getElem? (i := 1362) (by decide +kernel))), (List.mem_append_right _ (List.mem_of_getElem? (i := 1363) (by decide +kernel))), (List.mem_append_right _ (List.mem_of_getElem? (i := 1364) (by decide +kernel))), TX2, 3, rfl⟩
theorem mpX8_372 : vOK RX8 372 m_X0_accountOf 4 := ⟨mo_X0_accountOf, rfl, (List.mem_append_right _ (List.mem_of_getElem? (i := 1366) (by decide +kernel))), (List.mem_append_right _ (List.mem_of_getElem? (i := 1367) (by decide +kernel))), (List.mem_append_right _ (List.mem_of_getElem? (i := 1368) (by decide +kernel))), TX0, 10, rfl⟩
theorem mpX8_375 : vOK RX8 375 m_X0_areNotesAlike 4 := ⟨mo_X0_areNotesAlike, rfl, (List.mem_append_right _ (List.mem_of_getElem? (i := 337) (by decide +kernel))), (List.mem_append_right _ (List.mem_of_getElem? (i := 338) (by decide +kernel))), (List.mem_append_right _ (List.mem_of_getElem? (i := 339) (by decide +kernel))), TX0, 10, rfl⟩
theorem mpX8_378 : vOK RX8 378 m_X8_arePealsAlike 11 := ⟨mo_X8_arePealsAlike, rfl, (List.mem_append_right _ (List.mem_of_getElem? (i := 350) (by decide +kernel))), (List.mem_append_right _ (List.mem_of_getElem? (i := 352) (by decide +kernel))), (List.mem_append_left _ (List.mem_of_getElem? (i := 4) (by decide +kernel))), TX8, 10, rfl⟩
theorem mpX8_381 : vOK RX8 381 m_X0_doesBronzeAddUp 4 := ⟨mo_X0_doesBronzeAddUp, rfl, (List.mem_append_right _ (List.mem_of_getElem? (i := 376) (by decide +kernel))), (List.mem_append_right _ (List.mem_of_getElem? (i := 377) (by decide +kernel))), (List.mem_append_right _ (List.mem_of_getElem? (i := 378) (by decide +kernel))), TX0, 10, rfl⟩
theorem mpX8_384 : vOK RX8 384 m_X0_hasRoomOnRacks 4 := ⟨mo_X0_hasRoomOnRacks, rfl, (List.mem_append_right _ (List.mem_of_getElem? (i := 385) (by decide +kernel))), (List.mem_append_right _ (List.mem_of_getElem? (i := 386) (by decide +kernel))), (List.mem_append_right _ (List.mem_of_getElem? (i := 387) (by decide +kernel))), TX0, 10, rfl⟩
theorem mpX8_387 : vOK RX8 387 m_X8_pourable 11 := ⟨mo_X8_pourable, rfl, (List.mem_append_right _ (List.mem_of_getElem? (i := 397) (by decide +kernel))), (List.mem_append_right _ (List.mem_of_getElem? (i := 272) (by decide +kernel))), (List.mem_append_right _ (List.mem_of_getElem? (i := 273) (by decide +kernel))), TX8, 10, rfl⟩
theorem mpX8_396 : vOK RX8 396 m_X0_sumOfNotes 4 := ⟨mo_X0_sumOfNotes, rfl, (List.mem_append_right _ (List.mem_of_getElem? (i := 1398) (by decide +kernel))), (List.mem_append_right _ (List.mem_of_getElem? (i := 1399) (by decide +kernel))), (List.mem_append_right _ (List.mem_of_getElem? (i := 1400) (by decide +kernel))), TX0, 10, rfl⟩
theorem mpX8_399 : vOK RX8 399 m_X6_countOf 9 := ⟨mo_X6_countOf, rfl, (List.mem_append_right _ (List.mem_of_getElem? (i := 1409) (by decide +kernel))), (List.mem_append_right _ (List.mem_of_getElem? (i := 394) (by decide +kernel))), (List.mem_append_right _ (List.mem_of_getElem? (i := 395) (by decide +kernel))), TX6, 4, rfl⟩
theorem mpX8_404 : vOK RX8 404 m_X2_goBack 6 := ⟨mo_X2_goBack, rfl, (List.mem_append_right _ (List.mem_of_getElem? (i := 1418) (by decide +kernel))), (List.mem_append_right _ (List.mem_of_getElem? (i := 1419) (by decide +kernel))), (List.mem_append_right _ (List.mem_of_getElem? (i := 1420) (by decide +kernel))), TX2, 3, rfl⟩
theorem mpX8_409 : vOK RX8 409 m_X2_forget 6 := ⟨mo_X2_forget, rfl, (List.mem_append_right _ (List.mem_of_getElem? (i := 1430) (by decide +kernel))), (List.mem_append_right _ (List.mem_of_getElem? (i := 1431) (by decide +kernel))), (List.mem_append_right _ (List.mem_of_getElem? (i := 1432) (by decide +kernel))), TX2, 3, rfl⟩
theorem mpX8_412 : mmOK RX8 412 := ⟨(List.mem_append_right _ (List.mem_of_getElem? (i := 304) (by decide +kernel))), (List.mem_append_right _ (List.mem_of_getElem? (i := 56) (by decide +kernel))), (List.mem_append_right _ (List.mem_of_getElem? (i := 4) (by decide +kernel))), (List.mem_append_right _ (List.mem_of_getElem? (i := 57) (by decide +kernel)))⟩
theorem mpX8_417 : vOK RX8 417 m_J4_setLength_d00df 1 := ⟨mo_J4_setLength_d00df, rfl, (List.mem_append_right _ (List.mem_of_getElem? (i := 929) (by decide +kernel))), (List.mem_append_right _ (List.mem_of_getElem? (i := 930) (by decide +kernel))), (List.mem_append_right _ (List.mem_of_getElem? (i := 931) (by decide +kernel))), TJ4, 4, rfl⟩
theorem mpX8_420 : vOK RX8 420 m_J4_append_bf812 1 := ⟨mo_J4_append_bf812, rfl, (List.mem_append_right _ (List.mem_of_getElem? (i := 1182) (by decide +kernel))), (List.mem_append_right _ (List.mem_of_getElem? (i := 1061) (by decide +kernel))), (List.mem_append_right _ (List.mem_of_getElem? (i := 1062) (by decide +kernel))), TJ4, 4, rfl⟩
theorem mpX8_424 : vOK RX8 424 m_J4_append_cf468 1 := ⟨mo_J4_append_cf468, rfl, (List.mem_append_right _ (List.mem_of_getElem? (i := 1183) (by decide +kernel))), (List.mem_append_right _ (List.mem_of_getElem? (i := 1184) (by decide +kernel))), (List.mem_append_right _ (List.mem_of_getElem? (i := 1185) (by decide +kernel))), TJ4, 4, rfl⟩
theorem mpX8_427 : vOK RX8 427 m_X8_judge 11 := ⟨mo_X8_judge, rfl, (List.mem_append_right _ (List.mem_of_getElem? (i := 1322) (by decide +kernel))), (List.mem_append_right _ (List.mem_of_getElem? (i := 1324) (by decide +kernel))), (List.mem_append_left _ (List.mem_of_getElem? (i := 21) (by decide +kernel))), TX8, 10, rfl⟩
theorem mpX8_434 : vOK RX8 434 m_X8_carryOut 11 := ⟨mo_X8_carryOut, rfl, (List.mem_append_right _ (List.mem_of_getElem? (i := 1340) (by decide +kernel))), (List.mem_append_right _ (List.mem_of_getElem? (i := 1342) (by decide +kernel))), (List.mem_append_left _ (List.mem_of_getElem? (i := 24) (by decide +kernel))), TX8, 10, rfl⟩
theorem mpX8_438 : vOK RX8 438 m_X8_isPossible 11 := ⟨mo_X8_isPossible, rfl, (List.mem_append_right _ (List.mem_of_getElem? (i := 1326) (by decide +kernel))), (List.mem_append_right _ (List.mem_of_getElem? (i := 1328) (by decide +kernel))), (List.mem_append_left _ (List.mem_of_getElem? (i := 22) (by decide +kernel))), TX8, 10, rfl⟩
theorem mpX8_441 : vOK RX8 441 m_X8_isRefused 11 := ⟨mo_X8_isRefused, rfl, (List.mem_append_right _ (List.mem_of_getElem? (i := 1332) (by decide +kernel))), (List.mem_append_right _ (List.mem_of_getElem? (i := 1334) (by decide +kernel))), (List.mem_append_left _ (List.mem_of_getElem? (i := 23) (by decide +kernel))), TX8, 10, rfl⟩
theorem mlpX8 : ∀ q ∈ mlX8, ((match q.2.1 with
    | 0 => vOK RX8 q.1 q.2.2.1 q.2.2.2
    | 1 => sOK RX8 q.1 q.2.2.1
    | 2 => iOK RX8 q.1 q.2.2.1
    | 3 => snOK RX8 q.1 q.2.2.1
    | 4 => inOK RX8 q.1 q.2.2.1
    | 5 => oiOK RX8 q.1
    | 6 => mmOK RX8 q.1
    | 7 => mnOK RX8 q.1
    | 8 => acOK RX8 q.1
    | 9 => uOK RX8 q.1 q.2.2.1
    | 10 => suOK RX8 q.1 q.2.2.1
    | 11 => swOK RX8 q.1 q.2.2.1
    | _ => False) : Prop) := (fa_cons mpX8_1 (fa_cons mpX8_9 (fa_cons mpX8_21 (fa_cons mpX8_28 (fa_cons mpX8_35 (fa_cons mpX8_42 (fa_cons mpX8_49 (fa_cons mpX8_56 (fa_cons mpX8_68 (fa_cons mpX8_79 (fa_cons mpX8_83 (fa_cons mpX8_92 (fa_cons mpX8_101 (fa_cons mpX8_107 (fa_cons mpX8_113 (fa_cons mpX8_119 (fa_cons mpX8_127 (fa_cons mpX8_138 (fa_cons mpX8_141 (fa_cons mpX8_145 (fa_cons mpX8_148 (fa_cons mpX8_152 (fa_cons mpX8_155 (fa_cons mpX8_162 (fa_cons mpX8_167 (fa_cons mpX8_175 (fa_cons mpX8_180 (fa_cons mpX8_183 (fa_cons mpX8_186 (fa_cons mpX8_191 (fa_cons mpX8_196 (fa_cons mpX8_202 (fa_cons mpX8_207 (fa_cons mpX8_215 (fa_cons mpX8_220 (fa_cons mpX8_223 (fa_cons mpX8_228 (fa_cons mpX8_233 (fa_cons mpX8_238 (fa_cons mpX8_242 (fa_cons mpX8_245 (fa_cons mpX8_250 (fa_cons mpX8_257 (fa_cons mpX8_260 (fa_cons mpX8_265 (fa_cons mpX8_268 (fa_cons mpX8_271 (fa_cons mpX8_279 (fa_cons mpX8_284 (fa_cons mpX8_287 (fa_cons mpX8_290 (fa_cons mpX8_293 (fa_cons mpX8_296 (fa_cons mpX8_301 (fa_cons mpX8_304 (fa_cons mpX8_307 (fa_cons mpX8_312 (fa_cons mpX8_316 (fa_cons mpX8_325 (fa_cons mpX8_329 (fa_cons mpX8_330 (fa_cons mpX8_333 (fa_cons mpX8_338 (fa_cons mpX8_355 (fa_cons mpX8_371 (fa_cons mpX8_372 (fa_cons mpX8_375 (fa_cons mpX8_378 (fa_cons mpX8_381 (fa_cons mpX8_384 (fa_cons mpX8_387 (fa_cons mpX8_396 (fa_cons mpX8_399 (fa_cons mpX8_404 (fa_cons mpX8_409 (fa_cons mpX8_412 (fa_cons mpX8_417 (fa_cons mpX8_420 (fa_cons mpX8_424 (fa_cons mpX8_427 (fa_cons mpX8_434 (fa_cons mpX8_438 (fa_cons mpX8_441 fa_nil)))))))))))))))))))))))))))))))))))))))))))))))))))))))))))))))))))))))))))))))))))
def clPX8 (q : Nat × (Nat ⊕ Nat)) : Prop := match q.2 with
  | .inl ci => (∀ n fs, newF ci = some (n, fs) → newOK RX8 q.1 ci n fs) ∧ (ci = 4 → Jvm.Cond.classLink RX8 q.1 RX0 ∈ lw_tbl)
  | .inr _ => True
theorem clpX8 : ∀ q ∈ clX8, clPX8 q := (fa_cons ⟨(fun n fs h => by cases h; exact ⟨clOK4, RX0, TX0, tyX0, rfl, tyX0_ok, by decide +kernel, (List.mem_append_right _ (List.mem_of_getElem? (i := 43) (by decide +kernel))), (List.mem_append_right _ (List.mem_of_getElem? (i := 44) (by decide +kernel))), (List.mem_append_right _ (List.mem_of_getElem? (i := 2) (by decide +kernel)))⟩), (fun _ => (List.mem_append_right _ (List.mem_of_getElem? (i := 43) (by decide +kernel))))⟩ (fa_cons ⟨(fun n fs h => by cases h; exact ⟨clOK6, RX2, TX2, tyX2, rfl, tyX2_ok, by decide +kernel, (List.mem_append_right _ (List.mem_of_getElem? (i := 112) (by decide +kernel))), (List.mem_append_right _ (List.mem_of_getElem? (i := 113) (by decide +kernel))), (List.mem_append_right _ (List.mem_of_getElem? (i := 5) (by decide +kernel)))⟩), (fun h => nomatch h)⟩ (fa_cons ⟨(fun n fs h => by cases h; exact ⟨clOK8, RX5, TX5, tyX5, rfl, tyX5_ok, by decide +kernel, (List.mem_append_right _ (List.mem_of_getElem? (i := 130) (by decide +kernel))), (List.mem_append_right _ (List.mem_of_getElem? (i := 131) (by decide +kernel))), (List.mem_append_right _ (List.mem_of_getElem? (i := 6) (by decide +kernel)))⟩), (fun h => nomatch h)⟩ (fa_cons ⟨(fun n fs h => by cases h; exact ⟨clOK10, RX7, TX7, tyX7, rfl, tyX7_ok, by decide +kernel, (List.mem_append_right _ (List.mem_of_getElem? (i := 145) (by decide +kernel))), (List.mem_append_right _ (List.mem_of_getElem? (i := 146) (by decide +kernel))), (List.mem_append_right _ (List.mem_of_getElem? (i := 7) (by decide +kernel)))⟩), (fun h => nomatch h)⟩ (fa_cons ⟨(fun n fs h => by cases h; exact ⟨clOK5, RX1, TX1, tyX1, rfl, tyX1_ok, by decide +kernel, (List.mem_append_right _ (List.mem_of_getElem? (i := 168) (by decide +kernel))), (List.mem_append_right _ (List.mem_of_getElem? (i := 169) (by decide +kernel))), (List.mem_append_right _ (List.mem_of_getElem? (i := 8) (by decide +kernel)))⟩), (fun h => nomatch h)⟩ (fa_cons ⟨(fun n fs h => by cases h; exact ⟨clOK7, RX4, TX4, tyX4, rfl, tyX4_ok, by decide +kernel, (List.mem_append_right _ (List.mem_of_getElem? (i := 179) (by decide +kernel))), (List.mem_append_right _ (List.mem_of_getElem? (i := 180) (by decide +kernel))), (List.mem_append_right _ (List.mem_of_getElem? (i := 9) (by decide +kernel)))⟩), (fun h => nomatch h)⟩ (fa_cons ⟨(fun n fs h => by cases h; exact ⟨clOK1, RJ4, TJ4, tyJ4, rfl, tyJ4_ok, by decide +kernel, (List.mem_append_right _ (List.mem_of_getElem? (i := 207) (by decide +kernel))), (List.mem_append_right _ (List.mem_of_getElem? (i := 208) (by decide +kernel))), (List.mem_append_right _ (List.mem_of_getElem? (i := 11) (by decide +kernel)))⟩), (fun h => nomatch h)⟩ (fa_cons (trivial) (fa_cons (trivial) (fa_cons (trivial) (fa_cons (trivial) (fa_cons (trivial) (fa_cons (trivial) fa_nil)))))))))))))
theorem nlpX8 : ∀ q ∈ nlX8, Jvm.Cond.constant RX8 q.1 q.2 ∈ lw_tbl := fa_nil
theorem cpokX8 : cpOK RX8 false cpX8 := by
  refine ⟨fun k ci j ty fin h => flpX8 _ (lkp_mem h), fun k v h => slpX8 _ (lkp_mem h), fun k t y ci h => ?_, fun k ci h => clpX8 _ (lkp_mem h), fun k v h => nlpX8 _ (lkp_mem h)⟩
  exact mlpX8 _ (lkp_mem h)
theorem cpokIX8 : cpOK RX8 true cpIX8 := by
  refine ⟨fun k ci j ty fin h => fipX8 _ (lkp_mem h), fun k v h => slpX8 _ (lkp_mem h), fun k t y ci h => ?_, fun k ci h => clpX8 _ (lkp_mem h), fun k v h => nlpX8 _ (lkp_mem h)⟩
  exact mlpX8 _ (lkp_mem h)
def icX8 (x : Nat) : Nat := match x with
  | 0 => 76
  | 1 => 100
  | 2 => 137
  | 3 => 278
  | 4 => 324
  | 5 => 395
  | _ => 0
def stX8 : List (Nat × String) := [(74, "the loads are not from 1 to 20"), (90, "the pounds are not from 1 to 500"), (98, "the furnace would be too full"), (111, "the core is not from 10 to 60, or the sand not from 0 to 4"), (117, "there would be too many moulds"), (135, "there is no such mould"), (158, "what is not from 0 to 4"), (160, "the draught is not from 1 to 9"), (165, "there would be too many racks"), (173, "there is no such rack"), (178, "there are bells on the rack"), (189, "what is not from 0 to 2"), (194, "there is no such mould or rack"), (200, "the mould cannot be poured onto the rack"), (205, "the hours are not from 1 to 48"), (213, "there is no such bell"), (218, "the bell is in the hall, or warm"), (226, "the bell is not in the hall"), (231, "the marks are not from 1 to 6"), (236, "the bell is not in the hall, or would have too many marks"), (248, "the bell is not in the hall, or the furnace would be too full"), (253, "what is not from 0 to 6"), (255, "the hours are not from 0 to 48"), (263, "the note is not from 0 to 100"), (276, "there are no bells in the hall"), (282, "there is no such place"), (299, "no mould could be poured"), (310, "there is no such index in the line"), (322, "the input contains 60 characters"), (336, "the text has an error"), (348, "an order has a number that cannot be"), (353, "an order is refused"), (364, "nothing was refused"), (369, "what is not from 0 to 15"), (393, "there are no bells"), (402, "no change can be undone"), (407, "there is no snapshot")]
theorem stpX8 : ∀ q ∈ stX8, Jvm.Cond.stringRef RX8 q.1 q.2 ∈ lw_tbl := (fa_cons ((List.mem_append_right _ (List.mem_of_getElem? (i := 468) (by decide +kernel)))) (fa_cons ((List.mem_append_right _ (List.mem_of_getElem? (i := 514) (by decide +kernel)))) (fa_cons ((List.mem_append_right _ (List.mem_of_getElem? (i := 532) (by decide +kernel)))) (fa_cons ((List.mem_append_right _ (List.mem_of_getElem? (i := 553) (by decide +kernel)))) (fa_cons ((List.mem_append_right _ (List.mem_of_getElem? (i := 558) (by decide +kernel)))) (fa_cons ((List.mem_append_right _ (List.mem_of_getElem? (i := 615) (by decide +kernel)))) (fa_cons ((List.mem_append_right _ (List.mem_of_getElem? (i := 633) (by decide +kernel)))) (fa_cons ((List.mem_append_right _ (List.mem_of_getElem? (i := 641) (by decide +kernel)))) (fa_cons ((List.mem_append_right _ (List.mem_of_getElem? (i := 646) (by decide +kernel)))) (fa_cons ((List.mem_append_right _ (List.mem_of_getElem? (i := 658) (by decide +kernel)))) (fa_cons ((List.mem_append_right _ (List.mem_of_getElem? (i := 663) (by decide +kernel)))) (fa_cons ((List.mem_append_right _ (List.mem_of_getElem? (i := 686) (by decide +kernel)))) (fa_cons ((List.mem_append_right _ (List.mem_of_getElem? (i := 699) (by decide +kernel)))) (fa_cons ((List.mem_append_right _ (List.mem_of_getElem? (i := 706) (by decide +kernel)))) (fa_cons ((List.mem_append_right _ (List.mem_of_getElem? (i := 719) (by decide +kernel)))) (fa_cons ((List.mem_append_right _ (List.mem_of_getElem? (i := 748) (by decide +kernel)))) (fa_cons ((List.mem_append_right _ (List.mem_of_getElem? (i := 753) (by decide +kernel)))) (fa_cons ((List.mem_append_right _ (List.mem_of_getElem? (i := 769) (by decide +kernel)))) (fa_cons ((List.mem_append_right _ (List.mem_of_getElem? (i := 781) (by decide +kernel)))) (fa_cons ((List.mem_append_right _ (List.mem_of_getElem? (i := 787) (by decide +kernel)))) (fa_cons ((List.mem_append_right _ (List.mem_of_getElem? (i := 809) (by decide +kernel)))) (fa_cons ((List.mem_append_right _ (List.mem_of_getElem? (i := 821) (by decide +kernel)))) (fa_cons ((List.mem_append_right _ (List.mem_of_getElem? (i := 836) (by decide +kernel)))) (fa_cons ((List.mem_append_right _ (List.mem_of_getElem? (i := 859) (by decide +kernel)))) (fa_cons ((List.mem_append_right _ (List.mem_of_getElem? (i := 877) (by decide +kernel)))) (fa_cons ((List.mem_append_right _ (List.mem_of_getElem? (i := 896) (by decide +kernel)))) (fa_cons ((List.mem_append_right _ (List.mem_of_getElem? (i := 917) (by decide +kernel)))) (fa_cons ((List.mem_append_right _ (List.mem_of_getElem? (i := 1224) (by decide +kernel)))) (fa_cons ((List.mem_append_right _ (List.mem_of_getElem? (i := 1256) (by decide +kernel)))) (fa_cons ((List.mem_append_right _ (List.mem_of_getElem? (i := 1317) (by decide +kernel)))) (fa_cons ((List.mem_append_right _ (List.mem_of_getElem? (i := 1344) (by decide +kernel)))) (fa_cons ((List.mem_append_right _ (List.mem_of_getElem? (i := 1345) (by decide +kernel)))) (fa_cons ((List.mem_append_right _ (List.mem_of_getElem? (i := 1353) (by decide +kernel)))) (fa_cons ((List.mem_append_right _ (List.mem_of_getElem? (i := 1361) (by decide +kernel)))) (fa_cons ((List.mem_append_right _ (List.mem_of_getElem? (i := 1396) (by decide +kernel)))) (fa_cons ((List.mem_append_right _ (List.mem_of_getElem? (i := 1417) (by decide +kernel)))) (fa_cons ((List.mem_append_right _ (List.mem_of_getElem? (i := 1429) (by decide +kernel)))) fa_nil)))))))))))))))))))))))))))))))))))))
theorem thwX8_0 : thrW RX8 76 0 := fun q hq => of_decide_eq_true (List.all_eq_true.mp (show (exW RX8 76 0).all (fun q => decide (q ∈ lw_tbl ∧ trW q = true ∧ vx_ot q = true)) = true by decide +kernel) q hq)
theorem thwX8_1 : thrW RX8 100 1 := fun q hq => of_decide_eq_true (List.all_eq_true.mp (show (exW RX8 100 1).all (fun q => decide (q ∈ lw_tbl ∧ trW q = true ∧ vx_ot q = true)) = true by decide +kernel) q hq)
theorem thwX8_2 : thrW RX8 137 2 := fun q hq => of_decide_eq_true (List.all_eq_true.mp (show (exW RX8 137 2).all (fun q => decide (q ∈ lw_tbl ∧ trW q = true ∧ vx_ot q = true)) = true by decide +kernel) q hq)
theorem thwX8_3 : thrW RX8 278 3 := fun q hq => of_decide_eq_true (List.all_eq_true.mp (show (exW RX8 278 3).all (fun q => decide (q ∈ lw_tbl ∧ trW q = true ∧ vx_ot q = true)) = true by decide +kernel) q hq)
theorem thwX8_4 : thrW RX8 324 4 := fun q hq => of_decide_eq_true (List.all_eq_true.mp (show (exW RX8 324 4).all (fun q => decide (q ∈ lw_tbl ∧ trW q = true ∧ vx_ot q = true)) = true by decide +kernel) q hq)
theorem thwX8_5 : thrW RX8 395 5 := fun q hq => of_decide_eq_true (List.all_eq_true.mp (show (exW RX8 395 5).all (fun q => decide (q ∈ lw_tbl ∧ trW q = true ∧ vx_ot q = true)) = true by decide +kernel) q hq)
def thPX8 (q : Nat × (Nat ⊕ Nat)) : Prop := match q.2 with
  | .inl _ => True
  | .inr x => Jvm.Cond.classLink RX8 q.1 (exN x) ∈ lw_tbl ∧ Jvm.Cond.initialized (exN x) ∈ lw_tbl ∧ thrW RX8 (icX8 x) x
theorem thpX8 : ∀ q ∈ clX8, thPX8 q := (fa_cons trivial (fa_cons trivial (fa_cons trivial (fa_cons trivial (fa_cons trivial (fa_cons trivial (fa_cons trivial (fa_cons ⟨(List.mem_append_right _ (List.mem_of_getElem? (i := 422) (by decide +kernel))), (List.mem_append_right _ (List.mem_of_getElem? (i := 18) (by decide +kernel))), thwX8_0⟩ (fa_cons ⟨(List.mem_append_right _ (List.mem_of_getElem? (i := 523) (by decide +kernel))), (List.mem_append_right _ (List.mem_of_getElem? (i := 19) (by decide +kernel))), thwX8_1⟩ (fa_cons ⟨(List.mem_append_right _ (List.mem_of_getElem? (i := 606) (by decide +kernel))), (List.mem_append_right _ (List.mem_of_getElem? (i := 20) (by decide +kernel))), thwX8_2⟩ (fa_cons ⟨(List.mem_append_right _ (List.mem_of_getElem? (i := 868) (by decide +kernel))), (List.mem_append_right _ (List.mem_of_getElem? (i := 22) (by decide +kernel))), thwX8_3⟩ (fa_cons ⟨(List.mem_append_right _ (List.mem_of_getElem? (i := 1247) (by decide +kernel))), (List.mem_append_right _ (List.mem_of_getElem? (i := 31) (by decide +kernel))), thwX8_4⟩ (fa_cons ⟨(List.mem_append_right _ (List.mem_of_getElem? (i := 1395) (by decide +kernel))), (List.mem_append_right _ (List.mem_of_getElem? (i := 34) (by decide +kernel))), thwX8_5⟩ fa_nil)))))))))))))
def flX0 : List (Nat × (Nat × Nat × FieldType × Bool)) := [(14, (4, 0, .object "BellCores$Table", true)), (20, (4, 1, .object "BellCores$Table", true)), (23, (4, 2, .object "BellCores$Table", true)), (26, (4, 3, .int, false)), (30, (4, 4, .int, false)), (33, (4, 5, .int, false)), (36, (4, 6, .int, false)), (39, (4, 7, .int, false)), (42, (4, 8, .int, false)), (45, (4, 9, .int, false))]
def fiX0 : List (Nat × (Nat × Nat × FieldType × Bool)) := [(14, (4, 0, .object "BellCores$Table", true)), (20, (4, 1, .object "BellCores$Table", true)), (23, (4, 2, .object "BellCores$Table", true)), (26, (4, 3, .int, false)), (30, (4, 4, .int, false)), (33, (4, 5, .int, false)), (36, (4, 6, .int, false)), (39, (4, 7, .int, false)), (42, (4, 8, .int, false)), (45, (4, 9, .int, false))]
def slX0 : List (Nat × Value) := [(143, .retAddr 0)]
def mlX0 : List (Nat × (Nat × m0T × Nat)) := [(3, (5, mNone, 0)), (11, (2, m_X6_init, 0)), (48, (0, m_X6_copyFrom, 9)), (52, (7, mNone, 0)), (58, (0, m_X5_keep, 8)), (64, (0, m_X6_size, 9)), (68, (0, m_X6_add, 9)), (71, (0, m_X6_put, 9)), (75, (0, m_X0_bellsOn, 4)), (79, (0, m_X6_drop, 9)), (83, (0, m_X6_get, 9)), (86, (0, m_X6_raise, 9)), (89, (0, m_X6_countOf, 9)), (92, (0, m_X6_has, 9)), (96, (3, m_X8_poundsFor, 0)), (99, (3, m_X8_heatFor, 0)), (102, (3, m_X8_firstNote, 0)), (105, (3, m_X8_heatAfterPouring, 0)), (108, (6, mNone, 0)), (111, (0, m_X0_lossOf, 4)), (114, (0, m_X0_cracksToCome, 4)), (118, (0, m_X0_addCracks, 4)), (121, (0, m_X0_lossOn, 4)), (124, (1, m_X0_warmHours, 0)), (127, (0, m_X0_noteOf, 4)), (130, (0, m_X0_refusesOutsideHall, 4)), (134, (0, m_X0_backByRecast, 4)), (137, (0, m_X0_refusesPounds, 4)), (140, (0, m_X0_bellsAheadOf, 4)), (147, (0, m_X0_isHeard, 4)), (150, (0, m_X6_sumOf, 9)), (153, (0, m_X0_soundInHall, 4))]
def clX0 : List (Nat × (Nat ⊕ Nat)) := [(9, .inl 9)]
def nlX0 : List (Nat × Int32) := []
def cpX0 : cpT := (lkp flX0, lkp slX0, lkp mlX0, lkp clX0, lkp nlX0)
def cpIX0 : cpT := (lkp fiX0, lkp slX0, lkp mlX0, lkp clX0, lkp nlX0)
theorem fipX0 : ∀ q ∈ fiX0, fldOK RX0 true q.1 q.2.1 q.2.2.1 q.2.2.2.1 q.2.2.2.2 := (fa_cons ⟨clOK4, RX0, TX0, 10, rfl, by decide, rfl, by decide +kernel, (List.mem_append_right _ (List.mem_of_getElem? (i := 72) (by decide +kernel))), fun _ _ => rfl⟩ (fa_cons ⟨clOK4, RX0, TX0, 10, rfl, by decide, rfl, by decide +kernel, (List.mem_append_right _ (List.mem_of_getElem? (i := 75) (by decide +kernel))), fun _ _ => rfl⟩ (fa_cons ⟨clOK4, RX0, TX0, 10, rfl, by decide, rfl, by decide +kernel, (List.mem_append_right _ (List.mem_of_getElem? (i := 77) (by decide +kernel))), fun _ _ => rfl⟩ (fa_cons ⟨clOK4, RX0, TX0, 10, rfl, by decide, rfl, by decide +kernel, (List.mem_append_right _ (List.mem_of_getElem? (i := 80) (by decide +kernel))), fun h => nomatch h⟩ (fa_cons ⟨clOK4, RX0, TX0, 10, rfl, by decide, rfl, by decide +kernel, (List.mem_append_right _ (List.mem_of_getElem? (i := 83) (by decide +kernel))), fun h => nomatch h⟩ (fa_cons ⟨clOK4, RX0, TX0, 10, rfl, by decide, rfl, by decide +kernel, (List.mem_append_right _ (List.mem_of_getElem? (i := 86) (by decide +kernel))), fun h => nomatch h⟩ (fa_cons ⟨clOK4, RX0, TX0, 10, rfl, by decide, rfl, by decide +kernel, (List.mem_append_right _ (List.mem_of_getElem? (i := 87) (by decide +kernel))), fun h => nomatch h⟩ (fa_cons ⟨clOK4, RX0, TX0, 10, rfl, by decide, rfl, by decide +kernel, (List.mem_append_right _ (List.mem_of_getElem? (i := 88) (by decide +kernel))), fun h => nomatch h⟩ (fa_cons ⟨clOK4, RX0, TX0, 10, rfl, by decide, rfl, by decide +kernel, (List.mem_append_right _ (List.mem_of_getElem? (i := 89) (by decide +kernel))), fun h => nomatch h⟩ (fa_cons ⟨clOK4, RX0, TX0, 10, rfl, by decide, rfl, by decide +kernel, (List.mem_append_right _ (List.mem_of_getElem? (i := 90) (by decide +kernel))), fun h => nomatch h⟩ fa_nil))))))))))
theorem flpX0 : ∀ q ∈ flX0, fldOK RX0 false q.1 q.2.1 q.2.2.1 q.2.2.2.1 q.2.2.2.2 := (fa_cons ⟨clOK4, RX0, TX0, 10, rfl, by decide, rfl, by decide +kernel, (List.mem_append_right _ (List.mem_of_getElem? (i := 72) (by decide +kernel))), fun _ h => nomatch h⟩ (fa_cons ⟨clOK4, RX0, TX0, 10, rfl, by decide, rfl, by decide +kernel, (List.mem_append_right _ (List.mem_of_getElem? (i := 75) (by decide +kernel))), fun _ h => nomatch h⟩ (fa_cons ⟨clOK4, RX0, TX0, 10, rfl, by decide, rfl, by decide +kernel, (List.mem_append_right _ (List.mem_of_getElem? (i := 77) (by decide +kernel))), fun _ h => nomatch h⟩ (fa_cons ⟨clOK4, RX0, TX0, 10, rfl, by decide, rfl, by decide +kernel, (List.mem_append_right _ (List.mem_of_getElem? (i := 80) (by decide +kernel))), fun _ h => nomatch h⟩ (fa_cons ⟨clOK4, RX0, TX0, 10, rfl, by decide, rfl, by decide +kernel, (List.mem_append_right _ (List.mem_of_getElem? (i := 83) (by decide +kernel))), fun _ h => nomatch h⟩ (fa_cons ⟨clOK4, RX0, TX0, 10, rfl, by decide, rfl, by decide +kernel, (List.mem_append_right _ (List.mem_of_getElem? (i := 86) (by decide +kernel))), fun _ h => nomatch h⟩ (fa_cons ⟨clOK4, RX0, TX0, 10, rfl, by decide, rfl, by decide +kernel, (List.mem_append_right _ (List.mem_of_getElem? (i := 87) (by decide +kernel))), fun _ h => nomatch h⟩ (fa_cons ⟨clOK4, RX0, TX0, 10, rfl, by decide, rfl, by decide +kernel, (List.mem_append_right _ (List.mem_of_getElem? (i := 88) (by decide +kernel))), fun _ h => nomatch h⟩ (fa_cons ⟨clOK4, RX0, TX0, 10, rfl, by decide, rfl, by decide +kernel, (List.mem_append_right _ (List.mem_of_getElem? (i := 89) (by decide +kernel))), fun _ h => nomatch h⟩ (fa_cons ⟨clOK4, RX0, TX0, 10, rfl, by decide, rfl, by decide +kernel, (List.mem_append_right _ (List.mem_of_getElem? (i := 90) (by decide +kernel))), fun _ h => nomatch h⟩ fa_nil))))))))))
theorem slpX0 : ∀ q ∈ slX0, stcOK RX0 q.1 q.2 := (fa_cons ⟨_, List.mem_of_getElem? (i := 0) rfl, rfl, Or.inr ⟨"BellCores", (List.mem_append_right _ (List.mem_of_getElem? (i := 371) (by decide +kernel)))⟩⟩ fa_nil)
theorem mpX0_3 : oiOK RX0 3 := ⟨(List.mem_append_right _ (List.mem_of_getElem? (i := 48) (by decide +kernel))), (List.mem_append_right _ (List.mem_of_getElem? (i := 41) (by decide +kernel))), (List.mem_append_right _ (List.mem_of_getElem? (i := 42) (by decide +kernel)))⟩
theorem mpX0_11 : iOK RX0 11 m_X6_init := ⟨mo_X6_init, rfl, rfl, (List.mem_append_right _ (List.mem_of_getElem? (i := 51) (by decide +kernel))), rfl, (List.mem_append_right _ (List.mem_of_getElem? (i := 52) (by decide +kernel)))⟩
theorem mpX0_48 : vOK RX0 48 m_X6_copyFrom 9 := ⟨mo_X6_copyFrom, rfl, (List.mem_append_right _ (List.mem_of_getElem? (i := 406) (by decide +kernel))), (List.mem_append_right _ (List.mem_of_getElem? (i := 407) (by decide +kernel))), (List.mem_append_right _ (List.mem_of_getElem? (i := 408) (by decide +kernel))), TX6, 4, rfl⟩
theorem mpX0_52 : mnOK RX0 52 := ⟨(List.mem_append_right _ (List.mem_of_getElem? (i := 505) (by decide +kernel))), (List.mem_append_right _ (List.mem_of_getElem? (i := 284) (by decide +kernel))), (List.mem_append_right _ (List.mem_of_getElem? (i := 4) (by decide +kernel))), (List.mem_append_right _ (List.mem_of_getElem? (i := 285) (by decide +kernel)))⟩
theorem mpX0_58 : vOK RX0 58 m_X5_keep 8 := ⟨mo_X5_keep, rfl, (List.mem_append_right _ (List.mem_of_getElem? (i := 519) (by decide +kernel))), (List.mem_append_right _ (List.mem_of_getElem? (i := 520) (by decide +kernel))), (List.mem_append_right _ (List.mem_of_getElem? (i := 521) (by decide +kernel))), TX5, 2, rfl⟩
theorem mpX0_64 : vOK RX0 64 m_X6_size 9 := ⟨mo_X6_size, rfl, (List.mem_append_right _ (List.mem_of_getElem? (i := 341) (by decide +kernel))), (List.mem_append_right _ (List.mem_of_getElem? (i := 280) (by decide +kernel))), (List.mem_append_right _ (List.mem_of_getElem? (i := 281) (by decide +kernel))), TX6, 4, rfl⟩
theorem mpX0_68 : vOK RX0 68 m_X6_add 9 := ⟨mo_X6_add, rfl, (List.mem_append_right _ (List.mem_of_getElem? (i := 563) (by decide +kernel))), (List.mem_append_right _ (List.mem_of_getElem? (i := 564) (by decide +kernel))), (List.mem_append_right _ (List.mem_of_getElem? (i := 565) (by decide +kernel))), TX6, 4, rfl⟩
theorem mpX0_71 : vOK RX0 71 m_X6_put 9 := ⟨mo_X6_put, rfl, (List.mem_append_right _ (List.mem_of_getElem? (i := 567) (by decide +kernel))), (List.mem_append_right _ (List.mem_of_getElem? (i := 568) (by decide +kernel))), (List.mem_append_right _ (List.mem_of_getElem? (i := 569) (by decide +kernel))), TX6, 4, rfl⟩
theorem mpX0_75 : vOK RX0 75 m_X0_bellsOn 4 := ⟨mo_X0_bellsOn, rfl, (List.mem_append_right _ (List.mem_of_getElem? (i := 389) (by decide +kernel))), (List.mem_append_right _ (List.mem_of_getElem? (i := 390) (by decide +kernel))), (List.mem_append_right _ (List.mem_of_getElem? (i := 391) (by decide +kernel))), TX0, 10, rfl⟩
theorem mpX0_79 : vOK RX0 79 m_X6_drop 9 := ⟨mo_X6_drop, rfl, (List.mem_append_right _ (List.mem_of_getElem? (i := 668) (by decide +kernel))), (List.mem_append_right _ (List.mem_of_getElem? (i := 620) (by decide +kernel))), (List.mem_append_right _ (List.mem_of_getElem? (i := 621) (by decide +kernel))), TX6, 4, rfl⟩
theorem mpX0_83 : vOK RX0 83 m_X6_get 9 := ⟨mo_X6_get, rfl, (List.mem_append_right _ (List.mem_of_getElem? (i := 346) (by decide +kernel))), (List.mem_append_right _ (List.mem_of_getElem? (i := 287) (by decide +kernel))), (List.mem_append_right _ (List.mem_of_getElem? (i := 288) (by decide +kernel))), TX6, 4, rfl⟩
theorem mpX0_86 : vOK RX0 86 m_X6_raise 9 := ⟨mo_X6_raise, rfl, (List.mem_append_right _ (List.mem_of_getElem? (i := 669) (by decide +kernel))), (List.mem_append_right _ (List.mem_of_getElem? (i := 670) (by decide +kernel))), (List.mem_append_right _ (List.mem_of_getElem? (i := 671) (by decide +kernel))), TX6, 4, rfl⟩
theorem mpX0_89 : vOK RX0 89 m_X6_countOf 9 := ⟨mo_X6_countOf, rfl, (List.mem_append_right _ (List.mem_of_getElem? (i := 393) (by decide +kernel))), (List.mem_append_right _ (List.mem_of_getElem? (i := 394) (by decide +kernel))), (List.mem_append_right _ (List.mem_of_getElem? (i := 395) (by decide +kernel))), TX6, 4, rfl⟩
theorem mpX0_92 : vOK RX0 92 m_X6_has 9 := ⟨mo_X6_has, rfl, (List.mem_append_right _ (List.mem_of_getElem? (i := 698) (by decide +kernel))), (List.mem_append_right _ (List.mem_of_getElem? (i := 603) (by decide +kernel))), (List.mem_append_right _ (List.mem_of_getElem? (i := 604) (by decide +kernel))), TX6, 4, rfl⟩
theorem mpX0_96 : snOK RX0 96 m_X8_poundsFor := ⟨mo_X8_poundsFor, rfl, ⟨"BellCores", (List.mem_append_right _ (List.mem_of_getElem? (i := 704) (by decide +kernel)))⟩, (List.mem_append_right _ (List.mem_of_getElem? (i := 302) (by decide +kernel)))⟩
theorem mpX0_99 : snOK RX0 99 m_X8_heatFor := ⟨mo_X8_heatFor, rfl, ⟨"BellCores", (List.mem_append_right _ (List.mem_of_getElem? (i := 705) (by decide +kernel)))⟩, (List.mem_append_right _ (List.mem_of_getElem? (i := 318) (by decide +kernel)))⟩
theorem mpX0_102 : snOK RX0 102 m_X8_firstNote := ⟨mo_X8_firstNote, rfl, ⟨"BellCores", (List.mem_append_right _ (List.mem_of_getElem? (i := 347) (by decide +kernel)))⟩, (List.mem_append_right _ (List.mem_of_getElem? (i := 348) (by decide +kernel)))⟩
theorem mpX0_105 : snOK RX0 105 m_X8_heatAfterPouring := ⟨mo_X8_heatAfterPouring, rfl, ⟨"BellCores", (List.mem_append_right _ (List.mem_of_getElem? (i := 711) (by decide +kernel)))⟩, (List.mem_append_right _ (List.mem_of_getElem? (i := 299) (by decide +kernel)))⟩
theorem mpX0_108 : mmOK RX0 108 := ⟨(List.mem_append_right _ (List.mem_of_getElem? (i := 724) (by decide +kernel))), (List.mem_append_right _ (List.mem_of_getElem? (i := 56) (by decide +kernel))), (List.mem_append_right _ (List.mem_of_getElem? (i := 4) (by decide +kernel))), (List.mem_append_right _ (List.mem_of_getElem? (i := 57) (by decide +kernel)))⟩
theorem mpX0_111 : vOK RX0 111 m_X0_lossOf 4 := ⟨mo_X0_lossOf, rfl, (List.mem_append_right _ (List.mem_of_getElem? (i := 725) (by decide +kernel))), (List.mem_append_right _ (List.mem_of_getElem? (i := 727) (by decide +kernel))), (List.mem_append_left _ (List.mem_of_getElem? (i := 7) (by decide +kernel))), TX0, 10, rfl⟩
theorem mpX0_114 : vOK RX0 114 m_X0_cracksToCome 4 := ⟨mo_X0_cracksToCome, rfl, (List.mem_append_right _ (List.mem_of_getElem? (i := 730) (by decide +kernel))), (List.mem_append_right _ (List.mem_of_getElem? (i := 732) (by decide +kernel))), (List.mem_append_left _ (List.mem_of_getElem? (i := 8) (by decide +kernel))), TX0, 10, rfl⟩
theorem mpX0_118 : vOK RX0 118 m_X0_addCracks 4 := ⟨mo_X0_addCracks, rfl, (List.mem_append_right _ (List.mem_of_getElem? (i := 737) (by decide +kernel))), (List.mem_append_right _ (List.mem_of_getElem? (i := 739) (by decide +kernel))), (List.mem_append_left _ (List.mem_of_getElem? (i := 9) (by decide +kernel))), TX0, 10, rfl⟩
theorem mpX0_121 : vOK RX0 121 m_X0_lossOn 4 := ⟨mo_X0_lossOn, rfl, (List.mem_append_right _ (List.mem_of_getElem? (i := 729) (by decide +kernel))), (List.mem_append_right _ (List.mem_of_getElem? (i := 683) (by decide +kernel))), (List.mem_append_right _ (List.mem_of_getElem? (i := 684) (by decide +kernel))), TX0, 10, rfl⟩
theorem mpX0_124 : sOK RX0 124 m_X0_warmHours := ⟨mo_X0_warmHours, rfl, (List.mem_append_right _ (List.mem_of_getElem? (i := 734) (by decide +kernel))), (List.mem_append_right _ (List.mem_of_getElem? (i := 735) (by decide +kernel)))⟩
theorem mpX0_127 : vOK RX0 127 m_X0_noteOf 4 := ⟨mo_X0_noteOf, rfl, (List.mem_append_right _ (List.mem_of_getElem? (i := 342) (by decide +kernel))), (List.mem_append_right _ (List.mem_of_getElem? (i := 343) (by decide +kernel))), (List.mem_append_right _ (List.mem_of_getElem? (i := 344) (by decide +kernel))), TX0, 10, rfl⟩
theorem mpX0_130 : vOK RX0 130 m_X0_refusesOutsideHall 4 := ⟨mo_X0_refusesOutsideHall, rfl, (List.mem_append_right _ (List.mem_of_getElem? (i := 786) (by decide +kernel))), (List.mem_append_right _ (List.mem_of_getElem? (i := 766) (by decide +kernel))), (List.mem_append_right _ (List.mem_of_getElem? (i := 767) (by decide +kernel))), TX0, 10, rfl⟩
theorem mpX0_134 : vOK RX0 134 m_X0_backByRecast 4 := ⟨mo_X0_backByRecast, rfl, (List.mem_append_right _ (List.mem_of_getElem? (i := 804) (by decide +kernel))), (List.mem_append_right _ (List.mem_of_getElem? (i := 806) (by decide +kernel))), (List.mem_append_left _ (List.mem_of_getElem? (i := 10) (by decide +kernel))), TX0, 10, rfl⟩
theorem mpX0_137 : vOK RX0 137 m_X0_refusesPounds 4 := ⟨mo_X0_refusesPounds, rfl, (List.mem_append_right _ (List.mem_of_getElem? (i := 808) (by decide +kernel))), (List.mem_append_right _ (List.mem_of_getElem? (i := 516) (by decide +kernel))), (List.mem_append_right _ (List.mem_of_getElem? (i := 517) (by decide +kernel))), TX0, 10, rfl⟩
theorem mpX0_140 : vOK RX0 140 m_X0_bellsAheadOf 4 := ⟨mo_X0_bellsAheadOf, rfl, (List.mem_append_right _ (List.mem_of_getElem? (i := 901) (by decide +kernel))), (List.mem_append_right _ (List.mem_of_getElem? (i := 903) (by decide +kernel))), (List.mem_append_left _ (List.mem_of_getElem? (i := 11) (by decide +kernel))), TX0, 10, rfl⟩
theorem mpX0_147 : vOK RX0 147 m_X0_isHeard 4 := ⟨mo_X0_isHeard, rfl, (List.mem_append_right _ (List.mem_of_getElem? (i := 372) (by decide +kernel))), (List.mem_append_right _ (List.mem_of_getElem? (i := 374) (by decide +kernel))), (List.mem_append_left _ (List.mem_of_getElem? (i := 5) (by decide +kernel))), TX0, 10, rfl⟩
theorem mpX0_150 : vOK RX0 150 m_X6_sumOf 9 := ⟨mo_X6_sumOf, rfl, (List.mem_append_right _ (List.mem_of_getElem? (i := 380) (by decide +kernel))), (List.mem_append_right _ (List.mem_of_getElem? (i := 381) (by decide +kernel))), (List.mem_append_right _ (List.mem_of_getElem? (i := 382) (by decide +kernel))), TX6, 4, rfl⟩
theorem mpX0_153 : vOK RX0 153 m_X0_soundInHall 4 := ⟨mo_X0_soundInHall, rfl, (List.mem_append_right _ (List.mem_of_getElem? (i := 1370) (by decide +kernel))), (List.mem_append_right _ (List.mem_of_getElem? (i := 1372) (by decide +kernel))), (List.mem_append_left _ (List.mem_of_getElem? (i := 25) (by decide +kernel))), TX0, 10, rfl⟩
theorem mlpX0 : ∀ q ∈ mlX0, ((match q.2.1 with
    | 0 => vOK RX0 q.1 q.2.2.1 q.2.2.2
    | 1 => sOK RX0 q.1 q.2.2.1
    | 2 => iOK RX0 q.1 q.2.2.1
    | 3 => snOK RX0 q.1 q.2.2.1
    | 4 => inOK RX0 q.1 q.2.2.1
    | 5 => oiOK RX0 q.1
    | 6 => mmOK RX0 q.1
    | 7 => mnOK RX0 q.1
    | 8 => acOK RX0 q.1
    | 9 => uOK RX0 q.1 q.2.2.1
    | 10 => suOK RX0 q.1 q.2.2.1
    | 11 => swOK RX0 q.1 q.2.2.1
    | _ => False) : Prop) := (fa_cons mpX0_3 (fa_cons mpX0_11 (fa_cons mpX0_48 (fa_cons mpX0_52 (fa_cons mpX0_58 (fa_cons mpX0_64 (fa_cons mpX0_68 (fa_cons mpX0_71 (fa_cons mpX0_75 (fa_cons mpX0_79 (fa_cons mpX0_83 (fa_cons mpX0_86 (fa_cons mpX0_89 (fa_cons mpX0_92 (fa_cons mpX0_96 (fa_cons mpX0_99 (fa_cons mpX0_102 (fa_cons mpX0_105 (fa_cons mpX0_108 (fa_cons mpX0_111 (fa_cons mpX0_114 (fa_cons mpX0_118 (fa_cons mpX0_121 (fa_cons mpX0_124 (fa_cons mpX0_127 (fa_cons mpX0_130 (fa_cons mpX0_134 (fa_cons mpX0_137 (fa_cons mpX0_140 (fa_cons mpX0_147 (fa_cons mpX0_150 (fa_cons mpX0_153 fa_nil))))))))))))))))))))))))))))))))
def clPX0 (q : Nat × (Nat ⊕ Nat)) : Prop := match q.2 with
  | .inl ci => (∀ n fs, newF ci = some (n, fs) → newOK RX0 q.1 ci n fs) ∧ (ci = 4 → Jvm.Cond.classLink RX0 q.1 RX0 ∈ lw_tbl)
  | .inr _ => True
theorem clpX0 : ∀ q ∈ clX0, clPX0 q := (fa_cons ⟨(fun n fs h => by cases h; exact ⟨clOK9, RX6, TX6, tyX6, rfl, tyX6_ok, by decide +kernel, (List.mem_append_right _ (List.mem_of_getElem? (i := 49) (by decide +kernel))), (List.mem_append_right _ (List.mem_of_getElem? (i := 50) (by decide +kernel))), (List.mem_append_right _ (List.mem_of_getElem? (i := 3) (by decide +kernel)))⟩), (fun h => nomatch h)⟩ fa_nil)
theorem nlpX0 : ∀ q ∈ nlX0, Jvm.Cond.constant RX0 q.1 q.2 ∈ lw_tbl := fa_nil
theorem cpokX0 : cpOK RX0 false cpX0 := by
  refine ⟨fun k ci j ty fin h => flpX0 _ (lkp_mem h), fun k v h => slpX0 _ (lkp_mem h), fun k t y ci h => ?_, fun k ci h => clpX0 _ (lkp_mem h), fun k v h => nlpX0 _ (lkp_mem h)⟩
  exact mlpX0 _ (lkp_mem h)
theorem cpokIX0 : cpOK RX0 true cpIX0 := by
  refine ⟨fun k ci j ty fin h => fipX0 _ (lkp_mem h), fun k v h => slpX0 _ (lkp_mem h), fun k t y ci h => ?_, fun k ci h => clpX0 _ (lkp_mem h), fun k v h => nlpX0 _ (lkp_mem h)⟩
  exact mlpX0 _ (lkp_mem h)
def flX1 : List (Nat × (Nat × Nat × FieldType × Bool)) := [(9, (5, 0, .array .boolean, true)), (15, (4, 2, .object "BellCores$Table", true))]
def fiX1 : List (Nat × (Nat × Nat × FieldType × Bool)) := [(9, (5, 0, .array .boolean, true))]
def slX1 : List (Nat × Value) := [(35, .retAddr 0)]
def mlX1 : List (Nat × (Nat × m0T × Nat)) := [(3, (5, mNone, 0)), (21, (0, m_X6_size, 9)), (27, (0, m_X0_noteOf, 4)), (31, (0, m_X6_get, 9)), (39, (0, m_X1_pealFrom, 5))]
def clX1 : List (Nat × (Nat ⊕ Nat)) := []
def nlX1 : List (Nat × Int32) := []
def cpX1 : cpT := (lkp flX1, lkp slX1, lkp mlX1, lkp clX1, lkp nlX1)
def cpIX1 : cpT := (lkp fiX1, lkp slX1, lkp mlX1, lkp clX1, lkp nlX1)
theorem fipX1 : ∀ q ∈ fiX1, fldOK RX1 true q.1 q.2.1 q.2.2.1 q.2.2.2.1 q.2.2.2.2 := (fa_cons ⟨clOK5, RX1, TX1, 1, rfl, by decide, rfl, by decide +kernel, (List.mem_append_right _ (List.mem_of_getElem? (i := 174) (by decide +kernel))), fun _ _ => rfl⟩ fa_nil)
theorem flpX1 : ∀ q ∈ flX1, fldOK RX1 false q.1 q.2.1 q.2.2.1 q.2.2.2.1 q.2.2.2.2 := (fa_cons ⟨clOK5, RX1, TX1, 1, rfl, by decide, rfl, by decide +kernel, (List.mem_append_right _ (List.mem_of_getElem? (i := 174) (by decide +kernel))), fun _ h => nomatch h⟩ (fa_cons ⟨clOK4, RX0, TX0, 10, rfl, by decide, rfl, by decide +kernel, (List.mem_append_right _ (List.mem_of_getElem? (i := 78) (by decide +kernel))), fun _ h => nomatch h⟩ fa_nil))
theorem slpX1 : ∀ q ∈ slX1, stcOK RX1 q.1 q.2 := (fa_cons ⟨_, List.mem_of_getElem? (i := 0) rfl, rfl, Or.inr ⟨"BellCores", (List.mem_append_right _ (List.mem_of_getElem? (i := 365) (by decide +kernel)))⟩⟩ fa_nil)
theorem mpX1_3 : oiOK RX1 3 := ⟨(List.mem_append_right _ (List.mem_of_getElem? (i := 173) (by decide +kernel))), (List.mem_append_right _ (List.mem_of_getElem? (i := 41) (by decide +kernel))), (List.mem_append_right _ (List.mem_of_getElem? (i := 42) (by decide +kernel)))⟩
theorem mpX1_21 : vOK RX1 21 m_X6_size 9 := ⟨mo_X6_size, rfl, (List.mem_append_right _ (List.mem_of_getElem? (i := 358) (by decide +kernel))), (List.mem_append_right _ (List.mem_of_getElem? (i := 280) (by decide +kernel))), (List.mem_append_right _ (List.mem_of_getElem? (i := 281) (by decide +kernel))), TX6, 4, rfl⟩
theorem mpX1_27 : vOK RX1 27 m_X0_noteOf 4 := ⟨mo_X0_noteOf, rfl, (List.mem_append_right _ (List.mem_of_getElem? (i := 359) (by decide +kernel))), (List.mem_append_right _ (List.mem_of_getElem? (i := 343) (by decide +kernel))), (List.mem_append_right _ (List.mem_of_getElem? (i := 344) (by decide +kernel))), TX0, 10, rfl⟩
theorem mpX1_31 : vOK RX1 31 m_X6_get 9 := ⟨mo_X6_get, rfl, (List.mem_append_right _ (List.mem_of_getElem? (i := 360) (by decide +kernel))), (List.mem_append_right _ (List.mem_of_getElem? (i := 287) (by decide +kernel))), (List.mem_append_right _ (List.mem_of_getElem? (i := 288) (by decide +kernel))), TX6, 4, rfl⟩
theorem mpX1_39 : vOK RX1 39 m_X1_pealFrom 5 := ⟨mo_X1_pealFrom, rfl, (List.mem_append_right _ (List.mem_of_getElem? (i := 888) (by decide +kernel))), (List.mem_append_right _ (List.mem_of_getElem? (i := 362) (by decide +kernel))), (List.mem_append_right _ (List.mem_of_getElem? (i := 363) (by decide +kernel))), TX1, 1, rfl⟩
theorem mlpX1 : ∀ q ∈ mlX1, ((match q.2.1 with
    | 0 => vOK RX1 q.1 q.2.2.1 q.2.2.2
    | 1 => sOK RX1 q.1 q.2.2.1
    | 2 => iOK RX1 q.1 q.2.2.1
    | 3 => snOK RX1 q.1 q.2.2.1
    | 4 => inOK RX1 q.1 q.2.2.1
    | 5 => oiOK RX1 q.1
    | 6 => mmOK RX1 q.1
    | 7 => mnOK RX1 q.1
    | 8 => acOK RX1 q.1
    | 9 => uOK RX1 q.1 q.2.2.1
    | 10 => suOK RX1 q.1 q.2.2.1
    | 11 => swOK RX1 q.1 q.2.2.1
    | _ => False) : Prop) := (fa_cons mpX1_3 (fa_cons mpX1_21 (fa_cons mpX1_27 (fa_cons mpX1_31 (fa_cons mpX1_39 fa_nil)))))
def clPX1 (q : Nat × (Nat ⊕ Nat)) : Prop := match q.2 with
  | .inl ci => (∀ n fs, newF ci = some (n, fs) → newOK RX1 q.1 ci n fs) ∧ (ci = 4 → Jvm.Cond.classLink RX1 q.1 RX0 ∈ lw_tbl)
  | .inr _ => True
theorem clpX1 : ∀ q ∈ clX1, clPX1 q := fa_nil
theorem nlpX1 : ∀ q ∈ nlX1, Jvm.Cond.constant RX1 q.1 q.2 ∈ lw_tbl := fa_nil
theorem cpokX1 : cpOK RX1 false cpX1 := by
  refine ⟨fun k ci j ty fin h => flpX1 _ (lkp_mem h), fun k v h => slpX1 _ (lkp_mem h), fun k t y ci h => ?_, fun k ci h => clpX1 _ (lkp_mem h), fun k v h => nlpX1 _ (lkp_mem h)⟩
  exact mlpX1 _ (lkp_mem h)
theorem cpokIX1 : cpOK RX1 true cpIX1 := by
  refine ⟨fun k ci j ty fin h => fipX1 _ (lkp_mem h), fun k v h => slpX1 _ (lkp_mem h), fun k t y ci h => ?_, fun k ci h => clpX1 _ (lkp_mem h), fun k v h => nlpX1 _ (lkp_mem h)⟩
  exact mlpX1 _ (lkp_mem h)
def flX2 : List (Nat × (Nat × Nat × FieldType × Bool)) := [(11, (6, 0, .array (.object "BellCores$Foundry"), true)), (15, (6, 1, .int, false)), (19, (6, 2, .int, false))]
def fiX2 : List (Nat × (Nat × Nat × FieldType × Bool)) := [(11, (6, 0, .array (.object "BellCores$Foundry"), true)), (15, (6, 1, .int, false)), (19, (6, 2, .int, false))]
def slX2 : List (Nat × Value) := []
def mlX2 : List (Nat × (Nat × m0T × Nat)) := [(1, (5, mNone, 0)), (22, (4, m_X0_init, 0)), (23, (0, m_X0_copyFrom, 4)), (27, (7, mNone, 0))]
def clX2 : List (Nat × (Nat ⊕ Nat)) := [(9, .inl 4)]
def nlX2 : List (Nat × Int32) := []
def cpX2 : cpT := (lkp flX2, lkp slX2, lkp mlX2, lkp clX2, lkp nlX2)
def cpIX2 : cpT := (lkp fiX2, lkp slX2, lkp mlX2, lkp clX2, lkp nlX2)
theorem fipX2 : ∀ q ∈ fiX2, fldOK RX2 true q.1 q.2.1 q.2.2.1 q.2.2.2.1 q.2.2.2.2 := (fa_cons ⟨clOK6, RX2, TX2, 3, rfl, by decide, rfl, by decide +kernel, (List.mem_append_right _ (List.mem_of_getElem? (i := 120) (by decide +kernel))), fun _ _ => rfl⟩ (fa_cons ⟨clOK6, RX2, TX2, 3, rfl, by decide, rfl, by decide +kernel, (List.mem_append_right _ (List.mem_of_getElem? (i := 121) (by decide +kernel))), fun h => nomatch h⟩ (fa_cons ⟨clOK6, RX2, TX2, 3, rfl, by decide, rfl, by decide +kernel, (List.mem_append_right _ (List.mem_of_getElem? (i := 122) (by decide +kernel))), fun h => nomatch h⟩ fa_nil)))
theorem flpX2 : ∀ q ∈ flX2, fldOK RX2 false q.1 q.2.1 q.2.2.1 q.2.2.2.1 q.2.2.2.2 := (fa_cons ⟨clOK6, RX2, TX2, 3, rfl, by decide, rfl, by decide +kernel, (List.mem_append_right _ (List.mem_of_getElem? (i := 120) (by decide +kernel))), fun _ h => nomatch h⟩ (fa_cons ⟨clOK6, RX2, TX2, 3, rfl, by decide, rfl, by decide +kernel, (List.mem_append_right _ (List.mem_of_getElem? (i := 121) (by decide +kernel))), fun _ h => nomatch h⟩ (fa_cons ⟨clOK6, RX2, TX2, 3, rfl, by decide, rfl, by decide +kernel, (List.mem_append_right _ (List.mem_of_getElem? (i := 122) (by decide +kernel))), fun _ h => nomatch h⟩ fa_nil)))
theorem slpX2 : ∀ q ∈ slX2, stcOK RX2 q.1 q.2 := fa_nil
theorem mpX2_1 : oiOK RX2 1 := ⟨(List.mem_append_right _ (List.mem_of_getElem? (i := 117) (by decide +kernel))), (List.mem_append_right _ (List.mem_of_getElem? (i := 41) (by decide +kernel))), (List.mem_append_right _ (List.mem_of_getElem? (i := 42) (by decide +kernel)))⟩
theorem mpX2_22 : inOK RX2 22 m_X0_init := ⟨mo_X0_init, rfl, rfl, ⟨"BellCores", (List.mem_append_right _ (List.mem_of_getElem? (i := 498) (by decide +kernel)))⟩, rfl, (List.mem_append_right _ (List.mem_of_getElem? (i := 46) (by decide +kernel)))⟩
theorem mpX2_23 : vOK RX2 23 m_X0_copyFrom 4 := ⟨mo_X0_copyFrom, rfl, (List.mem_append_right _ (List.mem_of_getElem? (i := 499) (by decide +kernel))), (List.mem_append_right _ (List.mem_of_getElem? (i := 403) (by decide +kernel))), (List.mem_append_right _ (List.mem_of_getElem? (i := 404) (by decide +kernel))), TX0, 10, rfl⟩
theorem mpX2_27 : mnOK RX2 27 := ⟨(List.mem_append_right _ (List.mem_of_getElem? (i := 500) (by decide +kernel))), (List.mem_append_right _ (List.mem_of_getElem? (i := 284) (by decide +kernel))), (List.mem_append_right _ (List.mem_of_getElem? (i := 4) (by decide +kernel))), (List.mem_append_right _ (List.mem_of_getElem? (i := 285) (by decide +kernel)))⟩
theorem mlpX2 : ∀ q ∈ mlX2, ((match q.2.1 with
    | 0 => vOK RX2 q.1 q.2.2.1 q.2.2.2
    | 1 => sOK RX2 q.1 q.2.2.1
    | 2 => iOK RX2 q.1 q.2.2.1
    | 3 => snOK RX2 q.1 q.2.2.1
    | 4 => inOK RX2 q.1 q.2.2.1
    | 5 => oiOK RX2 q.1
    | 6 => mmOK RX2 q.1
    | 7 => mnOK RX2 q.1
    | 8 => acOK RX2 q.1
    | 9 => uOK RX2 q.1 q.2.2.1
    | 10 => suOK RX2 q.1 q.2.2.1
    | 11 => swOK RX2 q.1 q.2.2.1
    | _ => False) : Prop) := (fa_cons mpX2_1 (fa_cons mpX2_22 (fa_cons mpX2_23 (fa_cons mpX2_27 fa_nil))))
def clPX2 (q : Nat × (Nat ⊕ Nat)) : Prop := match q.2 with
  | .inl ci => (∀ n fs, newF ci = some (n, fs) → newOK RX2 q.1 ci n fs) ∧ (ci = 4 → Jvm.Cond.classLink RX2 q.1 RX0 ∈ lw_tbl)
  | .inr _ => True
theorem clpX2 : ∀ q ∈ clX2, clPX2 q := (fa_cons ⟨(fun n fs h => by cases h; exact ⟨clOK4, RX0, TX0, tyX0, rfl, tyX0_ok, by decide +kernel, (List.mem_append_right _ (List.mem_of_getElem? (i := 118) (by decide +kernel))), (List.mem_append_right _ (List.mem_of_getElem? (i := 44) (by decide +kernel))), (List.mem_append_right _ (List.mem_of_getElem? (i := 2) (by decide +kernel)))⟩), (fun _ => (List.mem_append_right _ (List.mem_of_getElem? (i := 118) (by decide +kernel))))⟩ fa_nil)
theorem nlpX2 : ∀ q ∈ nlX2, Jvm.Cond.constant RX2 q.1 q.2 ∈ lw_tbl := fa_nil
theorem cpokX2 : cpOK RX2 false cpX2 := by
  refine ⟨fun k ci j ty fin h => flpX2 _ (lkp_mem h), fun k v h => slpX2 _ (lkp_mem h), fun k t y ci h => ?_, fun k ci h => clpX2 _ (lkp_mem h), fun k v h => nlpX2 _ (lkp_mem h)⟩
  exact mlpX2 _ (lkp_mem h)
theorem cpokIX2 : cpOK RX2 true cpIX2 := by
  refine ⟨fun k ci j ty fin h => fipX2 _ (lkp_mem h), fun k v h => slpX2 _ (lkp_mem h), fun k t y ci h => ?_, fun k ci h => clpX2 _ (lkp_mem h), fun k v h => nlpX2 _ (lkp_mem h)⟩
  exact mlpX2 _ (lkp_mem h)
def flX4 : List (Nat × (Nat × Nat × FieldType × Bool)) := [(9, (7, 0, .array .int, true)), (15, (7, 1, .int, false)), (19, (7, 2, .int, false)), (22, (7, 3, .int, false)), (25, (7, 4, .array .int, true)), (28, (7, 5, .array .int, true)), (31, (7, 6, .array .int, true)), (34, (4, 0, .object "BellCores$Table", true)), (55, (4, 3, .int, false)), (56, (4, 4, .int, false))]
def fiX4 : List (Nat × (Nat × Nat × FieldType × Bool)) := [(9, (7, 0, .array .int, true)), (15, (7, 1, .int, false)), (19, (7, 2, .int, false)), (22, (7, 3, .int, false)), (25, (7, 4, .array .int, true)), (28, (7, 5, .array .int, true)), (31, (7, 6, .array .int, true)), (55, (4, 3, .int, false)), (56, (4, 4, .int, false))]
def slX4 : List (Nat × Value) := []
def mlX4 : List (Nat × (Nat × m0T × Nat)) := [(3, (5, mNone, 0)), (40, (0, m_X6_size, 9)), (46, (7, mNone, 0)), (52, (0, m_X6_get, 9)), (57, (3, m_X8_heatFor, 0)), (61, (3, m_X8_poundsFor, 0)), (64, (0, m_X4_hottestBut, 7)), (67, (1, m_X4_isEnough, 0)), (71, (3, m_X8_heatAfterPouring, 0)), (74, (0, m_X4_weighWhatIsLeft, 7)), (77, (0, m_X4_countBehind, 7)), (80, (0, m_X4_best, 7)), (83, (0, m_X4_pouredWithNext, 7)), (86, (6, mNone, 0))]
def clX4 : List (Nat × (Nat ⊕ Nat)) := []
def nlX4 : List (Nat × Int32) := []
def cpX4 : cpT := (lkp flX4, lkp slX4, lkp mlX4, lkp clX4, lkp nlX4)
def cpIX4 : cpT := (lkp fiX4, lkp slX4, lkp mlX4, lkp clX4, lkp nlX4)
theorem fipX4 : ∀ q ∈ fiX4, fldOK RX4 true q.1 q.2.1 q.2.2.1 q.2.2.2.1 q.2.2.2.2 := (fa_cons ⟨clOK7, RX4, TX4, 7, rfl, by decide, rfl, by decide +kernel, (List.mem_append_right _ (List.mem_of_getElem? (i := 185) (by decide +kernel))), fun _ _ => rfl⟩ (fa_cons ⟨clOK7, RX4, TX4, 7, rfl, by decide, rfl, by decide +kernel, (List.mem_append_right _ (List.mem_of_getElem? (i := 186) (by decide +kernel))), fun h => nomatch h⟩ (fa_cons ⟨clOK7, RX4, TX4, 7, rfl, by decide, rfl, by decide +kernel, (List.mem_append_right _ (List.mem_of_getElem? (i := 187) (by decide +kernel))), fun h => nomatch h⟩ (fa_cons ⟨clOK7, RX4, TX4, 7, rfl, by decide, rfl, by decide +kernel, (List.mem_append_right _ (List.mem_of_getElem? (i := 188) (by decide +kernel))), fun h => nomatch h⟩ (fa_cons ⟨clOK7, RX4, TX4, 7, rfl, by decide, rfl, by decide +kernel, (List.mem_append_right _ (List.mem_of_getElem? (i := 189) (by decide +kernel))), fun _ _ => rfl⟩ (fa_cons ⟨clOK7, RX4, TX4, 7, rfl, by decide, rfl, by decide +kernel, (List.mem_append_right _ (List.mem_of_getElem? (i := 190) (by decide +kernel))), fun _ _ => rfl⟩ (fa_cons ⟨clOK7, RX4, TX4, 7, rfl, by decide, rfl, by decide +kernel, (List.mem_append_right _ (List.mem_of_getElem? (i := 191) (by decide +kernel))), fun _ _ => rfl⟩ (fa_cons ⟨clOK4, RX0, TX0, 10, rfl, by decide, rfl, by decide +kernel, (List.mem_append_right _ (List.mem_of_getElem? (i := 82) (by decide +kernel))), fun h => nomatch h⟩ (fa_cons ⟨clOK4, RX0, TX0, 10, rfl, by decide, rfl, by decide +kernel, (List.mem_append_right _ (List.mem_of_getElem? (i := 84) (by decide +kernel))), fun h => nomatch h⟩ fa_nil)))))))))
theorem flpX4 : ∀ q ∈ flX4, fldOK RX4 false q.1 q.2.1 q.2.2.1 q.2.2.2.1 q.2.2.2.2 := (fa_cons ⟨clOK7, RX4, TX4, 7, rfl, by decide, rfl, by decide +kernel, (List.mem_append_right _ (List.mem_of_getElem? (i := 185) (by decide +kernel))), fun _ h => nomatch h⟩ (fa_cons ⟨clOK7, RX4, TX4, 7, rfl, by decide, rfl, by decide +kernel, (List.mem_append_right _ (List.mem_of_getElem? (i := 186) (by decide +kernel))), fun _ h => nomatch h⟩ (fa_cons ⟨clOK7, RX4, TX4, 7, rfl, by decide, rfl, by decide +kernel, (List.mem_append_right _ (List.mem_of_getElem? (i := 187) (by decide +kernel))), fun _ h => nomatch h⟩ (fa_cons ⟨clOK7, RX4, TX4, 7, rfl, by decide, rfl, by decide +kernel, (List.mem_append_right _ (List.mem_of_getElem? (i := 188) (by decide +kernel))), fun _ h => nomatch h⟩ (fa_cons ⟨clOK7, RX4, TX4, 7, rfl, by decide, rfl, by decide +kernel, (List.mem_append_right _ (List.mem_of_getElem? (i := 189) (by decide +kernel))), fun _ h => nomatch h⟩ (fa_cons ⟨clOK7, RX4, TX4, 7, rfl, by decide, rfl, by decide +kernel, (List.mem_append_right _ (List.mem_of_getElem? (i := 190) (by decide +kernel))), fun _ h => nomatch h⟩ (fa_cons ⟨clOK7, RX4, TX4, 7, rfl, by decide, rfl, by decide +kernel, (List.mem_append_right _ (List.mem_of_getElem? (i := 191) (by decide +kernel))), fun _ h => nomatch h⟩ (fa_cons ⟨clOK4, RX0, TX0, 10, rfl, by decide, rfl, by decide +kernel, (List.mem_append_right _ (List.mem_of_getElem? (i := 73) (by decide +kernel))), fun _ h => nomatch h⟩ (fa_cons ⟨clOK4, RX0, TX0, 10, rfl, by decide, rfl, by decide +kernel, (List.mem_append_right _ (List.mem_of_getElem? (i := 82) (by decide +kernel))), fun _ h => nomatch h⟩ (fa_cons ⟨clOK4, RX0, TX0, 10, rfl, by decide, rfl, by decide +kernel, (List.mem_append_right _ (List.mem_of_getElem? (i := 84) (by decide +kernel))), fun _ h => nomatch h⟩ fa_nil))))))))))
theorem slpX4 : ∀ q ∈ slX4, stcOK RX4 q.1 q.2 := fa_nil
theorem mpX4_3 : oiOK RX4 3 := ⟨(List.mem_append_right _ (List.mem_of_getElem? (i := 184) (by decide +kernel))), (List.mem_append_right _ (List.mem_of_getElem? (i := 41) (by decide +kernel))), (List.mem_append_right _ (List.mem_of_getElem? (i := 42) (by decide +kernel)))⟩
theorem mpX4_40 : vOK RX4 40 m_X6_size 9 := ⟨mo_X6_size, rfl, (List.mem_append_right _ (List.mem_of_getElem? (i := 279) (by decide +kernel))), (List.mem_append_right _ (List.mem_of_getElem? (i := 280) (by decide +kernel))), (List.mem_append_right _ (List.mem_of_getElem? (i := 281) (by decide +kernel))), TX6, 4, rfl⟩
theorem mpX4_46 : mnOK RX4 46 := ⟨(List.mem_append_right _ (List.mem_of_getElem? (i := 283) (by decide +kernel))), (List.mem_append_right _ (List.mem_of_getElem? (i := 284) (by decide +kernel))), (List.mem_append_right _ (List.mem_of_getElem? (i := 4) (by decide +kernel))), (List.mem_append_right _ (List.mem_of_getElem? (i := 285) (by decide +kernel)))⟩
theorem mpX4_52 : vOK RX4 52 m_X6_get 9 := ⟨mo_X6_get, rfl, (List.mem_append_right _ (List.mem_of_getElem? (i := 286) (by decide +kernel))), (List.mem_append_right _ (List.mem_of_getElem? (i := 287) (by decide +kernel))), (List.mem_append_right _ (List.mem_of_getElem? (i := 288) (by decide +kernel))), TX6, 4, rfl⟩
theorem mpX4_57 : snOK RX4 57 m_X8_heatFor := ⟨mo_X8_heatFor, rfl, ⟨"BellCores", (List.mem_append_right _ (List.mem_of_getElem? (i := 317) (by decide +kernel)))⟩, (List.mem_append_right _ (List.mem_of_getElem? (i := 318) (by decide +kernel)))⟩
theorem mpX4_61 : snOK RX4 61 m_X8_poundsFor := ⟨mo_X8_poundsFor, rfl, ⟨"BellCores", (List.mem_append_right _ (List.mem_of_getElem? (i := 305) (by decide +kernel)))⟩, (List.mem_append_right _ (List.mem_of_getElem? (i := 302) (by decide +kernel)))⟩
theorem mpX4_64 : vOK RX4 64 m_X4_hottestBut 7 := ⟨mo_X4_hottestBut, rfl, (List.mem_append_right _ (List.mem_of_getElem? (i := 325) (by decide +kernel))), (List.mem_append_right _ (List.mem_of_getElem? (i := 327) (by decide +kernel))), (List.mem_append_left _ (List.mem_of_getElem? (i := 3) (by decide +kernel))), TX4, 7, rfl⟩
theorem mpX4_67 : sOK RX4 67 m_X4_isEnough := ⟨mo_X4_isEnough, rfl, (List.mem_append_right _ (List.mem_of_getElem? (i := 314) (by decide +kernel))), (List.mem_append_right _ (List.mem_of_getElem? (i := 315) (by decide +kernel)))⟩
theorem mpX4_71 : snOK RX4 71 m_X8_heatAfterPouring := ⟨mo_X8_heatAfterPouring, rfl, ⟨"BellCores", (List.mem_append_right _ (List.mem_of_getElem? (i := 298) (by decide +kernel)))⟩, (List.mem_append_right _ (List.mem_of_getElem? (i := 299) (by decide +kernel)))⟩
theorem mpX4_74 : vOK RX4 74 m_X4_weighWhatIsLeft 7 := ⟨mo_X4_weighWhatIsLeft, rfl, (List.mem_append_right _ (List.mem_of_getElem? (i := 294) (by decide +kernel))), (List.mem_append_right _ (List.mem_of_getElem? (i := 296) (by decide +kernel))), (List.mem_append_left _ (List.mem_of_getElem? (i := 0) (by decide +kernel))), TX4, 7, rfl⟩
theorem mpX4_77 : vOK RX4 77 m_X4_countBehind 7 := ⟨mo_X4_countBehind, rfl, (List.mem_append_right _ (List.mem_of_getElem? (i := 306) (by decide +kernel))), (List.mem_append_right _ (List.mem_of_getElem? (i := 308) (by decide +kernel))), (List.mem_append_left _ (List.mem_of_getElem? (i := 1) (by decide +kernel))), TX4, 7, rfl⟩
theorem mpX4_80 : vOK RX4 80 m_X4_best 7 := ⟨mo_X4_best, rfl, (List.mem_append_right _ (List.mem_of_getElem? (i := 916) (by decide +kernel))), (List.mem_append_right _ (List.mem_of_getElem? (i := 291) (by decide +kernel))), (List.mem_append_right _ (List.mem_of_getElem? (i := 292) (by decide +kernel))), TX4, 7, rfl⟩
theorem mpX4_83 : vOK RX4 83 m_X4_pouredWithNext 7 := ⟨mo_X4_pouredWithNext, rfl, (List.mem_append_right _ (List.mem_of_getElem? (i := 310) (by decide +kernel))), (List.mem_append_right _ (List.mem_of_getElem? (i := 312) (by decide +kernel))), (List.mem_append_left _ (List.mem_of_getElem? (i := 2) (by decide +kernel))), TX4, 7, rfl⟩
theorem mpX4_86 : mmOK RX4 86 := ⟨(List.mem_append_right _ (List.mem_of_getElem? (i := 320) (by decide +kernel))), (List.mem_append_right _ (List.mem_of_getElem? (i := 56) (by decide +kernel))), (List.mem_append_right _ (List.mem_of_getElem? (i := 4) (by decide +kernel))), (List.mem_append_right _ (List.mem_of_getElem? (i := 57) (by decide +kernel)))⟩
theorem mlpX4 : ∀ q ∈ mlX4, ((match q.2.1 with
    | 0 => vOK RX4 q.1 q.2.2.1 q.2.2.2
    | 1 => sOK RX4 q.1 q.2.2.1
    | 2 => iOK RX4 q.1 q.2.2.1
    | 3 => snOK RX4 q.1 q.2.2.1
    | 4 => inOK RX4 q.1 q.2.2.1
    | 5 => oiOK RX4 q.1
    | 6 => mmOK RX4 q.1
    | 7 => mnOK RX4 q.1
    | 8 => acOK RX4 q.1
    | 9 => uOK RX4 q.1 q.2.2.1
    | 10 => suOK RX4 q.1 q.2.2.1
    | 11 => swOK RX4 q.1 q.2.2.1
    | _ => False) : Prop) := (fa_cons mpX4_3 (fa_cons mpX4_40 (fa_cons mpX4_46 (fa_cons mpX4_52 (fa_cons mpX4_57 (fa_cons mpX4_61 (fa_cons mpX4_64 (fa_cons mpX4_67 (fa_cons mpX4_71 (fa_cons mpX4_74 (fa_cons mpX4_77 (fa_cons mpX4_80 (fa_cons mpX4_83 (fa_cons mpX4_86 fa_nil))))))))))))))
def clPX4 (q : Nat × (Nat ⊕ Nat)) : Prop := match q.2 with
  | .inl ci => (∀ n fs, newF ci = some (n, fs) → newOK RX4 q.1 ci n fs) ∧ (ci = 4 → Jvm.Cond.classLink RX4 q.1 RX0 ∈ lw_tbl)
  | .inr _ => True
theorem clpX4 : ∀ q ∈ clX4, clPX4 q := fa_nil
theorem nlpX4 : ∀ q ∈ nlX4, Jvm.Cond.constant RX4 q.1 q.2 ∈ lw_tbl := fa_nil
theorem cpokX4 : cpOK RX4 false cpX4 := by
  refine ⟨fun k ci j ty fin h => flpX4 _ (lkp_mem h), fun k v h => slpX4 _ (lkp_mem h), fun k t y ci h => ?_, fun k ci h => clpX4 _ (lkp_mem h), fun k v h => nlpX4 _ (lkp_mem h)⟩
  exact mlpX4 _ (lkp_mem h)
theorem cpokIX4 : cpOK RX4 true cpIX4 := by
  refine ⟨fun k ci j ty fin h => fipX4 _ (lkp_mem h), fun k v h => slpX4 _ (lkp_mem h), fun k t y ci h => ?_, fun k ci h => clpX4 _ (lkp_mem h), fun k v h => nlpX4 _ (lkp_mem h)⟩
  exact mlpX4 _ (lkp_mem h)
def flX5 : List (Nat × (Nat × Nat × FieldType × Bool)) := [(7, (8, 0, .int, false)), (13, (8, 1, .int, false))]
def fiX5 : List (Nat × (Nat × Nat × FieldType × Bool)) := [(7, (8, 0, .int, false)), (13, (8, 1, .int, false))]
def slX5 : List (Nat × Value) := []
def mlX5 : List (Nat × (Nat × m0T × Nat)) := [(1, (5, mNone, 0))]
def clX5 : List (Nat × (Nat ⊕ Nat)) := []
def nlX5 : List (Nat × Int32) := []
def cpX5 : cpT := (lkp flX5, lkp slX5, lkp mlX5, lkp clX5, lkp nlX5)
def cpIX5 : cpT := (lkp fiX5, lkp slX5, lkp mlX5, lkp clX5, lkp nlX5)
theorem fipX5 : ∀ q ∈ fiX5, fldOK RX5 true q.1 q.2.1 q.2.2.1 q.2.2.2.1 q.2.2.2.2 := (fa_cons ⟨clOK8, RX5, TX5, 2, rfl, by decide, rfl, by decide +kernel, (List.mem_append_right _ (List.mem_of_getElem? (i := 136) (by decide +kernel))), fun h => nomatch h⟩ (fa_cons ⟨clOK8, RX5, TX5, 2, rfl, by decide, rfl, by decide +kernel, (List.mem_append_right _ (List.mem_of_getElem? (i := 138) (by decide +kernel))), fun h => nomatch h⟩ fa_nil))
theorem flpX5 : ∀ q ∈ flX5, fldOK RX5 false q.1 q.2.1 q.2.2.1 q.2.2.2.1 q.2.2.2.2 := (fa_cons ⟨clOK8, RX5, TX5, 2, rfl, by decide, rfl, by decide +kernel, (List.mem_append_right _ (List.mem_of_getElem? (i := 136) (by decide +kernel))), fun _ h => nomatch h⟩ (fa_cons ⟨clOK8, RX5, TX5, 2, rfl, by decide, rfl, by decide +kernel, (List.mem_append_right _ (List.mem_of_getElem? (i := 138) (by decide +kernel))), fun _ h => nomatch h⟩ fa_nil))
theorem slpX5 : ∀ q ∈ slX5, stcOK RX5 q.1 q.2 := fa_nil
theorem mpX5_1 : oiOK RX5 1 := ⟨(List.mem_append_right _ (List.mem_of_getElem? (i := 135) (by decide +kernel))), (List.mem_append_right _ (List.mem_of_getElem? (i := 41) (by decide +kernel))), (List.mem_append_right _ (List.mem_of_getElem? (i := 42) (by decide +kernel)))⟩
theorem mlpX5 : ∀ q ∈ mlX5, ((match q.2.1 with
    | 0 => vOK RX5 q.1 q.2.2.1 q.2.2.2
    | 1 => sOK RX5 q.1 q.2.2.1
    | 2 => iOK RX5 q.1 q.2.2.1
    | 3 => snOK RX5 q.1 q.2.2.1
    | 4 => inOK RX5 q.1 q.2.2.1
    | 5 => oiOK RX5 q.1
    | 6 => mmOK RX5 q.1
    | 7 => mnOK RX5 q.1
    | 8 => acOK RX5 q.1
    | 9 => uOK RX5 q.1 q.2.2.1
    | 10 => suOK RX5 q.1 q.2.2.1
    | 11 => swOK RX5 q.1 q.2.2.1
    | _ => False) : Prop) := (fa_cons mpX5_1 fa_nil)
def clPX5 (q : Nat × (Nat ⊕ Nat)) : Prop := match q.2 with
  | .inl ci => (∀ n fs, newF ci = some (n, fs) → newOK RX5 q.1 ci n fs) ∧ (ci = 4 → Jvm.Cond.classLink RX5 q.1 RX0 ∈ lw_tbl)
  | .inr _ => True
theorem clpX5 : ∀ q ∈ clX5, clPX5 q := fa_nil
theorem nlpX5 : ∀ q ∈ nlX5, Jvm.Cond.constant RX5 q.1 q.2 ∈ lw_tbl := fa_nil
theorem cpokX5 : cpOK RX5 false cpX5 := by
  refine ⟨fun k ci j ty fin h => flpX5 _ (lkp_mem h), fun k v h => slpX5 _ (lkp_mem h), fun k t y ci h => ?_, fun k ci h => clpX5 _ (lkp_mem h), fun k v h => nlpX5 _ (lkp_mem h)⟩
  exact mlpX5 _ (lkp_mem h)
theorem cpokIX5 : cpOK RX5 true cpIX5 := by
  refine ⟨fun k ci j ty fin h => fipX5 _ (lkp_mem h), fun k v h => slpX5 _ (lkp_mem h), fun k t y ci h => ?_, fun k ci h => clpX5 _ (lkp_mem h), fun k v h => nlpX5 _ (lkp_mem h)⟩
  exact mlpX5 _ (lkp_mem h)
def flX6 : List (Nat × (Nat × Nat × FieldType × Bool)) := [(7, (9, 3, .int, false)), (19, (9, 0, .int, true)), (22, (9, 1, .int, true)), (25, (9, 2, .array .int, true))]
def fiX6 : List (Nat × (Nat × Nat × FieldType × Bool)) := [(7, (9, 3, .int, false)), (19, (9, 0, .int, true)), (22, (9, 1, .int, true)), (25, (9, 2, .array .int, true))]
def slX6 : List (Nat × Value) := []
def mlX6 : List (Nat × (Nat × m0T × Nat)) := [(1, (5, mNone, 0)), (13, (6, mNone, 0)), (29, (0, m_X6_get, 9)), (32, (0, m_X6_put, 9))]
def clX6 : List (Nat × (Nat ⊕ Nat)) := []
def nlX6 : List (Nat × Int32) := []
def cpX6 : cpT := (lkp flX6, lkp slX6, lkp mlX6, lkp clX6, lkp nlX6)
def cpIX6 : cpT := (lkp fiX6, lkp slX6, lkp mlX6, lkp clX6, lkp nlX6)
theorem fipX6 : ∀ q ∈ fiX6, fldOK RX6 true q.1 q.2.1 q.2.2.1 q.2.2.2.1 q.2.2.2.2 := (fa_cons ⟨clOK9, RX6, TX6, 4, rfl, by decide, rfl, by decide +kernel, (List.mem_append_right _ (List.mem_of_getElem? (i := 61) (by decide +kernel))), fun h => nomatch h⟩ (fa_cons ⟨clOK9, RX6, TX6, 4, rfl, by decide, rfl, by decide +kernel, (List.mem_append_right _ (List.mem_of_getElem? (i := 58) (by decide +kernel))), fun _ _ => rfl⟩ (fa_cons ⟨clOK9, RX6, TX6, 4, rfl, by decide, rfl, by decide +kernel, (List.mem_append_right _ (List.mem_of_getElem? (i := 59) (by decide +kernel))), fun _ _ => rfl⟩ (fa_cons ⟨clOK9, RX6, TX6, 4, rfl, by decide, rfl, by decide +kernel, (List.mem_append_right _ (List.mem_of_getElem? (i := 60) (by decide +kernel))), fun _ _ => rfl⟩ fa_nil))))
theorem flpX6 : ∀ q ∈ flX6, fldOK RX6 false q.1 q.2.1 q.2.2.1 q.2.2.2.1 q.2.2.2.2 := (fa_cons ⟨clOK9, RX6, TX6, 4, rfl, by decide, rfl, by decide +kernel, (List.mem_append_right _ (List.mem_of_getElem? (i := 61) (by decide +kernel))), fun _ h => nomatch h⟩ (fa_cons ⟨clOK9, RX6, TX6, 4, rfl, by decide, rfl, by decide +kernel, (List.mem_append_right _ (List.mem_of_getElem? (i := 58) (by decide +kernel))), fun _ h => nomatch h⟩ (fa_cons ⟨clOK9, RX6, TX6, 4, rfl, by decide, rfl, by decide +kernel, (List.mem_append_right _ (List.mem_of_getElem? (i := 59) (by decide +kernel))), fun _ h => nomatch h⟩ (fa_cons ⟨clOK9, RX6, TX6, 4, rfl, by decide, rfl, by decide +kernel, (List.mem_append_right _ (List.mem_of_getElem? (i := 60) (by decide +kernel))), fun _ h => nomatch h⟩ fa_nil))))
theorem slpX6 : ∀ q ∈ slX6, stcOK RX6 q.1 q.2 := fa_nil
theorem mpX6_1 : oiOK RX6 1 := ⟨(List.mem_append_right _ (List.mem_of_getElem? (i := 54) (by decide +kernel))), (List.mem_append_right _ (List.mem_of_getElem? (i := 41) (by decide +kernel))), (List.mem_append_right _ (List.mem_of_getElem? (i := 42) (by decide +kernel)))⟩
theorem mpX6_13 : mmOK RX6 13 := ⟨(List.mem_append_right _ (List.mem_of_getElem? (i := 55) (by decide +kernel))), (List.mem_append_right _ (List.mem_of_getElem? (i := 56) (by decide +kernel))), (List.mem_append_right _ (List.mem_of_getElem? (i := 4) (by decide +kernel))), (List.mem_append_right _ (List.mem_of_getElem? (i := 57) (by decide +kernel)))⟩
theorem mpX6_29 : vOK RX6 29 m_X6_get 9 := ⟨mo_X6_get, rfl, (List.mem_append_right _ (List.mem_of_getElem? (i := 384) (by decide +kernel))), (List.mem_append_right _ (List.mem_of_getElem? (i := 287) (by decide +kernel))), (List.mem_append_right _ (List.mem_of_getElem? (i := 288) (by decide +kernel))), TX6, 4, rfl⟩
theorem mpX6_32 : vOK RX6 32 m_X6_put 9 := ⟨mo_X6_put, rfl, (List.mem_append_right _ (List.mem_of_getElem? (i := 673) (by decide +kernel))), (List.mem_append_right _ (List.mem_of_getElem? (i := 568) (by decide +kernel))), (List.mem_append_right _ (List.mem_of_getElem? (i := 569) (by decide +kernel))), TX6, 4, rfl⟩
theorem mlpX6 : ∀ q ∈ mlX6, ((match q.2.1 with
    | 0 => vOK RX6 q.1 q.2.2.1 q.2.2.2
    | 1 => sOK RX6 q.1 q.2.2.1
    | 2 => iOK RX6 q.1 q.2.2.1
    | 3 => snOK RX6 q.1 q.2.2.1
    | 4 => inOK RX6 q.1 q.2.2.1
    | 5 => oiOK RX6 q.1
    | 6 => mmOK RX6 q.1
    | 7 => mnOK RX6 q.1
    | 8 => acOK RX6 q.1
    | 9 => uOK RX6 q.1 q.2.2.1
    | 10 => suOK RX6 q.1 q.2.2.1
    | 11 => swOK RX6 q.1 q.2.2.1
    | _ => False) : Prop) := (fa_cons mpX6_1 (fa_cons mpX6_13 (fa_cons mpX6_29 (fa_cons mpX6_32 fa_nil))))
def clPX6 (q : Nat × (Nat ⊕ Nat)) : Prop := match q.2 with
  | .inl ci => (∀ n fs, newF ci = some (n, fs) → newOK RX6 q.1 ci n fs) ∧ (ci = 4 → Jvm.Cond.classLink RX6 q.1 RX0 ∈ lw_tbl)
  | .inr _ => True
theorem clpX6 : ∀ q ∈ clX6, clPX6 q := fa_nil
theorem nlpX6 : ∀ q ∈ nlX6, Jvm.Cond.constant RX6 q.1 q.2 ∈ lw_tbl := fa_nil
theorem cpokX6 : cpOK RX6 false cpX6 := by
  refine ⟨fun k ci j ty fin h => flpX6 _ (lkp_mem h), fun k v h => slpX6 _ (lkp_mem h), fun k t y ci h => ?_, fun k ci h => clpX6 _ (lkp_mem h), fun k v h => nlpX6 _ (lkp_mem h)⟩
  exact mlpX6 _ (lkp_mem h)
theorem cpokIX6 : cpOK RX6 true cpIX6 := by
  refine ⟨fun k ci j ty fin h => fipX6 _ (lkp_mem h), fun k v h => slpX6 _ (lkp_mem h), fun k t y ci h => ?_, fun k ci h => clpX6 _ (lkp_mem h), fun k v h => nlpX6 _ (lkp_mem h)⟩
  exact mlpX6 _ (lkp_mem h)
def flX7 : List (Nat × (Nat × Nat × FieldType × Bool)) := [(16, (10, 0, .object "BellCores$Table", true)), (20, (10, 1, .array .char, true)), (24, (10, 2, .int, false)), (28, (10, 3, .int, false))]
def fiX7 : List (Nat × (Nat × Nat × FieldType × Bool)) := [(16, (10, 0, .object "BellCores$Table", true)), (20, (10, 1, .array .char, true)), (24, (10, 2, .int, false)), (28, (10, 3, .int, false))]
def slX7 : List (Nat × Value) := []
def mlX7 : List (Nat × (Nat × m0T × Nat)) := [(3, (5, mNone, 0)), (13, (2, m_X6_init, 0)), (31, (0, m_X7_isFull, 10)), (35, (0, m_X6_clear, 9)), (38, (0, m_X7_readOrder, 10)), (41, (0, m_X7_skip, 10)), (45, (0, m_X7_next, 10)), (49, (0, m_X7_readNumber, 10)), (53, (0, m_X7_keep, 10)), (57, (0, m_X7_readPair, 10)), (61, (0, m_X6_add, 9)), (64, (0, m_X6_put, 9))]
def clX7 : List (Nat × (Nat ⊕ Nat)) := [(9, .inl 9)]
def nlX7 : List (Nat × Int32) := []
def cpX7 : cpT := (lkp flX7, lkp slX7, lkp mlX7, lkp clX7, lkp nlX7)
def cpIX7 : cpT := (lkp fiX7, lkp slX7, lkp mlX7, lkp clX7, lkp nlX7)
theorem fipX7 : ∀ q ∈ fiX7, fldOK RX7 true q.1 q.2.1 q.2.2.1 q.2.2.2.1 q.2.2.2.2 := (fa_cons ⟨clOK10, RX7, TX7, 4, rfl, by decide, rfl, by decide +kernel, (List.mem_append_right _ (List.mem_of_getElem? (i := 153) (by decide +kernel))), fun _ _ => rfl⟩ (fa_cons ⟨clOK10, RX7, TX7, 4, rfl, by decide, rfl, by decide +kernel, (List.mem_append_right _ (List.mem_of_getElem? (i := 155) (by decide +kernel))), fun _ _ => rfl⟩ (fa_cons ⟨clOK10, RX7, TX7, 4, rfl, by decide, rfl, by decide +kernel, (List.mem_append_right _ (List.mem_of_getElem? (i := 156) (by decide +kernel))), fun h => nomatch h⟩ (fa_cons ⟨clOK10, RX7, TX7, 4, rfl, by decide, rfl, by decide +kernel, (List.mem_append_right _ (List.mem_of_getElem? (i := 157) (by decide +kernel))), fun h => nomatch h⟩ fa_nil))))
theorem flpX7 : ∀ q ∈ flX7, fldOK RX7 false q.1 q.2.1 q.2.2.1 q.2.2.2.1 q.2.2.2.2 := (fa_cons ⟨clOK10, RX7, TX7, 4, rfl, by decide, rfl, by decide +kernel, (List.mem_append_right _ (List.mem_of_getElem? (i := 153) (by decide +kernel))), fun _ h => nomatch h⟩ (fa_cons ⟨clOK10, RX7, TX7, 4, rfl, by decide, rfl, by decide +kernel, (List.mem_append_right _ (List.mem_of_getElem? (i := 155) (by decide +kernel))), fun _ h => nomatch h⟩ (fa_cons ⟨clOK10, RX7, TX7, 4, rfl, by decide, rfl, by decide +kernel, (List.mem_append_right _ (List.mem_of_getElem? (i := 156) (by decide +kernel))), fun _ h => nomatch h⟩ (fa_cons ⟨clOK10, RX7, TX7, 4, rfl, by decide, rfl, by decide +kernel, (List.mem_append_right _ (List.mem_of_getElem? (i := 157) (by decide +kernel))), fun _ h => nomatch h⟩ fa_nil))))
theorem slpX7 : ∀ q ∈ slX7, stcOK RX7 q.1 q.2 := fa_nil
theorem mpX7_3 : oiOK RX7 3 := ⟨(List.mem_append_right _ (List.mem_of_getElem? (i := 150) (by decide +kernel))), (List.mem_append_right _ (List.mem_of_getElem? (i := 41) (by decide +kernel))), (List.mem_append_right _ (List.mem_of_getElem? (i := 42) (by decide +kernel)))⟩
theorem mpX7_13 : iOK RX7 13 m_X6_init := ⟨mo_X6_init, rfl, rfl, (List.mem_append_right _ (List.mem_of_getElem? (i := 152) (by decide +kernel))), rfl, (List.mem_append_right _ (List.mem_of_getElem? (i := 52) (by decide +kernel)))⟩
theorem mpX7_31 : vOK RX7 31 m_X7_isFull 10 := ⟨mo_X7_isFull, rfl, (List.mem_append_right _ (List.mem_of_getElem? (i := 1267) (by decide +kernel))), (List.mem_append_right _ (List.mem_of_getElem? (i := 1244) (by decide +kernel))), (List.mem_append_right _ (List.mem_of_getElem? (i := 1245) (by decide +kernel))), TX7, 4, rfl⟩
theorem mpX7_35 : vOK RX7 35 m_X6_clear 9 := ⟨mo_X6_clear, rfl, (List.mem_append_right _ (List.mem_of_getElem? (i := 1283) (by decide +kernel))), (List.mem_append_right _ (List.mem_of_getElem? (i := 1284) (by decide +kernel))), (List.mem_append_right _ (List.mem_of_getElem? (i := 1285) (by decide +kernel))), TX6, 4, rfl⟩
theorem mpX7_38 : vOK RX7 38 m_X7_readOrder 10 := ⟨mo_X7_readOrder, rfl, (List.mem_append_right _ (List.mem_of_getElem? (i := 1287) (by decide +kernel))), (List.mem_append_right _ (List.mem_of_getElem? (i := 1289) (by decide +kernel))), (List.mem_append_left _ (List.mem_of_getElem? (i := 14) (by decide +kernel))), TX7, 4, rfl⟩
theorem mpX7_41 : vOK RX7 41 m_X7_skip 10 := ⟨mo_X7_skip, rfl, (List.mem_append_right _ (List.mem_of_getElem? (i := 1309) (by decide +kernel))), (List.mem_append_right _ (List.mem_of_getElem? (i := 1311) (by decide +kernel))), (List.mem_append_left _ (List.mem_of_getElem? (i := 19) (by decide +kernel))), TX7, 4, rfl⟩
theorem mpX7_45 : vOK RX7 45 m_X7_next 10 := ⟨mo_X7_next, rfl, (List.mem_append_right _ (List.mem_of_getElem? (i := 1291) (by decide +kernel))), (List.mem_append_right _ (List.mem_of_getElem? (i := 1293) (by decide +kernel))), (List.mem_append_left _ (List.mem_of_getElem? (i := 15) (by decide +kernel))), TX7, 4, rfl⟩
theorem mpX7_49 : vOK RX7 49 m_X7_readNumber 10 := ⟨mo_X7_readNumber, rfl, (List.mem_append_right _ (List.mem_of_getElem? (i := 1295) (by decide +kernel))), (List.mem_append_right _ (List.mem_of_getElem? (i := 1297) (by decide +kernel))), (List.mem_append_left _ (List.mem_of_getElem? (i := 16) (by decide +kernel))), TX7, 4, rfl⟩
theorem mpX7_53 : vOK RX7 53 m_X7_keep 10 := ⟨mo_X7_keep, rfl, (List.mem_append_right _ (List.mem_of_getElem? (i := 1299) (by decide +kernel))), (List.mem_append_right _ (List.mem_of_getElem? (i := 1301) (by decide +kernel))), (List.mem_append_left _ (List.mem_of_getElem? (i := 17) (by decide +kernel))), TX7, 4, rfl⟩
theorem mpX7_57 : vOK RX7 57 m_X7_readPair 10 := ⟨mo_X7_readPair, rfl, (List.mem_append_right _ (List.mem_of_getElem? (i := 1305) (by decide +kernel))), (List.mem_append_right _ (List.mem_of_getElem? (i := 1307) (by decide +kernel))), (List.mem_append_left _ (List.mem_of_getElem? (i := 18) (by decide +kernel))), TX7, 4, rfl⟩
theorem mpX7_61 : vOK RX7 61 m_X6_add 9 := ⟨mo_X6_add, rfl, (List.mem_append_right _ (List.mem_of_getElem? (i := 1303) (by decide +kernel))), (List.mem_append_right _ (List.mem_of_getElem? (i := 564) (by decide +kernel))), (List.mem_append_right _ (List.mem_of_getElem? (i := 565) (by decide +kernel))), TX6, 4, rfl⟩
theorem mpX7_64 : vOK RX7 64 m_X6_put 9 := ⟨mo_X6_put, rfl, (List.mem_append_right _ (List.mem_of_getElem? (i := 1304) (by decide +kernel))), (List.mem_append_right _ (List.mem_of_getElem? (i := 568) (by decide +kernel))), (List.mem_append_right _ (List.mem_of_getElem? (i := 569) (by decide +kernel))), TX6, 4, rfl⟩
theorem mlpX7 : ∀ q ∈ mlX7, ((match q.2.1 with
    | 0 => vOK RX7 q.1 q.2.2.1 q.2.2.2
    | 1 => sOK RX7 q.1 q.2.2.1
    | 2 => iOK RX7 q.1 q.2.2.1
    | 3 => snOK RX7 q.1 q.2.2.1
    | 4 => inOK RX7 q.1 q.2.2.1
    | 5 => oiOK RX7 q.1
    | 6 => mmOK RX7 q.1
    | 7 => mnOK RX7 q.1
    | 8 => acOK RX7 q.1
    | 9 => uOK RX7 q.1 q.2.2.1
    | 10 => suOK RX7 q.1 q.2.2.1
    | 11 => swOK RX7 q.1 q.2.2.1
    | _ => False) : Prop) := (fa_cons mpX7_3 (fa_cons mpX7_13 (fa_cons mpX7_31 (fa_cons mpX7_35 (fa_cons mpX7_38 (fa_cons mpX7_41 (fa_cons mpX7_45 (fa_cons mpX7_49 (fa_cons mpX7_53 (fa_cons mpX7_57 (fa_cons mpX7_61 (fa_cons mpX7_64 fa_nil))))))))))))
def clPX7 (q : Nat × (Nat ⊕ Nat)) : Prop := match q.2 with
  | .inl ci => (∀ n fs, newF ci = some (n, fs) → newOK RX7 q.1 ci n fs) ∧ (ci = 4 → Jvm.Cond.classLink RX7 q.1 RX0 ∈ lw_tbl)
  | .inr _ => True
theorem clpX7 : ∀ q ∈ clX7, clPX7 q := (fa_cons ⟨(fun n fs h => by cases h; exact ⟨clOK9, RX6, TX6, tyX6, rfl, tyX6_ok, by decide +kernel, (List.mem_append_right _ (List.mem_of_getElem? (i := 151) (by decide +kernel))), (List.mem_append_right _ (List.mem_of_getElem? (i := 50) (by decide +kernel))), (List.mem_append_right _ (List.mem_of_getElem? (i := 3) (by decide +kernel)))⟩), (fun h => nomatch h)⟩ fa_nil)
theorem nlpX7 : ∀ q ∈ nlX7, Jvm.Cond.constant RX7 q.1 q.2 ∈ lw_tbl := fa_nil
theorem cpokX7 : cpOK RX7 false cpX7 := by
  refine ⟨fun k ci j ty fin h => flpX7 _ (lkp_mem h), fun k v h => slpX7 _ (lkp_mem h), fun k t y ci h => ?_, fun k ci h => clpX7 _ (lkp_mem h), fun k v h => nlpX7 _ (lkp_mem h)⟩
  exact mlpX7 _ (lkp_mem h)
theorem cpokIX7 : cpOK RX7 true cpIX7 := by
  refine ⟨fun k ci j ty fin h => fipX7 _ (lkp_mem h), fun k v h => slpX7 _ (lkp_mem h), fun k t y ci h => ?_, fun k ci h => clpX7 _ (lkp_mem h), fun k v h => nlpX7 _ (lkp_mem h)⟩
  exact mlpX7 _ (lkp_mem h)
def flL : List (Nat × (Nat × Nat × FieldType × Bool)) := []
def fiL : List (Nat × (Nat × Nat × FieldType × Bool)) := []
def slL : List (Nat × Value) := []
def mlL : List (Nat × (Nat × m0T × Nat)) := [(7, (0, m_X8_coal, 11)), (15, (0, m_X8_bronze, 11)), (20, (0, m_X8_mould, 11)), (24, (0, m_X8_smash, 11)), (29, (0, m_X8_mouldOf, 11)), (32, (0, m_X8_rack, 11)), (35, (0, m_X8_strike, 11)), (38, (0, m_X8_rackOf, 11)), (41, (0, m_X8_pour, 11)), (44, (0, m_X8_pass, 11)), (47, (0, m_X8_take, 11)), (50, (0, m_X8_ring, 11)), (53, (0, m_X8_file, 11)), (56, (0, m_X8_recast, 11)), (59, (0, m_X8_bellOf, 11)), (62, (0, m_X8_note, 11)), (66, (0, m_X8_wouldCrack, 11)), (69, (0, m_X8_coldIn, 11)), (72, (0, m_X8_peal, 11)), (75, (0, m_X8_longest, 11)), (81, (0, m_X8_ranked, 11)), (84, (0, m_X8_first, 11)), (87, (0, m_X8_line, 11)), (90, (0, m_X8_rackLine, 11)), (93, (0, m_X8_character, 11)), (97, (0, m_X8_append, 11)), (103, (0, m_X8_run, 11)), (106, (0, m_X8_refusal, 11)), (110, (0, m_X8_account, 11)), (113, (0, m_X8_meanNote, 11)), (119, (0, m_X8_soundShare, 11)), (123, (0, m_X8_undo, 11)), (126, (0, m_X8_restore, 11)), (129, (2, m_X8_init, 0)), (132, (2, m_X9_init, 0)), (133, (11, m_L_coal, 0)), (138, (0, m_X9_coal, 12)), (139, (0, m_X9_thrown, 12)), (142, (11, m_L_bronze, 0)), (144, (0, m_X9_bronze, 12)), (145, (11, m_L_mould, 0)), (148, (0, m_X9_mould, 12)), (149, (11, m_L_smash, 0)), (151, (0, m_X9_smash, 12)), (152, (11, m_L_mouldOf, 0)), (154, (0, m_X9_mouldOf, 12)), (155, (11, m_L_rack, 0)), (157, (0, m_X9_rack, 12)), (158, (11, m_L_strike, 0)), (160, (0, m_X9_strike, 12)), (161, (11, m_L_rackOf, 0)), (163, (0, m_X9_rackOf, 12)), (164, (11, m_L_pour, 0)), (166, (0, m_X9_pour, 12)), (167, (11, m_L_pass, 0)), (169, (0, m_X9_pass, 12)), (170, (11, m_L_take, 0)), (172, (0, m_X9_take, 12)), (173, (11, m_L_ring, 0)), (175, (0, m_X9_ring, 12)), (176, (11, m_L_file, 0)), (178, (0, m_X9_file, 12)), (179, (11, m_L_recast, 0)), (181, (0, m_X9_recast, 12)), (182, (11, m_L_bellOf, 0)), (184, (0, m_X9_bellOf, 12)), (185, (11, m_L_note, 0)), (188, (0, m_X9_note, 12)), (189, (11, m_L_wouldCrack, 0)), (191, (0, m_X9_wouldCrack, 12)), (192, (11, m_L_coldIn, 0)), (194, (0, m_X9_coldIn, 12)), (195, (11, m_L_peal, 0)), (197, (0, m_X9_peal, 12)), (198, (11, m_L_longest, 0)), (201, (0, m_X9_longest, 12)), (202, (11, m_L_ranked, 0)), (204, (0, m_X9_ranked, 12)), (205, (0, m_X8_pourable, 11)), (208, (0, m_X9_pourable, 12)), (209, (11, m_L_first, 0)), (211, (0, m_X9_first, 12)), (212, (11, m_L_line, 0)), (214, (0, m_X9_line, 12)), (215, (11, m_L_rackLine, 0)), (217, (0, m_X9_rackLine, 12)), (218, (11, m_L_character, 0)), (220, (0, m_X9_character, 12)), (221, (11, m_L_append, 0)), (224, (0, m_X9_append, 12)), (225, (11, m_L_run, 0)), (227, (0, m_X9_run, 12)), (228, (0, m_X8_errorPosition, 11)), (231, (0, m_X9_errorPosition, 12)), (232, (11, m_L_refusal, 0)), (235, (0, m_X9_refusal, 12)), (236, (11, m_L_account, 0)), (238, (0, m_X9_account, 12)), (239, (0, m_X8_isWell, 11)), (243, (0, m_X9_isWell, 12)), (244, (11, m_L_meanNote, 0)), (247, (0, m_X9_meanNote, 12)), (248, (11, m_L_soundShare, 0)), (250, (0, m_X9_soundShare, 12)), (251, (11, m_L_undo, 0)), (253, (0, m_X9_undo, 12)), (254, (0, m_X8_save, 11)), (257, (0, m_X9_save, 12)), (258, (11, m_L_restore, 0)), (260, (0, m_X9_restore, 12))]
def clL : List (Nat × (Nat ⊕ Nat)) := [(8, .inl 11), (130, .inl 12)]
def nlL : List (Nat × Int32) := []
def cpL : cpT := (lkp flL, lkp slL, lkp mlL, lkp clL, lkp nlL)
def cpIL : cpT := (lkp fiL, lkp slL, lkp mlL, lkp clL, lkp nlL)
theorem fipL : ∀ q ∈ fiL, fldOK RL true q.1 q.2.1 q.2.2.1 q.2.2.2.1 q.2.2.2.2 := fa_nil
theorem flpL : ∀ q ∈ flL, fldOK RL false q.1 q.2.1 q.2.2.1 q.2.2.2.1 q.2.2.2.2 := fa_nil
theorem slpL : ∀ q ∈ slL, stcOK RL q.1 q.2 := fa_nil
theorem mpL_7 : vOK RL 7 m_X8_coal 11 := ⟨mo_X8_coal, rfl, (List.mem_append_right _ (List.mem_of_getElem? (i := 415) (by decide +kernel))), (List.mem_append_right _ (List.mem_of_getElem? (i := 416) (by decide +kernel))), (List.mem_append_right _ (List.mem_of_getElem? (i := 417) (by decide +kernel))), TX8, 10, rfl⟩
theorem mpL_15 : vOK RL 15 m_X8_bronze 11 := ⟨mo_X8_bronze, rfl, (List.mem_append_right _ (List.mem_of_getElem? (i := 510) (by decide +kernel))), (List.mem_append_right _ (List.mem_of_getElem? (i := 511) (by decide +kernel))), (List.mem_append_right _ (List.mem_of_getElem? (i := 512) (by decide +kernel))), TX8, 10, rfl⟩
theorem mpL_20 : vOK RL 20 m_X8_mould 11 := ⟨mo_X8_mould, rfl, (List.mem_append_right _ (List.mem_of_getElem? (i := 546) (by decide +kernel))), (List.mem_append_right _ (List.mem_of_getElem? (i := 547) (by decide +kernel))), (List.mem_append_right _ (List.mem_of_getElem? (i := 548) (by decide +kernel))), TX8, 10, rfl⟩
theorem mpL_24 : vOK RL 24 m_X8_smash 11 := ⟨mo_X8_smash, rfl, (List.mem_append_right _ (List.mem_of_getElem? (i := 598) (by decide +kernel))), (List.mem_append_right _ (List.mem_of_getElem? (i := 599) (by decide +kernel))), (List.mem_append_right _ (List.mem_of_getElem? (i := 600) (by decide +kernel))), TX8, 10, rfl⟩
theorem mpL_29 : vOK RL 29 m_X8_mouldOf 11 := ⟨mo_X8_mouldOf, rfl, (List.mem_append_right _ (List.mem_of_getElem? (i := 626) (by decide +kernel))), (List.mem_append_right _ (List.mem_of_getElem? (i := 627) (by decide +kernel))), (List.mem_append_right _ (List.mem_of_getElem? (i := 628) (by decide +kernel))), TX8, 10, rfl⟩
theorem mpL_32 : vOK RL 32 m_X8_rack 11 := ⟨mo_X8_rack, rfl, (List.mem_append_right _ (List.mem_of_getElem? (i := 637) (by decide +kernel))), (List.mem_append_right _ (List.mem_of_getElem? (i := 638) (by decide +kernel))), (List.mem_append_right _ (List.mem_of_getElem? (i := 639) (by decide +kernel))), TX8, 10, rfl⟩
theorem mpL_35 : vOK RL 35 m_X8_strike 11 := ⟨mo_X8_strike, rfl, (List.mem_append_right _ (List.mem_of_getElem? (i := 654) (by decide +kernel))), (List.mem_append_right _ (List.mem_of_getElem? (i := 655) (by decide +kernel))), (List.mem_append_right _ (List.mem_of_getElem? (i := 656) (by decide +kernel))), TX8, 10, rfl⟩
theorem mpL_38 : vOK RL 38 m_X8_rackOf 11 := ⟨mo_X8_rackOf, rfl, (List.mem_append_right _ (List.mem_of_getElem? (i := 677) (by decide +kernel))), (List.mem_append_right _ (List.mem_of_getElem? (i := 678) (by decide +kernel))), (List.mem_append_right _ (List.mem_of_getElem? (i := 679) (by decide +kernel))), TX8, 10, rfl⟩
theorem mpL_41 : vOK RL 41 m_X8_pour 11 := ⟨mo_X8_pour, rfl, (List.mem_append_right _ (List.mem_of_getElem? (i := 690) (by decide +kernel))), (List.mem_append_right _ (List.mem_of_getElem? (i := 691) (by decide +kernel))), (List.mem_append_right _ (List.mem_of_getElem? (i := 692) (by decide +kernel))), TX8, 10, rfl⟩
theorem mpL_44 : vOK RL 44 m_X8_pass 11 := ⟨mo_X8_pass, rfl, (List.mem_append_right _ (List.mem_of_getElem? (i := 715) (by decide +kernel))), (List.mem_append_right _ (List.mem_of_getElem? (i := 716) (by decide +kernel))), (List.mem_append_right _ (List.mem_of_getElem? (i := 717) (by decide +kernel))), TX8, 10, rfl⟩
theorem mpL_47 : vOK RL 47 m_X8_take 11 := ⟨mo_X8_take, rfl, (List.mem_append_right _ (List.mem_of_getElem? (i := 744) (by decide +kernel))), (List.mem_append_right _ (List.mem_of_getElem? (i := 745) (by decide +kernel))), (List.mem_append_right _ (List.mem_of_getElem? (i := 746) (by decide +kernel))), TX8, 10, rfl⟩
theorem mpL_50 : vOK RL 50 m_X8_ring 11 := ⟨mo_X8_ring, rfl, (List.mem_append_right _ (List.mem_of_getElem? (i := 761) (by decide +kernel))), (List.mem_append_right _ (List.mem_of_getElem? (i := 762) (by decide +kernel))), (List.mem_append_right _ (List.mem_of_getElem? (i := 763) (by decide +kernel))), TX8, 10, rfl⟩
theorem mpL_53 : vOK RL 53 m_X8_file 11 := ⟨mo_X8_file, rfl, (List.mem_append_right _ (List.mem_of_getElem? (i := 777) (by decide +kernel))), (List.mem_append_right _ (List.mem_of_getElem? (i := 778) (by decide +kernel))), (List.mem_append_right _ (List.mem_of_getElem? (i := 779) (by decide +kernel))), TX8, 10, rfl⟩
theorem mpL_56 : vOK RL 56 m_X8_recast 11 := ⟨mo_X8_recast, rfl, (List.mem_append_right _ (List.mem_of_getElem? (i := 796) (by decide +kernel))), (List.mem_append_right _ (List.mem_of_getElem? (i := 797) (by decide +kernel))), (List.mem_append_right _ (List.mem_of_getElem? (i := 798) (by decide +kernel))), TX8, 10, rfl⟩
theorem mpL_59 : vOK RL 59 m_X8_bellOf 11 := ⟨mo_X8_bellOf, rfl, (List.mem_append_right _ (List.mem_of_getElem? (i := 817) (by decide +kernel))), (List.mem_append_right _ (List.mem_of_getElem? (i := 818) (by decide +kernel))), (List.mem_append_right _ (List.mem_of_getElem? (i := 819) (by decide +kernel))), TX8, 10, rfl⟩
theorem mpL_62 : vOK RL 62 m_X8_note 11 := ⟨mo_X8_note, rfl, (List.mem_append_right _ (List.mem_of_getElem? (i := 825) (by decide +kernel))), (List.mem_append_right _ (List.mem_of_getElem? (i := 826) (by decide +kernel))), (List.mem_append_right _ (List.mem_of_getElem? (i := 827) (by decide +kernel))), TX8, 10, rfl⟩
theorem mpL_66 : vOK RL 66 m_X8_wouldCrack 11 := ⟨mo_X8_wouldCrack, rfl, (List.mem_append_right _ (List.mem_of_getElem? (i := 832) (by decide +kernel))), (List.mem_append_right _ (List.mem_of_getElem? (i := 833) (by decide +kernel))), (List.mem_append_right _ (List.mem_of_getElem? (i := 834) (by decide +kernel))), TX8, 10, rfl⟩
theorem mpL_69 : vOK RL 69 m_X8_coldIn 11 := ⟨mo_X8_coldIn, rfl, (List.mem_append_right _ (List.mem_of_getElem? (i := 844) (by decide +kernel))), (List.mem_append_right _ (List.mem_of_getElem? (i := 845) (by decide +kernel))), (List.mem_append_right _ (List.mem_of_getElem? (i := 846) (by decide +kernel))), TX8, 10, rfl⟩
theorem mpL_72 : vOK RL 72 m_X8_peal 11 := ⟨mo_X8_peal, rfl, (List.mem_append_right _ (List.mem_of_getElem? (i := 855) (by decide +kernel))), (List.mem_append_right _ (List.mem_of_getElem? (i := 856) (by decide +kernel))), (List.mem_append_right _ (List.mem_of_getElem? (i := 857) (by decide +kernel))), TX8, 10, rfl⟩
theorem mpL_75 : vOK RL 75 m_X8_longest 11 := ⟨mo_X8_longest, rfl, (List.mem_append_right _ (List.mem_of_getElem? (i := 864) (by decide +kernel))), (List.mem_append_right _ (List.mem_of_getElem? (i := 865) (by decide +kernel))), (List.mem_append_right _ (List.mem_of_getElem? (i := 866) (by decide +kernel))), TX8, 10, rfl⟩
theorem mpL_81 : vOK RL 81 m_X8_ranked 11 := ⟨mo_X8_ranked, rfl, (List.mem_append_right _ (List.mem_of_getElem? (i := 892) (by decide +kernel))), (List.mem_append_right _ (List.mem_of_getElem? (i := 893) (by decide +kernel))), (List.mem_append_right _ (List.mem_of_getElem? (i := 894) (by decide +kernel))), TX8, 10, rfl⟩
theorem mpL_84 : vOK RL 84 m_X8_first 11 := ⟨mo_X8_first, rfl, (List.mem_append_right _ (List.mem_of_getElem? (i := 908) (by decide +kernel))), (List.mem_append_right _ (List.mem_of_getElem? (i := 909) (by decide +kernel))), (List.mem_append_right _ (List.mem_of_getElem? (i := 910) (by decide +kernel))), TX8, 10, rfl⟩
theorem mpL_87 : vOK RL 87 m_X8_line 11 := ⟨mo_X8_line, rfl, (List.mem_append_right _ (List.mem_of_getElem? (i := 921) (by decide +kernel))), (List.mem_append_right _ (List.mem_of_getElem? (i := 922) (by decide +kernel))), (List.mem_append_right _ (List.mem_of_getElem? (i := 923) (by decide +kernel))), TX8, 10, rfl⟩
theorem mpL_90 : vOK RL 90 m_X8_rackLine 11 := ⟨mo_X8_rackLine, rfl, (List.mem_append_right _ (List.mem_of_getElem? (i := 1209) (by decide +kernel))), (List.mem_append_right _ (List.mem_of_getElem? (i := 1210) (by decide +kernel))), (List.mem_append_right _ (List.mem_of_getElem? (i := 1211) (by decide +kernel))), TX8, 10, rfl⟩
theorem mpL_93 : vOK RL 93 m_X8_character 11 := ⟨mo_X8_character, rfl, (List.mem_append_right _ (List.mem_of_getElem? (i := 1220) (by decide +kernel))), (List.mem_append_right _ (List.mem_of_getElem? (i := 1221) (by decide +kernel))), (List.mem_append_right _ (List.mem_of_getElem? (i := 1222) (by decide +kernel))), TX8, 10, rfl⟩
theorem mpL_97 : vOK RL 97 m_X8_append 11 := ⟨mo_X8_append, rfl, (List.mem_append_right _ (List.mem_of_getElem? (i := 1239) (by decide +kernel))), (List.mem_append_right _ (List.mem_of_getElem? (i := 1240) (by decide +kernel))), (List.mem_append_right _ (List.mem_of_getElem? (i := 1241) (by decide +kernel))), TX8, 10, rfl⟩
theorem mpL_103 : vOK RL 103 m_X8_run 11 := ⟨mo_X8_run, rfl, (List.mem_append_right _ (List.mem_of_getElem? (i := 1275) (by decide +kernel))), (List.mem_append_right _ (List.mem_of_getElem? (i := 1276) (by decide +kernel))), (List.mem_append_right _ (List.mem_of_getElem? (i := 1277) (by decide +kernel))), TX8, 10, rfl⟩
theorem mpL_106 : vOK RL 106 m_X8_refusal 11 := ⟨mo_X8_refusal, rfl, (List.mem_append_right _ (List.mem_of_getElem? (i := 1349) (by decide +kernel))), (List.mem_append_right _ (List.mem_of_getElem? (i := 1350) (by decide +kernel))), (List.mem_append_right _ (List.mem_of_getElem? (i := 1351) (by decide +kernel))), TX8, 10, rfl⟩
theorem mpL_110 : vOK RL 110 m_X8_account 11 := ⟨mo_X8_account, rfl, (List.mem_append_right _ (List.mem_of_getElem? (i := 1357) (by decide +kernel))), (List.mem_append_right _ (List.mem_of_getElem? (i := 1358) (by decide +kernel))), (List.mem_append_right _ (List.mem_of_getElem? (i := 1359) (by decide +kernel))), TX8, 10, rfl⟩
theorem mpL_113 : vOK RL 113 m_X8_meanNote 11 := ⟨mo_X8_meanNote, rfl, (List.mem_append_right _ (List.mem_of_getElem? (i := 1391) (by decide +kernel))), (List.mem_append_right _ (List.mem_of_getElem? (i := 1392) (by decide +kernel))), (List.mem_append_right _ (List.mem_of_getElem? (i := 1393) (by decide +kernel))), TX8, 10, rfl⟩
theorem mpL_119 : vOK RL 119 m_X8_soundShare 11 := ⟨mo_X8_soundShare, rfl, (List.mem_append_right _ (List.mem_of_getElem? (i := 1405) (by decide +kernel))), (List.mem_append_right _ (List.mem_of_getElem? (i := 1406) (by decide +kernel))), (List.mem_append_right _ (List.mem_of_getElem? (i := 1407) (by decide +kernel))), TX8, 10, rfl⟩
theorem mpL_123 : vOK RL 123 m_X8_undo 11 := ⟨mo_X8_undo, rfl, (List.mem_append_right _ (List.mem_of_getElem? (i := 1413) (by decide +kernel))), (List.mem_append_right _ (List.mem_of_getElem? (i := 1414) (by decide +kernel))), (List.mem_append_right _ (List.mem_of_getElem? (i := 1415) (by decide +kernel))), TX8, 10, rfl⟩
theorem mpL_126 : vOK RL 126 m_X8_restore 11 := ⟨mo_X8_restore, rfl, (List.mem_append_right _ (List.mem_of_getElem? (i := 1425) (by decide +kernel))), (List.mem_append_right _ (List.mem_of_getElem? (i := 1426) (by decide +kernel))), (List.mem_append_right _ (List.mem_of_getElem? (i := 1427) (by decide +kernel))), TX8, 10, rfl⟩
theorem mpL_129 : iOK RL 129 m_X8_init := ⟨mo_X8_init, rfl, rfl, (List.mem_append_right _ (List.mem_of_getElem? (i := 37) (by decide +kernel))), rfl, (List.mem_append_right _ (List.mem_of_getElem? (i := 38) (by decide +kernel)))⟩
theorem mpL_132 : iOK RL 132 m_X9_init := ⟨mo_X9_init, rfl, rfl, (List.mem_append_right _ (List.mem_of_getElem? (i := 1436) (by decide +kernel))), rfl, (List.mem_append_right _ (List.mem_of_getElem? (i := 1437) (by decide +kernel)))⟩
theorem mpL_133 : swOK RL 133 m_L_coal := ⟨mo_L_coal, (fun h => nomatch h), (List.mem_append_right _ (List.mem_of_getElem? (i := 411) (by decide +kernel))), (List.mem_append_right _ (List.mem_of_getElem? (i := 412) (by decide +kernel)))⟩
theorem mpL_138 : vOK RL 138 m_X9_coal 12 := ⟨mo_X9_coal, rfl, (List.mem_append_right _ (List.mem_of_getElem? (i := 1502) (by decide +kernel))), (List.mem_append_right _ (List.mem_of_getElem? (i := 1503) (by decide +kernel))), (List.mem_append_right _ (List.mem_of_getElem? (i := 1504) (by decide +kernel))), TX9, 19, rfl⟩
theorem mpL_139 : vOK RL 139 m_X9_thrown 12 := ⟨mo_X9_thrown, rfl, (List.mem_append_right _ (List.mem_of_getElem? (i := 1498) (by decide +kernel))), (List.mem_append_right _ (List.mem_of_getElem? (i := 1499) (by decide +kernel))), (List.mem_append_right _ (List.mem_of_getElem? (i := 1500) (by decide +kernel))), TX9, 19, rfl⟩
theorem mpL_142 : swOK RL 142 m_L_bronze := ⟨mo_L_bronze, (fun h => nomatch h), (List.mem_append_right _ (List.mem_of_getElem? (i := 506) (by decide +kernel))), (List.mem_append_right _ (List.mem_of_getElem? (i := 507) (by decide +kernel)))⟩
theorem mpL_144 : vOK RL 144 m_X9_bronze 12 := ⟨mo_X9_bronze, rfl, (List.mem_append_right _ (List.mem_of_getElem? (i := 1520) (by decide +kernel))), (List.mem_append_right _ (List.mem_of_getElem? (i := 1521) (by decide +kernel))), (List.mem_append_right _ (List.mem_of_getElem? (i := 1522) (by decide +kernel))), TX9, 19, rfl⟩
theorem mpL_145 : swOK RL 145 m_L_mould := ⟨mo_L_mould, (fun h => nomatch h), (List.mem_append_right _ (List.mem_of_getElem? (i := 543) (by decide +kernel))), (List.mem_append_right _ (List.mem_of_getElem? (i := 544) (by decide +kernel)))⟩
theorem mpL_148 : vOK RL 148 m_X9_mould 12 := ⟨mo_X9_mould, rfl, (List.mem_append_right _ (List.mem_of_getElem? (i := 1528) (by decide +kernel))), (List.mem_append_right _ (List.mem_of_getElem? (i := 1529) (by decide +kernel))), (List.mem_append_right _ (List.mem_of_getElem? (i := 1530) (by decide +kernel))), TX9, 19, rfl⟩
theorem mpL_149 : swOK RL 149 m_L_smash := ⟨mo_L_smash, (fun h => nomatch h), (List.mem_append_right _ (List.mem_of_getElem? (i := 571) (by decide +kernel))), (List.mem_append_right _ (List.mem_of_getElem? (i := 572) (by decide +kernel)))⟩
theorem mpL_151 : vOK RL 151 m_X9_smash 12 := ⟨mo_X9_smash, rfl, (List.mem_append_right _ (List.mem_of_getElem? (i := 1532) (by decide +kernel))), (List.mem_append_right _ (List.mem_of_getElem? (i := 1533) (by decide +kernel))), (List.mem_append_right _ (List.mem_of_getElem? (i := 1534) (by decide +kernel))), TX9, 19, rfl⟩
theorem mpL_152 : swOK RL 152 m_L_mouldOf := ⟨mo_L_mouldOf, (fun h => nomatch h), (List.mem_append_right _ (List.mem_of_getElem? (i := 623) (by decide +kernel))), (List.mem_append_right _ (List.mem_of_getElem? (i := 624) (by decide +kernel)))⟩
theorem mpL_154 : vOK RL 154 m_X9_mouldOf 12 := ⟨mo_X9_mouldOf, rfl, (List.mem_append_right _ (List.mem_of_getElem? (i := 1548) (by decide +kernel))), (List.mem_append_right _ (List.mem_of_getElem? (i := 1549) (by decide +kernel))), (List.mem_append_right _ (List.mem_of_getElem? (i := 1550) (by decide +kernel))), TX9, 19, rfl⟩
theorem mpL_155 : swOK RL 155 m_L_rack := ⟨mo_L_rack, (fun h => nomatch h), (List.mem_append_right _ (List.mem_of_getElem? (i := 634) (by decide +kernel))), (List.mem_append_right _ (List.mem_of_getElem? (i := 635) (by decide +kernel)))⟩
theorem mpL_157 : vOK RL 157 m_X9_rack 12 := ⟨mo_X9_rack, rfl, (List.mem_append_right _ (List.mem_of_getElem? (i := 1564) (by decide +kernel))), (List.mem_append_right _ (List.mem_of_getElem? (i := 1565) (by decide +kernel))), (List.mem_append_right _ (List.mem_of_getElem? (i := 1566) (by decide +kernel))), TX9, 19, rfl⟩
theorem mpL_158 : swOK RL 158 m_L_strike := ⟨mo_L_strike, (fun h => nomatch h), (List.mem_append_right _ (List.mem_of_getElem? (i := 651) (by decide +kernel))), (List.mem_append_right _ (List.mem_of_getElem? (i := 652) (by decide +kernel)))⟩
theorem mpL_160 : vOK RL 160 m_X9_strike 12 := ⟨mo_X9_strike, rfl, (List.mem_append_right _ (List.mem_of_getElem? (i := 1568) (by decide +kernel))), (List.mem_append_right _ (List.mem_of_getElem? (i := 1569) (by decide +kernel))), (List.mem_append_right _ (List.mem_of_getElem? (i := 1570) (by decide +kernel))), TX9, 19, rfl⟩
theorem mpL_161 : swOK RL 161 m_L_rackOf := ⟨mo_L_rackOf, (fun h => nomatch h), (List.mem_append_right _ (List.mem_of_getElem? (i := 674) (by decide +kernel))), (List.mem_append_right _ (List.mem_of_getElem? (i := 675) (by decide +kernel)))⟩
theorem mpL_163 : vOK RL 163 m_X9_rackOf 12 := ⟨mo_X9_rackOf, rfl, (List.mem_append_right _ (List.mem_of_getElem? (i := 1588) (by decide +kernel))), (List.mem_append_right _ (List.mem_of_getElem? (i := 1589) (by decide +kernel))), (List.mem_append_right _ (List.mem_of_getElem? (i := 1590) (by decide +kernel))), TX9, 19, rfl⟩
theorem mpL_164 : swOK RL 164 m_L_pour := ⟨mo_L_pour, (fun h => nomatch h), (List.mem_append_right _ (List.mem_of_getElem? (i := 687) (by decide +kernel))), (List.mem_append_right _ (List.mem_of_getElem? (i := 688) (by decide +kernel)))⟩
theorem mpL_166 : vOK RL 166 m_X9_pour 12 := ⟨mo_X9_pour, rfl, (List.mem_append_right _ (List.mem_of_getElem? (i := 1596) (by decide +kernel))), (List.mem_append_right _ (List.mem_of_getElem? (i := 1597) (by decide +kernel))), (List.mem_append_right _ (List.mem_of_getElem? (i := 1598) (by decide +kernel))), TX9, 19, rfl⟩
theorem mpL_167 : swOK RL 167 m_L_pass := ⟨mo_L_pass, (fun h => nomatch h), (List.mem_append_right _ (List.mem_of_getElem? (i := 712) (by decide +kernel))), (List.mem_append_right _ (List.mem_of_getElem? (i := 713) (by decide +kernel)))⟩
theorem mpL_169 : vOK RL 169 m_X9_pass 12 := ⟨mo_X9_pass, rfl, (List.mem_append_right _ (List.mem_of_getElem? (i := 1603) (by decide +kernel))), (List.mem_append_right _ (List.mem_of_getElem? (i := 1604) (by decide +kernel))), (List.mem_append_right _ (List.mem_of_getElem? (i := 1605) (by decide +kernel))), TX9, 19, rfl⟩
theorem mpL_170 : swOK RL 170 m_L_take := ⟨mo_L_take, (fun h => nomatch h), (List.mem_append_right _ (List.mem_of_getElem? (i := 741) (by decide +kernel))), (List.mem_append_right _ (List.mem_of_getElem? (i := 742) (by decide +kernel)))⟩
theorem mpL_172 : vOK RL 172 m_X9_take 12 := ⟨mo_X9_take, rfl, (List.mem_append_right _ (List.mem_of_getElem? (i := 1615) (by decide +kernel))), (List.mem_append_right _ (List.mem_of_getElem? (i := 1616) (by decide +kernel))), (List.mem_append_right _ (List.mem_of_getElem? (i := 1617) (by decide +kernel))), TX9, 19, rfl⟩
theorem mpL_173 : swOK RL 173 m_L_ring := ⟨mo_L_ring, (fun h => nomatch h), (List.mem_append_right _ (List.mem_of_getElem? (i := 758) (by decide +kernel))), (List.mem_append_right _ (List.mem_of_getElem? (i := 759) (by decide +kernel)))⟩
theorem mpL_175 : vOK RL 175 m_X9_ring 12 := ⟨mo_X9_ring, rfl, (List.mem_append_right _ (List.mem_of_getElem? (i := 1623) (by decide +kernel))), (List.mem_append_right _ (List.mem_of_getElem? (i := 1624) (by decide +kernel))), (List.mem_append_right _ (List.mem_of_getElem? (i := 1625) (by decide +kernel))), TX9, 19, rfl⟩
theorem mpL_176 : swOK RL 176 m_L_file := ⟨mo_L_file, (fun h => nomatch h), (List.mem_append_right _ (List.mem_of_getElem? (i := 774) (by decide +kernel))), (List.mem_append_right _ (List.mem_of_getElem? (i := 775) (by decide +kernel)))⟩
theorem mpL_178 : vOK RL 178 m_X9_file 12 := ⟨mo_X9_file, rfl, (List.mem_append_right _ (List.mem_of_getElem? (i := 1631) (by decide +kernel))), (List.mem_append_right _ (List.mem_of_getElem? (i := 1632) (by decide +kernel))), (List.mem_append_right _ (List.mem_of_getElem? (i := 1633) (by decide +kernel))), TX9, 19, rfl⟩
theorem mpL_179 : swOK RL 179 m_L_recast := ⟨mo_L_recast, (fun h => nomatch h), (List.mem_append_right _ (List.mem_of_getElem? (i := 793) (by decide +kernel))), (List.mem_append_right _ (List.mem_of_getElem? (i := 794) (by decide +kernel)))⟩
theorem mpL_181 : vOK RL 181 m_X9_recast 12 := ⟨mo_X9_recast, rfl, (List.mem_append_right _ (List.mem_of_getElem? (i := 1639) (by decide +kernel))), (List.mem_append_right _ (List.mem_of_getElem? (i := 1640) (by decide +kernel))), (List.mem_append_right _ (List.mem_of_getElem? (i := 1641) (by decide +kernel))), TX9, 19, rfl⟩
theorem mpL_182 : swOK RL 182 m_L_bellOf := ⟨mo_L_bellOf, (fun h => nomatch h), (List.mem_append_right _ (List.mem_of_getElem? (i := 814) (by decide +kernel))), (List.mem_append_right _ (List.mem_of_getElem? (i := 815) (by decide +kernel)))⟩
theorem mpL_184 : vOK RL 184 m_X9_bellOf 12 := ⟨mo_X9_bellOf, rfl, (List.mem_append_right _ (List.mem_of_getElem? (i := 1643) (by decide +kernel))), (List.mem_append_right _ (List.mem_of_getElem? (i := 1644) (by decide +kernel))), (List.mem_append_right _ (List.mem_of_getElem? (i := 1645) (by decide +kernel))), TX9, 19, rfl⟩
theorem mpL_185 : swOK RL 185 m_L_note := ⟨mo_L_note, (fun h => nomatch h), (List.mem_append_right _ (List.mem_of_getElem? (i := 822) (by decide +kernel))), (List.mem_append_right _ (List.mem_of_getElem? (i := 823) (by decide +kernel)))⟩
theorem mpL_188 : vOK RL 188 m_X9_note 12 := ⟨mo_X9_note, rfl, (List.mem_append_right _ (List.mem_of_getElem? (i := 1647) (by decide +kernel))), (List.mem_append_right _ (List.mem_of_getElem? (i := 1648) (by decide +kernel))), (List.mem_append_right _ (List.mem_of_getElem? (i := 1649) (by decide +kernel))), TX9, 19, rfl⟩
theorem mpL_189 : swOK RL 189 m_L_wouldCrack := ⟨mo_L_wouldCrack, (fun h => nomatch h), (List.mem_append_right _ (List.mem_of_getElem? (i := 829) (by decide +kernel))), (List.mem_append_right _ (List.mem_of_getElem? (i := 830) (by decide +kernel)))⟩
theorem mpL_191 : vOK RL 191 m_X9_wouldCrack 12 := ⟨mo_X9_wouldCrack, rfl, (List.mem_append_right _ (List.mem_of_getElem? (i := 1651) (by decide +kernel))), (List.mem_append_right _ (List.mem_of_getElem? (i := 1652) (by decide +kernel))), (List.mem_append_right _ (List.mem_of_getElem? (i := 1653) (by decide +kernel))), TX9, 19, rfl⟩
theorem mpL_192 : swOK RL 192 m_L_coldIn := ⟨mo_L_coldIn, (fun h => nomatch h), (List.mem_append_right _ (List.mem_of_getElem? (i := 841) (by decide +kernel))), (List.mem_append_right _ (List.mem_of_getElem? (i := 842) (by decide +kernel)))⟩
theorem mpL_194 : vOK RL 194 m_X9_coldIn 12 := ⟨mo_X9_coldIn, rfl, (List.mem_append_right _ (List.mem_of_getElem? (i := 1659) (by decide +kernel))), (List.mem_append_right _ (List.mem_of_getElem? (i := 1660) (by decide +kernel))), (List.mem_append_right _ (List.mem_of_getElem? (i := 1661) (by decide +kernel))), TX9, 19, rfl⟩
theorem mpL_195 : swOK RL 195 m_L_peal := ⟨mo_L_peal, (fun h => nomatch h), (List.mem_append_right _ (List.mem_of_getElem? (i := 852) (by decide +kernel))), (List.mem_append_right _ (List.mem_of_getElem? (i := 853) (by decide +kernel)))⟩
theorem mpL_197 : vOK RL 197 m_X9_peal 12 := ⟨mo_X9_peal, rfl, (List.mem_append_right _ (List.mem_of_getElem? (i := 1663) (by decide +kernel))), (List.mem_append_right _ (List.mem_of_getElem? (i := 1664) (by decide +kernel))), (List.mem_append_right _ (List.mem_of_getElem? (i := 1665) (by decide +kernel))), TX9, 19, rfl⟩
theorem mpL_198 : swOK RL 198 m_L_longest := ⟨mo_L_longest, (fun h => nomatch h), (List.mem_append_right _ (List.mem_of_getElem? (i := 860) (by decide +kernel))), (List.mem_append_right _ (List.mem_of_getElem? (i := 861) (by decide +kernel)))⟩
theorem mpL_201 : vOK RL 201 m_X9_longest 12 := ⟨mo_X9_longest, rfl, (List.mem_append_right _ (List.mem_of_getElem? (i := 1678) (by decide +kernel))), (List.mem_append_right _ (List.mem_of_getElem? (i := 1679) (by decide +kernel))), (List.mem_append_right _ (List.mem_of_getElem? (i := 1680) (by decide +kernel))), TX9, 19, rfl⟩
theorem mpL_202 : swOK RL 202 m_L_ranked := ⟨mo_L_ranked, (fun h => nomatch h), (List.mem_append_right _ (List.mem_of_getElem? (i := 889) (by decide +kernel))), (List.mem_append_right _ (List.mem_of_getElem? (i := 890) (by decide +kernel)))⟩
theorem mpL_204 : vOK RL 204 m_X9_ranked 12 := ⟨mo_X9_ranked, rfl, (List.mem_append_right _ (List.mem_of_getElem? (i := 1686) (by decide +kernel))), (List.mem_append_right _ (List.mem_of_getElem? (i := 1687) (by decide +kernel))), (List.mem_append_right _ (List.mem_of_getElem? (i := 1688) (by decide +kernel))), TX9, 19, rfl⟩
theorem mpL_205 : vOK RL 205 m_X8_pourable 11 := ⟨mo_X8_pourable, rfl, (List.mem_append_right _ (List.mem_of_getElem? (i := 271) (by decide +kernel))), (List.mem_append_right _ (List.mem_of_getElem? (i := 272) (by decide +kernel))), (List.mem_append_right _ (List.mem_of_getElem? (i := 273) (by decide +kernel))), TX8, 10, rfl⟩
theorem mpL_208 : vOK RL 208 m_X9_pourable 12 := ⟨mo_X9_pourable, rfl, (List.mem_append_right _ (List.mem_of_getElem? (i := 1690) (by decide +kernel))), (List.mem_append_right _ (List.mem_of_getElem? (i := 1691) (by decide +kernel))), (List.mem_append_right _ (List.mem_of_getElem? (i := 1692) (by decide +kernel))), TX9, 19, rfl⟩
theorem mpL_209 : swOK RL 209 m_L_first := ⟨mo_L_first, (fun h => nomatch h), (List.mem_append_right _ (List.mem_of_getElem? (i := 905) (by decide +kernel))), (List.mem_append_right _ (List.mem_of_getElem? (i := 906) (by decide +kernel)))⟩
theorem mpL_211 : vOK RL 211 m_X9_first 12 := ⟨mo_X9_first, rfl, (List.mem_append_right _ (List.mem_of_getElem? (i := 1713) (by decide +kernel))), (List.mem_append_right _ (List.mem_of_getElem? (i := 1714) (by decide +kernel))), (List.mem_append_right _ (List.mem_of_getElem? (i := 1715) (by decide +kernel))), TX9, 19, rfl⟩
theorem mpL_212 : swOK RL 212 m_L_line := ⟨mo_L_line, (fun h => nomatch h), (List.mem_append_right _ (List.mem_of_getElem? (i := 918) (by decide +kernel))), (List.mem_append_right _ (List.mem_of_getElem? (i := 919) (by decide +kernel)))⟩
theorem mpL_214 : vOK RL 214 m_X9_line 12 := ⟨mo_X9_line, rfl, (List.mem_append_right _ (List.mem_of_getElem? (i := 1717) (by decide +kernel))), (List.mem_append_right _ (List.mem_of_getElem? (i := 1718) (by decide +kernel))), (List.mem_append_right _ (List.mem_of_getElem? (i := 1719) (by decide +kernel))), TX9, 19, rfl⟩
theorem mpL_215 : swOK RL 215 m_L_rackLine := ⟨mo_L_rackLine, (fun h => nomatch h), (List.mem_append_right _ (List.mem_of_getElem? (i := 1206) (by decide +kernel))), (List.mem_append_right _ (List.mem_of_getElem? (i := 1207) (by decide +kernel)))⟩
theorem mpL_217 : vOK RL 217 m_X9_rackLine 12 := ⟨mo_X9_rackLine, rfl, (List.mem_append_right _ (List.mem_of_getElem? (i := 1729) (by decide +kernel))), (List.mem_append_right _ (List.mem_of_getElem? (i := 1730) (by decide +kernel))), (List.mem_append_right _ (List.mem_of_getElem? (i := 1731) (by decide +kernel))), TX9, 19, rfl⟩
theorem mpL_218 : swOK RL 218 m_L_character := ⟨mo_L_character, (fun h => nomatch h), (List.mem_append_right _ (List.mem_of_getElem? (i := 1217) (by decide +kernel))), (List.mem_append_right _ (List.mem_of_getElem? (i := 1218) (by decide +kernel)))⟩
theorem mpL_220 : vOK RL 220 m_X9_character 12 := ⟨mo_X9_character, rfl, (List.mem_append_right _ (List.mem_of_getElem? (i := 1733) (by decide +kernel))), (List.mem_append_right _ (List.mem_of_getElem? (i := 1734) (by decide +kernel))), (List.mem_append_right _ (List.mem_of_getElem? (i := 1735) (by decide +kernel))), TX9, 19, rfl⟩
theorem mpL_221 : swOK RL 221 m_L_append := ⟨mo_L_append, (fun h => nomatch h), (List.mem_append_right _ (List.mem_of_getElem? (i := 1235) (by decide +kernel))), (List.mem_append_right _ (List.mem_of_getElem? (i := 1236) (by decide +kernel)))⟩
theorem mpL_224 : vOK RL 224 m_X9_append 12 := ⟨mo_X9_append, rfl, (List.mem_append_right _ (List.mem_of_getElem? (i := 1737) (by decide +kernel))), (List.mem_append_right _ (List.mem_of_getElem? (i := 1738) (by decide +kernel))), (List.mem_append_right _ (List.mem_of_getElem? (i := 1739) (by decide +kernel))), TX9, 19, rfl⟩
theorem mpL_225 : swOK RL 225 m_L_run := ⟨mo_L_run, (fun h => nomatch h), (List.mem_append_right _ (List.mem_of_getElem? (i := 1272) (by decide +kernel))), (List.mem_append_right _ (List.mem_of_getElem? (i := 1273) (by decide +kernel)))⟩
theorem mpL_227 : vOK RL 227 m_X9_run 12 := ⟨mo_X9_run, rfl, (List.mem_append_right _ (List.mem_of_getElem? (i := 1741) (by decide +kernel))), (List.mem_append_right _ (List.mem_of_getElem? (i := 1742) (by decide +kernel))), (List.mem_append_right _ (List.mem_of_getElem? (i := 1743) (by decide +kernel))), TX9, 19, rfl⟩
theorem mpL_228 : vOK RL 228 m_X8_errorPosition 11 := ⟨mo_X8_errorPosition, rfl, (List.mem_append_right _ (List.mem_of_getElem? (i := 329) (by decide +kernel))), (List.mem_append_right _ (List.mem_of_getElem? (i := 330) (by decide +kernel))), (List.mem_append_right _ (List.mem_of_getElem? (i := 331) (by decide +kernel))), TX8, 10, rfl⟩
theorem mpL_231 : vOK RL 231 m_X9_errorPosition 12 := ⟨mo_X9_errorPosition, rfl, (List.mem_append_right _ (List.mem_of_getElem? (i := 1777) (by decide +kernel))), (List.mem_append_right _ (List.mem_of_getElem? (i := 1778) (by decide +kernel))), (List.mem_append_right _ (List.mem_of_getElem? (i := 1779) (by decide +kernel))), TX9, 19, rfl⟩
theorem mpL_232 : swOK RL 232 m_L_refusal := ⟨mo_L_refusal, (fun h => nomatch h), (List.mem_append_right _ (List.mem_of_getElem? (i := 1346) (by decide +kernel))), (List.mem_append_right _ (List.mem_of_getElem? (i := 1347) (by decide +kernel)))⟩
theorem mpL_235 : vOK RL 235 m_X9_refusal 12 := ⟨mo_X9_refusal, rfl, (List.mem_append_right _ (List.mem_of_getElem? (i := 1781) (by decide +kernel))), (List.mem_append_right _ (List.mem_of_getElem? (i := 1782) (by decide +kernel))), (List.mem_append_right _ (List.mem_of_getElem? (i := 1783) (by decide +kernel))), TX9, 19, rfl⟩
theorem mpL_236 : swOK RL 236 m_L_account := ⟨mo_L_account, (fun h => nomatch h), (List.mem_append_right _ (List.mem_of_getElem? (i := 1354) (by decide +kernel))), (List.mem_append_right _ (List.mem_of_getElem? (i := 1355) (by decide +kernel)))⟩
theorem mpL_238 : vOK RL 238 m_X9_account 12 := ⟨mo_X9_account, rfl, (List.mem_append_right _ (List.mem_of_getElem? (i := 1785) (by decide +kernel))), (List.mem_append_right _ (List.mem_of_getElem? (i := 1786) (by decide +kernel))), (List.mem_append_right _ (List.mem_of_getElem? (i := 1787) (by decide +kernel))), TX9, 19, rfl⟩
theorem mpL_239 : vOK RL 239 m_X8_isWell 11 := ⟨mo_X8_isWell, rfl, (List.mem_append_right _ (List.mem_of_getElem? (i := 333) (by decide +kernel))), (List.mem_append_right _ (List.mem_of_getElem? (i := 334) (by decide +kernel))), (List.mem_append_right _ (List.mem_of_getElem? (i := 335) (by decide +kernel))), TX8, 10, rfl⟩
theorem mpL_243 : vOK RL 243 m_X9_isWell 12 := ⟨mo_X9_isWell, rfl, (List.mem_append_right _ (List.mem_of_getElem? (i := 1797) (by decide +kernel))), (List.mem_append_right _ (List.mem_of_getElem? (i := 1798) (by decide +kernel))), (List.mem_append_right _ (List.mem_of_getElem? (i := 1799) (by decide +kernel))), TX9, 19, rfl⟩
theorem mpL_244 : swOK RL 244 m_L_meanNote := ⟨mo_L_meanNote, (fun h => nomatch h), (List.mem_append_right _ (List.mem_of_getElem? (i := 1374) (by decide +kernel))), (List.mem_append_right _ (List.mem_of_getElem? (i := 1375) (by decide +kernel)))⟩
theorem mpL_247 : vOK RL 247 m_X9_meanNote 12 := ⟨mo_X9_meanNote, rfl, (List.mem_append_right _ (List.mem_of_getElem? (i := 1801) (by decide +kernel))), (List.mem_append_right _ (List.mem_of_getElem? (i := 1802) (by decide +kernel))), (List.mem_append_right _ (List.mem_of_getElem? (i := 1803) (by decide +kernel))), TX9, 19, rfl⟩
theorem mpL_248 : swOK RL 248 m_L_soundShare := ⟨mo_L_soundShare, (fun h => nomatch h), (List.mem_append_right _ (List.mem_of_getElem? (i := 1402) (by decide +kernel))), (List.mem_append_right _ (List.mem_of_getElem? (i := 1403) (by decide +kernel)))⟩
theorem mpL_250 : vOK RL 250 m_X9_soundShare 12 := ⟨mo_X9_soundShare, rfl, (List.mem_append_right _ (List.mem_of_getElem? (i := 1805) (by decide +kernel))), (List.mem_append_right _ (List.mem_of_getElem? (i := 1806) (by decide +kernel))), (List.mem_append_right _ (List.mem_of_getElem? (i := 1807) (by decide +kernel))), TX9, 19, rfl⟩
theorem mpL_251 : swOK RL 251 m_L_undo := ⟨mo_L_undo, (fun h => nomatch h), (List.mem_append_right _ (List.mem_of_getElem? (i := 1410) (by decide +kernel))), (List.mem_append_right _ (List.mem_of_getElem? (i := 1411) (by decide +kernel)))⟩
theorem mpL_253 : vOK RL 253 m_X9_undo 12 := ⟨mo_X9_undo, rfl, (List.mem_append_right _ (List.mem_of_getElem? (i := 1809) (by decide +kernel))), (List.mem_append_right _ (List.mem_of_getElem? (i := 1810) (by decide +kernel))), (List.mem_append_right _ (List.mem_of_getElem? (i := 1811) (by decide +kernel))), TX9, 19, rfl⟩
theorem mpL_254 : vOK RL 254 m_X8_save 11 := ⟨mo_X8_save, rfl, (List.mem_append_right _ (List.mem_of_getElem? (i := 398) (by decide +kernel))), (List.mem_append_right _ (List.mem_of_getElem? (i := 399) (by decide +kernel))), (List.mem_append_right _ (List.mem_of_getElem? (i := 400) (by decide +kernel))), TX8, 10, rfl⟩
theorem mpL_257 : vOK RL 257 m_X9_save 12 := ⟨mo_X9_save, rfl, (List.mem_append_right _ (List.mem_of_getElem? (i := 1813) (by decide +kernel))), (List.mem_append_right _ (List.mem_of_getElem? (i := 1814) (by decide +kernel))), (List.mem_append_right _ (List.mem_of_getElem? (i := 1815) (by decide +kernel))), TX9, 19, rfl⟩
theorem mpL_258 : swOK RL 258 m_L_restore := ⟨mo_L_restore, (fun h => nomatch h), (List.mem_append_right _ (List.mem_of_getElem? (i := 1422) (by decide +kernel))), (List.mem_append_right _ (List.mem_of_getElem? (i := 1423) (by decide +kernel)))⟩
theorem mpL_260 : vOK RL 260 m_X9_restore 12 := ⟨mo_X9_restore, rfl, (List.mem_append_right _ (List.mem_of_getElem? (i := 1817) (by decide +kernel))), (List.mem_append_right _ (List.mem_of_getElem? (i := 1818) (by decide +kernel))), (List.mem_append_right _ (List.mem_of_getElem? (i := 1819) (by decide +kernel))), TX9, 19, rfl⟩
theorem mlpL : ∀ q ∈ mlL, ((match q.2.1 with
    | 0 => vOK RL q.1 q.2.2.1 q.2.2.2
    | 1 => sOK RL q.1 q.2.2.1
    | 2 => iOK RL q.1 q.2.2.1
    | 3 => snOK RL q.1 q.2.2.1
    | 4 => inOK RL q.1 q.2.2.1
    | 5 => oiOK RL q.1
    | 6 => mmOK RL q.1
    | 7 => mnOK RL q.1
    | 8 => acOK RL q.1
    | 9 => uOK RL q.1 q.2.2.1
    | 10 => suOK RL q.1 q.2.2.1
    | 11 => swOK RL q.1 q.2.2.1
    | _ => False) : Prop) := (fa_cons mpL_7 (fa_cons mpL_15 (fa_cons mpL_20 (fa_cons mpL_24 (fa_cons mpL_29 (fa_cons mpL_32 (fa_cons mpL_35 (fa_cons mpL_38 (fa_cons mpL_41 (fa_cons mpL_44 (fa_cons mpL_47 (fa_cons mpL_50 (fa_cons mpL_53 (fa_cons mpL_56 (fa_cons mpL_59 (fa_cons mpL_62 (fa_cons mpL_66 (fa_cons mpL_69 (fa_cons mpL_72 (fa_cons mpL_75 (fa_cons mpL_81 (fa_cons mpL_84 (fa_cons mpL_87 (fa_cons mpL_90 (fa_cons mpL_93 (fa_cons mpL_97 (fa_cons mpL_103 (fa_cons mpL_106 (fa_cons mpL_110 (fa_cons mpL_113 (fa_cons mpL_119 (fa_cons mpL_123 (fa_cons mpL_126 (fa_cons mpL_129 (fa_cons mpL_132 (fa_cons mpL_133 (fa_cons mpL_138 (fa_cons mpL_139 (fa_cons mpL_142 (fa_cons mpL_144 (fa_cons mpL_145 (fa_cons mpL_148 (fa_cons mpL_149 (fa_cons mpL_151 (fa_cons mpL_152 (fa_cons mpL_154 (fa_cons mpL_155 (fa_cons mpL_157 (fa_cons mpL_158 (fa_cons mpL_160 (fa_cons mpL_161 (fa_cons mpL_163 (fa_cons mpL_164 (fa_cons mpL_166 (fa_cons mpL_167 (fa_cons mpL_169 (fa_cons mpL_170 (fa_cons mpL_172 (fa_cons mpL_173 (fa_cons mpL_175 (fa_cons mpL_176 (fa_cons mpL_178 (fa_cons mpL_179 (fa_cons mpL_181 (fa_cons mpL_182 (fa_cons mpL_184 (fa_cons mpL_185 (fa_cons mpL_188 (fa_cons mpL_189 (fa_cons mpL_191 (fa_cons mpL_192 (fa_cons mpL_194 (fa_cons mpL_195 (fa_cons mpL_197 (fa_cons mpL_198 (fa_cons mpL_201 (fa_cons mpL_202 (fa_cons mpL_204 (fa_cons mpL_205 (fa_cons mpL_208 (fa_cons mpL_209 (fa_cons mpL_211 (fa_cons mpL_212 (fa_cons mpL_214 (fa_cons mpL_215 (fa_cons mpL_217 (fa_cons mpL_218 (fa_cons mpL_220 (fa_cons mpL_221 (fa_cons mpL_224 (fa_cons mpL_225 (fa_cons mpL_227 (fa_cons mpL_228 (fa_cons mpL_231 (fa_cons mpL_232 (fa_cons mpL_235 (fa_cons mpL_236 (fa_cons mpL_238 (fa_cons mpL_239 (fa_cons mpL_243 (fa_cons mpL_244 (fa_cons mpL_247 (fa_cons mpL_248 (fa_cons mpL_250 (fa_cons mpL_251 (fa_cons mpL_253 (fa_cons mpL_254 (fa_cons mpL_257 (fa_cons mpL_258 (fa_cons mpL_260 fa_nil))))))))))))))))))))))))))))))))))))))))))))))))))))))))))))))))))))))))))))))))))))))))))))))))))))))))))))))
def clPL (q : Nat × (Nat ⊕ Nat)) : Prop := match q.2 with
  | .inl ci => (∀ n fs, newF ci = some (n, fs) → newOK RL q.1 ci n fs) ∧ (ci = 4 → Jvm.Cond.classLink RL q.1 RX0 ∈ lw_tbl)
  | .inr _ => True
theorem clpL : ∀ q ∈ clL, clPL q := (fa_cons ⟨(fun n fs h => by cases h; exact ⟨clOK11, RX8, TX8, tyX8, rfl, tyX8_ok, by decide +kernel, (List.mem_append_right _ (List.mem_of_getElem? (i := 35) (by decide +kernel))), (List.mem_append_right _ (List.mem_of_getElem? (i := 36) (by decide +kernel))), (List.mem_append_right _ (List.mem_of_getElem? (i := 1) (by decide +kernel)))⟩), (fun h => nomatch h)⟩ (fa_cons ⟨(fun n fs h => by cases h; exact ⟨clOK12, RX9, TX9, tyX9, rfl, tyX9_ok, by decide +kernel, (List.mem_append_right _ (List.mem_of_getElem? (i := 1434) (by decide +kernel))), (List.mem_append_right _ (List.mem_of_getElem? (i := 1435) (by decide +kernel))), (List.mem_append_right _ (List.mem_of_getElem? (i := 14) (by decide +kernel)))⟩), (fun h => nomatch h)⟩ fa_nil))
theorem nlpL : ∀ q ∈ nlL, Jvm.Cond.constant RL q.1 q.2 ∈ lw_tbl := fa_nil
theorem cpokL : cpOK RL false cpL := by
  refine ⟨fun k ci j ty fin h => flpL _ (lkp_mem h), fun k v h => slpL _ (lkp_mem h), fun k t y ci h => ?_, fun k ci h => clpL _ (lkp_mem h), fun k v h => nlpL _ (lkp_mem h)⟩
  exact mlpL _ (lkp_mem h)
theorem cpokIL : cpOK RL true cpIL := by
  refine ⟨fun k ci j ty fin h => fipL _ (lkp_mem h), fun k v h => slpL _ (lkp_mem h), fun k t y ci h => ?_, fun k ci h => clpL _ (lkp_mem h), fun k v h => nlpL _ (lkp_mem h)⟩
  exact mlpL _ (lkp_mem h)
def flX9 : List (Nat × (Nat × Nat × FieldType × Bool)) := [(7, (12, 0, .array .int, true)), (13, (12, 1, .array .int, true)), (16, (12, 2, .array .int, true)), (19, (12, 3, .array .int, true)), (22, (12, 10, .array .int, true)), (25, (12, 12, .int, false)), (29, (12, 13, .array .char, true)), (33, (12, 15, .array .boolean, true)), (37, (12, 17, .array .int, true)), (40, (12, 7, .int, false)), (43, (12, 8, .int, false)), (46, (12, 9, .int, false)), (49, (12, 6, .boolean, false)), (53, (12, 5, .int, false)), (163, (12, 14, .int, false)), (172, (12, 11, .int, false)), (175, (12, 16, .int, false)), (181, (12, 18, .int, false)), (231, (12, 4, .boolean, false))]
def fiX9 : List (Nat × (Nat × Nat × FieldType × Bool)) := [(7, (12, 0, .array .int, true)), (13, (12, 1, .array .int, true)), (16, (12, 2, .array .int, true)), (19, (12, 3, .array .int, true)), (22, (12, 10, .array .int, true)), (25, (12, 12, .int, false)), (29, (12, 13, .array .char, true)), (33, (12, 15, .array .boolean, true)), (37, (12, 17, .array .int, true)), (40, (12, 7, .int, false)), (43, (12, 8, .int, false)), (46, (12, 9, .int, false)), (49, (12, 6, .boolean, false)), (53, (12, 5, .int, false)), (163, (12, 14, .int, false)), (172, (12, 11, .int, false)), (175, (12, 16, .int, false)), (181, (12, 18, .int, false)), (231, (12, 4, .boolean, false))]
def slX9 : List (Nat × Value) := []
def mlX9 : List (Nat × (Nat × m0T × Nat)) := [(1, (5, mNone, 0)), (56, (1, m_X9_copies, 0)), (60, (1, m_X9_in, 0)), (64, (0, m_X9_fails, 12)), (68, (0, m_X9_keeps, 12)), (72, (0, m_X9_refuses, 12)), (76, (0, m_X9_goes, 12)), (80, (0, m_X9_isMould, 12)), (83, (0, m_X9_breaks, 12)), (87, (0, m_X9_core, 12)), (91, (0, m_X9_takes, 12)), (94, (0, m_X9_needs, 12)), (97, (0, m_X9_of, 12)), (100, (0, m_X9_isRack, 12)), (103, (0, m_X9_bellsOn, 12)), (106, (0, m_X9_lays, 12)), (110, (0, m_X9_losing, 12)), (113, (1, m_X9_most, 0)), (116, (0, m_X9_cools, 12)), (119, (0, m_X9_hour, 12)), (123, (0, m_X9_isBell, 12)), (126, (0, m_X9_noteOf, 12)), (129, (0, m_X9_refuses3, 12)), (132, (0, m_X9_hoursOf, 12)), (135, (1, m_X9_step, 0)), (138, (0, m_X9_isHeard, 12)), (141, (0, m_X9_pealFrom, 12)), (144, (0, m_X9_inHall, 12)), (147, (0, m_X9_pours, 12)), (151, (1, m_X9_many, 0)), (154, (0, m_X9_hottest, 12)), (157, (0, m_X9_mostPoured, 12)), (160, (0, m_X9_byHottest, 12)), (166, (0, m_X9_writes, 12)), (169, (0, m_X9_writesNumber, 12)), (178, (0, m_X9_here, 12)), (184, (0, m_X9_skips, 12)), (187, (0, m_X9_figures, 12)), (190, (0, m_X9_orderHere, 12)), (194, (0, m_X9_coal, 12)), (197, (0, m_X9_bronze, 12)), (200, (0, m_X9_mould, 12)), (203, (0, m_X9_rack, 12)), (206, (0, m_X9_pour, 12)), (209, (0, m_X9_pass, 12)), (212, (0, m_X9_take, 12)), (215, (0, m_X9_recast, 12)), (218, (0, m_X9_isText, 12)), (221, (0, m_X9_carries, 12)), (224, (0, m_X9_allOf, 12)), (227, (0, m_X9_sound, 12))]
def clX9 : List (Nat × (Nat ⊕ Nat)) := []
def nlX9 : List (Nat × Int32) := []
def cpX9 : cpT := (lkp flX9, lkp slX9, lkp mlX9, lkp clX9, lkp nlX9)
def cpIX9 : cpT := (lkp fiX9, lkp slX9, lkp mlX9, lkp clX9, lkp nlX9)
theorem fipX9 : ∀ q ∈ fiX9, fldOK RX9 true q.1 q.2.1 q.2.2.1 q.2.2.2.1 q.2.2.2.2 := (fa_cons ⟨clOK12, RX9, TX9, 19, rfl, by decide, rfl, by decide +kernel, (List.mem_append_right _ (List.mem_of_getElem? (i := 1440) (by decide +kernel))), fun _ _ => rfl⟩ (fa_cons ⟨clOK12, RX9, TX9, 19, rfl, by decide, rfl, by decide +kernel, (List.mem_append_right _ (List.mem_of_getElem? (i := 1441) (by decide +kernel))), fun _ _ => rfl⟩ (fa_cons ⟨clOK12, RX9, TX9, 19, rfl, by decide, rfl, by decide +kernel, (List.mem_append_right _ (List.mem_of_getElem? (i := 1442) (by decide +kernel))), fun _ _ => rfl⟩ (fa_cons ⟨clOK12, RX9, TX9, 19, rfl, by decide, rfl, by decide +kernel, (List.mem_append_right _ (List.mem_of_getElem? (i := 1443) (by decide +kernel))), fun _ _ => rfl⟩ (fa_cons ⟨clOK12, RX9, TX9, 19, rfl, by decide, rfl, by decide +kernel, (List.mem_append_right _ (List.mem_of_getElem? (i := 1450) (by decide +kernel))), fun _ _ => rfl⟩ (fa_cons ⟨clOK12, RX9, TX9, 19, rfl, by decide, rfl, by decide +kernel, (List.mem_append_right _ (List.mem_of_getElem? (i := 1452) (by decide +kernel))), fun h => nomatch h⟩ (fa_cons ⟨clOK12, RX9, TX9, 19, rfl, by decide, rfl, by decide +kernel, (List.mem_append_right _ (List.mem_of_getElem? (i := 1453) (by decide +kernel))), fun _ _ => rfl⟩ (fa_cons ⟨clOK12, RX9, TX9, 19, rfl, by decide, rfl, by decide +kernel, (List.mem_append_right _ (List.mem_of_getElem? (i := 1455) (by decide +kernel))), fun _ _ => rfl⟩ (fa_cons ⟨clOK12, RX9, TX9, 19, rfl, by decide, rfl, by decide +kernel, (List.mem_append_right _ (List.mem_of_getElem? (i := 1457) (by decide +kernel))), fun _ _ => rfl⟩ (fa_cons ⟨clOK12, RX9, TX9, 19, rfl, by decide, rfl, by decide +kernel, (List.mem_append_right _ (List.mem_of_getElem? (i := 1447) (by decide +kernel))), fun h => nomatch h⟩ (fa_cons ⟨clOK12, RX9, TX9, 19, rfl, by decide, rfl, by decide +kernel, (List.mem_append_right _ (List.mem_of_getElem? (i := 1448) (by decide +kernel))), fun h => nomatch h⟩ (fa_cons ⟨clOK12, RX9, TX9, 19, rfl, by decide, rfl, by decide +kernel, (List.mem_append_right _ (List.mem_of_getElem? (i := 1449) (by decide +kernel))), fun h => nomatch h⟩ (fa_cons ⟨clOK12, RX9, TX9, 19, rfl, by decide, rfl, by decide +kernel, (List.mem_append_right _ (List.mem_of_getElem? (i := 1446) (by decide +kernel))), fun h => nomatch h⟩ (fa_cons ⟨clOK12, RX9, TX9, 19, rfl, by decide, rfl, by decide +kernel, (List.mem_append_right _ (List.mem_of_getElem? (i := 1445) (by decide +kernel))), fun h => nomatch h⟩ (fa_cons ⟨clOK12, RX9, TX9, 19, rfl, by decide, rfl, by decide +kernel, (List.mem_append_right _ (List.mem_of_getElem? (i := 1454) (by decide +kernel))), fun h => nomatch h⟩ (fa_cons ⟨clOK12, RX9, TX9, 19, rfl, by decide, rfl, by decide +kernel, (List.mem_append_right _ (List.mem_of_getElem? (i := 1451) (by decide +kernel))), fun h => nomatch h⟩ (fa_cons ⟨clOK12, RX9, TX9, 19, rfl, by decide, rfl, by decide +kernel, (List.mem_append_right _ (List.mem_of_getElem? (i := 1456) (by decide +kernel))), fun h => nomatch h⟩ (fa_cons ⟨clOK12, RX9, TX9, 19, rfl, by decide, rfl, by decide +kernel, (List.mem_append_right _ (List.mem_of_getElem? (i := 1458) (by decide +kernel))), fun h => nomatch h⟩ (fa_cons ⟨clOK12, RX9, TX9, 19, rfl, by decide, rfl, by decide +kernel, (List.mem_append_right _ (List.mem_of_getElem? (i := 1444) (by decide +kernel))), fun h => nomatch h⟩ fa_nil)))))))))))))))))))
theorem flpX9 : ∀ q ∈ flX9, fldOK RX9 false q.1 q.2.1 q.2.2.1 q.2.2.2.1 q.2.2.2.2 := (fa_cons ⟨clOK12, RX9, TX9, 19, rfl, by decide, rfl, by decide +kernel, (List.mem_append_right _ (List.mem_of_getElem? (i := 1440) (by decide +kernel))), fun _ h => nomatch h⟩ (fa_cons ⟨clOK12, RX9, TX9, 19, rfl, by decide, rfl, by decide +kernel, (List.mem_append_right _ (List.mem_of_getElem? (i := 1441) (by decide +kernel))), fun _ h => nomatch h⟩ (fa_cons ⟨clOK12, RX9, TX9, 19, rfl, by decide, rfl, by decide +kernel, (List.mem_append_right _ (List.mem_of_getElem? (i := 1442) (by decide +kernel))), fun _ h => nomatch h⟩ (fa_cons ⟨clOK12, RX9, TX9, 19, rfl, by decide, rfl, by decide +kernel, (List.mem_append_right _ (List.mem_of_getElem? (i := 1443) (by decide +kernel))), fun _ h => nomatch h⟩ (fa_cons ⟨clOK12, RX9, TX9, 19, rfl, by decide, rfl, by decide +kernel, (List.mem_append_right _ (List.mem_of_getElem? (i := 1450) (by decide +kernel))), fun _ h => nomatch h⟩ (fa_cons ⟨clOK12, RX9, TX9, 19, rfl, by decide, rfl, by decide +kernel, (List.mem_append_right _ (List.mem_of_getElem? (i := 1452) (by decide +kernel))), fun _ h => nomatch h⟩ (fa_cons ⟨clOK12, RX9, TX9, 19, rfl, by decide, rfl, by decide +kernel, (List.mem_append_right _ (List.mem_of_getElem? (i := 1453) (by decide +kernel))), fun _ h => nomatch h⟩ (fa_cons ⟨clOK12, RX9, TX9, 19, rfl, by decide, rfl, by decide +kernel, (List.mem_append_right _ (List.mem_of_getElem? (i := 1455) (by decide +kernel))), fun _ h => nomatch h⟩ (fa_cons ⟨clOK12, RX9, TX9, 19, rfl, by decide, rfl, by decide +kernel, (List.mem_append_right _ (List.mem_of_getElem? (i := 1457) (by decide +kernel))), fun _ h => nomatch h⟩ (fa_cons ⟨clOK12, RX9, TX9, 19, rfl, by decide, rfl, by decide +kernel, (List.mem_append_right _ (List.mem_of_getElem? (i := 1447) (by decide +kernel))), fun _ h => nomatch h⟩ (fa_cons ⟨clOK12, RX9, TX9, 19, rfl, by decide, rfl, by decide +kernel, (List.mem_append_right _ (List.mem_of_getElem? (i := 1448) (by decide +kernel))), fun _ h => nomatch h⟩ (fa_cons ⟨clOK12, RX9, TX9, 19, rfl, by decide, rfl, by decide +kernel, (List.mem_append_right _ (List.mem_of_getElem? (i := 1449) (by decide +kernel))), fun _ h => nomatch h⟩ (fa_cons ⟨clOK12, RX9, TX9, 19, rfl, by decide, rfl, by decide +kernel, (List.mem_append_right _ (List.mem_of_getElem? (i := 1446) (by decide +kernel))), fun _ h => nomatch h⟩ (fa_cons ⟨clOK12, RX9, TX9, 19, rfl, by decide, rfl, by decide +kernel, (List.mem_append_right _ (List.mem_of_getElem? (i := 1445) (by decide +kernel))), fun _ h => nomatch h⟩ (fa_cons ⟨clOK12, RX9, TX9, 19, rfl, by decide, rfl, by decide +kernel, (List.mem_append_right _ (List.mem_of_getElem? (i := 1454) (by decide +kernel))), fun _ h => nomatch h⟩ (fa_cons ⟨clOK12, RX9, TX9, 19, rfl, by decide, rfl, by decide +kernel, (List.mem_append_right _ (List.mem_of_getElem? (i := 1451) (by decide +kernel))), fun _ h => nomatch h⟩ (fa_cons ⟨clOK12, RX9, TX9, 19, rfl, by decide, rfl, by decide +kernel, (List.mem_append_right _ (List.mem_of_getElem? (i := 1456) (by decide +kernel))), fun _ h => nomatch h⟩ (fa_cons ⟨clOK12, RX9, TX9, 19, rfl, by decide, rfl, by decide +kernel, (List.mem_append_right _ (List.mem_of_getElem? (i := 1458) (by decide +kernel))), fun _ h => nomatch h⟩ (fa_cons ⟨clOK12, RX9, TX9, 19, rfl, by decide, rfl, by decide +kernel, (List.mem_append_right _ (List.mem_of_getElem? (i := 1444) (by decide +kernel))), fun _ h => nomatch h⟩ fa_nil)))))))))))))))))))
theorem slpX9 : ∀ q ∈ slX9, stcOK RX9 q.1 q.2 := fa_nil
theorem mpX9_1 : oiOK RX9 1 := ⟨(List.mem_append_right _ (List.mem_of_getElem? (i := 1439) (by decide +kernel))), (List.mem_append_right _ (List.mem_of_getElem? (i := 41) (by decide +kernel))), (List.mem_append_right _ (List.mem_of_getElem? (i := 42) (by decide +kernel)))⟩
theorem mpX9_56 : sOK RX9 56 m_X9_copies := ⟨mo_X9_copies, rfl, (List.mem_append_right _ (List.mem_of_getElem? (i := 1517) (by decide +kernel))), (List.mem_append_right _ (List.mem_of_getElem? (i := 1518) (by decide +kernel)))⟩
theorem mpX9_60 : sOK RX9 60 m_X9_in := ⟨mo_X9_in, rfl, (List.mem_append_right _ (List.mem_of_getElem? (i := 1506) (by decide +kernel))), (List.mem_append_right _ (List.mem_of_getElem? (i := 1507) (by decide +kernel)))⟩
theorem mpX9_64 : vOK RX9 64 m_X9_fails 12 := ⟨mo_X9_fails, rfl, (List.mem_append_right _ (List.mem_of_getElem? (i := 1509) (by decide +kernel))), (List.mem_append_right _ (List.mem_of_getElem? (i := 1511) (by decide +kernel))), (List.mem_append_left _ (List.mem_of_getElem? (i := 26) (by decide +kernel))), TX9, 19, rfl⟩
theorem mpX9_68 : vOK RX9 68 m_X9_keeps 12 := ⟨mo_X9_keeps, rfl, (List.mem_append_right _ (List.mem_of_getElem? (i := 1513) (by decide +kernel))), (List.mem_append_right _ (List.mem_of_getElem? (i := 1515) (by decide +kernel))), (List.mem_append_left _ (List.mem_of_getElem? (i := 27) (by decide +kernel))), TX9, 19, rfl⟩
theorem mpX9_72 : vOK RX9 72 m_X9_refuses 12 := ⟨mo_X9_refuses, rfl, (List.mem_append_right _ (List.mem_of_getElem? (i := 1524) (by decide +kernel))), (List.mem_append_right _ (List.mem_of_getElem? (i := 1526) (by decide +kernel))), (List.mem_append_left _ (List.mem_of_getElem? (i := 28) (by decide +kernel))), TX9, 19, rfl⟩
theorem mpX9_76 : vOK RX9 76 m_X9_goes 12 := ⟨mo_X9_goes, rfl, (List.mem_append_right _ (List.mem_of_getElem? (i := 1544) (by decide +kernel))), (List.mem_append_right _ (List.mem_of_getElem? (i := 1546) (by decide +kernel))), (List.mem_append_left _ (List.mem_of_getElem? (i := 31) (by decide +kernel))), TX9, 19, rfl⟩
theorem mpX9_80 : vOK RX9 80 m_X9_isMould 12 := ⟨mo_X9_isMould, rfl, (List.mem_append_right _ (List.mem_of_getElem? (i := 1536) (by decide +kernel))), (List.mem_append_right _ (List.mem_of_getElem? (i := 1538) (by decide +kernel))), (List.mem_append_left _ (List.mem_of_getElem? (i := 29) (by decide +kernel))), TX9, 19, rfl⟩
theorem mpX9_83 : vOK RX9 83 m_X9_breaks 12 := ⟨mo_X9_breaks, rfl, (List.mem_append_right _ (List.mem_of_getElem? (i := 1540) (by decide +kernel))), (List.mem_append_right _ (List.mem_of_getElem? (i := 1542) (by decide +kernel))), (List.mem_append_left _ (List.mem_of_getElem? (i := 30) (by decide +kernel))), TX9, 19, rfl⟩
theorem mpX9_87 : vOK RX9 87 m_X9_core 12 := ⟨mo_X9_core, rfl, (List.mem_append_right _ (List.mem_of_getElem? (i := 1552) (by decide +kernel))), (List.mem_append_right _ (List.mem_of_getElem? (i := 1554) (by decide +kernel))), (List.mem_append_left _ (List.mem_of_getElem? (i := 32) (by decide +kernel))), TX9, 19, rfl⟩
theorem mpX9_91 : vOK RX9 91 m_X9_takes 12 := ⟨mo_X9_takes, rfl, (List.mem_append_right _ (List.mem_of_getElem? (i := 1556) (by decide +kernel))), (List.mem_append_right _ (List.mem_of_getElem? (i := 1558) (by decide +kernel))), (List.mem_append_left _ (List.mem_of_getElem? (i := 33) (by decide +kernel))), TX9, 19, rfl⟩
theorem mpX9_94 : vOK RX9 94 m_X9_needs 12 := ⟨mo_X9_needs, rfl, (List.mem_append_right _ (List.mem_of_getElem? (i := 1560) (by decide +kernel))), (List.mem_append_right _ (List.mem_of_getElem? (i := 1562) (by decide +kernel))), (List.mem_append_left _ (List.mem_of_getElem? (i := 34) (by decide +kernel))), TX9, 19, rfl⟩
theorem mpX9_97 : vOK RX9 97 m_X9_of 12 := ⟨mo_X9_of, rfl, (List.mem_append_right _ (List.mem_of_getElem? (i := 1580) (by decide +kernel))), (List.mem_append_right _ (List.mem_of_getElem? (i := 1582) (by decide +kernel))), (List.mem_append_left _ (List.mem_of_getElem? (i := 37) (by decide +kernel))), TX9, 19, rfl⟩
theorem mpX9_100 : vOK RX9 100 m_X9_isRack 12 := ⟨mo_X9_isRack, rfl, (List.mem_append_right _ (List.mem_of_getElem? (i := 1572) (by decide +kernel))), (List.mem_append_right _ (List.mem_of_getElem? (i := 1574) (by decide +kernel))), (List.mem_append_left _ (List.mem_of_getElem? (i := 35) (by decide +kernel))), TX9, 19, rfl⟩
theorem mpX9_103 : vOK RX9 103 m_X9_bellsOn 12 := ⟨mo_X9_bellsOn, rfl, (List.mem_append_right _ (List.mem_of_getElem? (i := 1576) (by decide +kernel))), (List.mem_append_right _ (List.mem_of_getElem? (i := 1578) (by decide +kernel))), (List.mem_append_left _ (List.mem_of_getElem? (i := 36) (by decide +kernel))), TX9, 19, rfl⟩
theorem mpX9_106 : vOK RX9 106 m_X9_lays 12 := ⟨mo_X9_lays, rfl, (List.mem_append_right _ (List.mem_of_getElem? (i := 1584) (by decide +kernel))), (List.mem_append_right _ (List.mem_of_getElem? (i := 1586) (by decide +kernel))), (List.mem_append_left _ (List.mem_of_getElem? (i := 38) (by decide +kernel))), TX9, 19, rfl⟩
theorem mpX9_110 : vOK RX9 110 m_X9_losing 12 := ⟨mo_X9_losing, rfl, (List.mem_append_right _ (List.mem_of_getElem? (i := 1592) (by decide +kernel))), (List.mem_append_right _ (List.mem_of_getElem? (i := 1594) (by decide +kernel))), (List.mem_append_left _ (List.mem_of_getElem? (i := 39) (by decide +kernel))), TX9, 19, rfl⟩
theorem mpX9_113 : sOK RX9 113 m_X9_most := ⟨mo_X9_most, rfl, (List.mem_append_right _ (List.mem_of_getElem? (i := 1600) (by decide +kernel))), (List.mem_append_right _ (List.mem_of_getElem? (i := 1601) (by decide +kernel)))⟩
theorem mpX9_116 : vOK RX9 116 m_X9_cools 12 := ⟨mo_X9_cools, rfl, (List.mem_append_right _ (List.mem_of_getElem? (i := 1611) (by decide +kernel))), (List.mem_append_right _ (List.mem_of_getElem? (i := 1613) (by decide +kernel))), (List.mem_append_left _ (List.mem_of_getElem? (i := 41) (by decide +kernel))), TX9, 19, rfl⟩
theorem mpX9_119 : vOK RX9 119 m_X9_hour 12 := ⟨mo_X9_hour, rfl, (List.mem_append_right _ (List.mem_of_getElem? (i := 1607) (by decide +kernel))), (List.mem_append_right _ (List.mem_of_getElem? (i := 1609) (by decide +kernel))), (List.mem_append_left _ (List.mem_of_getElem? (i := 40) (by decide +kernel))), TX9, 19, rfl⟩
theorem mpX9_123 : vOK RX9 123 m_X9_isBell 12 := ⟨mo_X9_isBell, rfl, (List.mem_append_right _ (List.mem_of_getElem? (i := 1619) (by decide +kernel))), (List.mem_append_right _ (List.mem_of_getElem? (i := 1621) (by decide +kernel))), (List.mem_append_left _ (List.mem_of_getElem? (i := 42) (by decide +kernel))), TX9, 19, rfl⟩
theorem mpX9_126 : vOK RX9 126 m_X9_noteOf 12 := ⟨mo_X9_noteOf, rfl, (List.mem_append_right _ (List.mem_of_getElem? (i := 1627) (by decide +kernel))), (List.mem_append_right _ (List.mem_of_getElem? (i := 1629) (by decide +kernel))), (List.mem_append_left _ (List.mem_of_getElem? (i := 43) (by decide +kernel))), TX9, 19, rfl⟩
theorem mpX9_129 : vOK RX9 129 m_X9_refuses3 12 := ⟨mo_X9_refuses3, rfl, (List.mem_append_right _ (List.mem_of_getElem? (i := 1635) (by decide +kernel))), (List.mem_append_right _ (List.mem_of_getElem? (i := 1637) (by decide +kernel))), (List.mem_append_left _ (List.mem_of_getElem? (i := 44) (by decide +kernel))), TX9, 19, rfl⟩
theorem mpX9_132 : vOK RX9 132 m_X9_hoursOf 12 := ⟨mo_X9_hoursOf, rfl, (List.mem_append_right _ (List.mem_of_getElem? (i := 1655) (by decide +kernel))), (List.mem_append_right _ (List.mem_of_getElem? (i := 1657) (by decide +kernel))), (List.mem_append_left _ (List.mem_of_getElem? (i := 45) (by decide +kernel))), TX9, 19, rfl⟩
theorem mpX9_135 : sOK RX9 135 m_X9_step := ⟨mo_X9_step, rfl, (List.mem_append_right _ (List.mem_of_getElem? (i := 1671) (by decide +kernel))), (List.mem_append_right _ (List.mem_of_getElem? (i := 1672) (by decide +kernel)))⟩
theorem mpX9_138 : vOK RX9 138 m_X9_isHeard 12 := ⟨mo_X9_isHeard, rfl, (List.mem_append_right _ (List.mem_of_getElem? (i := 1674) (by decide +kernel))), (List.mem_append_right _ (List.mem_of_getElem? (i := 1676) (by decide +kernel))), (List.mem_append_left _ (List.mem_of_getElem? (i := 47) (by decide +kernel))), TX9, 19, rfl⟩
theorem mpX9_141 : vOK RX9 141 m_X9_pealFrom 12 := ⟨mo_X9_pealFrom, rfl, (List.mem_append_right _ (List.mem_of_getElem? (i := 1667) (by decide +kernel))), (List.mem_append_right _ (List.mem_of_getElem? (i := 1669) (by decide +kernel))), (List.mem_append_left _ (List.mem_of_getElem? (i := 46) (by decide +kernel))), TX9, 19, rfl⟩
theorem mpX9_144 : vOK RX9 144 m_X9_inHall 12 := ⟨mo_X9_inHall, rfl, (List.mem_append_right _ (List.mem_of_getElem? (i := 1682) (by decide +kernel))), (List.mem_append_right _ (List.mem_of_getElem? (i := 1684) (by decide +kernel))), (List.mem_append_left _ (List.mem_of_getElem? (i := 48) (by decide +kernel))), TX9, 19, rfl⟩
theorem mpX9_147 : vOK RX9 147 m_X9_pours 12 := ⟨mo_X9_pours, rfl, (List.mem_append_right _ (List.mem_of_getElem? (i := 1698) (by decide +kernel))), (List.mem_append_right _ (List.mem_of_getElem? (i := 1700) (by decide +kernel))), (List.mem_append_left _ (List.mem_of_getElem? (i := 50) (by decide +kernel))), TX9, 19, rfl⟩
theorem mpX9_151 : sOK RX9 151 m_X9_many := ⟨mo_X9_many, rfl, (List.mem_append_right _ (List.mem_of_getElem? (i := 1702) (by decide +kernel))), (List.mem_append_right _ (List.mem_of_getElem? (i := 1703) (by decide +kernel)))⟩
theorem mpX9_154 : vOK RX9 154 m_X9_hottest 12 := ⟨mo_X9_hottest, rfl, (List.mem_append_right _ (List.mem_of_getElem? (i := 1709) (by decide +kernel))), (List.mem_append_right _ (List.mem_of_getElem? (i := 1711) (by decide +kernel))), (List.mem_append_left _ (List.mem_of_getElem? (i := 52) (by decide +kernel))), TX9, 19, rfl⟩
theorem mpX9_157 : vOK RX9 157 m_X9_mostPoured 12 := ⟨mo_X9_mostPoured, rfl, (List.mem_append_right _ (List.mem_of_getElem? (i := 1694) (by decide +kernel))), (List.mem_append_right _ (List.mem_of_getElem? (i := 1696) (by decide +kernel))), (List.mem_append_left _ (List.mem_of_getElem? (i := 49) (by decide +kernel))), TX9, 19, rfl⟩
theorem mpX9_160 : vOK RX9 160 m_X9_byHottest 12 := ⟨mo_X9_byHottest, rfl, (List.mem_append_right _ (List.mem_of_getElem? (i := 1705) (by decide +kernel))), (List.mem_append_right _ (List.mem_of_getElem? (i := 1707) (by decide +kernel))), (List.mem_append_left _ (List.mem_of_getElem? (i := 51) (by decide +kernel))), TX9, 19, rfl⟩
theorem mpX9_166 : vOK RX9 166 m_X9_writes 12 := ⟨mo_X9_writes, rfl, (List.mem_append_right _ (List.mem_of_getElem? (i := 1725) (by decide +kernel))), (List.mem_append_right _ (List.mem_of_getElem? (i := 1727) (by decide +kernel))), (List.mem_append_left _ (List.mem_of_getElem? (i := 54) (by decide +kernel))), TX9, 19, rfl⟩
theorem mpX9_169 : vOK RX9 169 m_X9_writesNumber 12 := ⟨mo_X9_writesNumber, rfl, (List.mem_append_right _ (List.mem_of_getElem? (i := 1721) (by decide +kernel))), (List.mem_append_right _ (List.mem_of_getElem? (i := 1723) (by decide +kernel))), (List.mem_append_left _ (List.mem_of_getElem? (i := 53) (by decide +kernel))), TX9, 19, rfl⟩
theorem mpX9_178 : vOK RX9 178 m_X9_here 12 := ⟨mo_X9_here, rfl, (List.mem_append_right _ (List.mem_of_getElem? (i := 1753) (by decide +kernel))), (List.mem_append_right _ (List.mem_of_getElem? (i := 1755) (by decide +kernel))), (List.mem_append_left _ (List.mem_of_getElem? (i := 57) (by decide +kernel))), TX9, 19, rfl⟩
theorem mpX9_184 : vOK RX9 184 m_X9_skips 12 := ⟨mo_X9_skips, rfl, (List.mem_append_right _ (List.mem_of_getElem? (i := 1757) (by decide +kernel))), (List.mem_append_right _ (List.mem_of_getElem? (i := 1759) (by decide +kernel))), (List.mem_append_left _ (List.mem_of_getElem? (i := 58) (by decide +kernel))), TX9, 19, rfl⟩
theorem mpX9_187 : vOK RX9 187 m_X9_figures 12 := ⟨mo_X9_figures, rfl, (List.mem_append_right _ (List.mem_of_getElem? (i := 1761) (by decide +kernel))), (List.mem_append_right _ (List.mem_of_getElem? (i := 1763) (by decide +kernel))), (List.mem_append_left _ (List.mem_of_getElem? (i := 59) (by decide +kernel))), TX9, 19, rfl⟩
theorem mpX9_190 : vOK RX9 190 m_X9_orderHere 12 := ⟨mo_X9_orderHere, rfl, (List.mem_append_right _ (List.mem_of_getElem? (i := 1749) (by decide +kernel))), (List.mem_append_right _ (List.mem_of_getElem? (i := 1751) (by decide +kernel))), (List.mem_append_left _ (List.mem_of_getElem? (i := 56) (by decide +kernel))), TX9, 19, rfl⟩
theorem mpX9_194 : vOK RX9 194 m_X9_coal 12 := ⟨mo_X9_coal, rfl, (List.mem_append_right _ (List.mem_of_getElem? (i := 1769) (by decide +kernel))), (List.mem_append_right _ (List.mem_of_getElem? (i := 1503) (by decide +kernel))), (List.mem_append_right _ (List.mem_of_getElem? (i := 1504) (by decide +kernel))), TX9, 19, rfl⟩
theorem mpX9_197 : vOK RX9 197 m_X9_bronze 12 := ⟨mo_X9_bronze, rfl, (List.mem_append_right _ (List.mem_of_getElem? (i := 1770) (by decide +kernel))), (List.mem_append_right _ (List.mem_of_getElem? (i := 1521) (by decide +kernel))), (List.mem_append_right _ (List.mem_of_getElem? (i := 1522) (by decide +kernel))), TX9, 19, rfl⟩
theorem mpX9_200 : vOK RX9 200 m_X9_mould 12 := ⟨mo_X9_mould, rfl, (List.mem_append_right _ (List.mem_of_getElem? (i := 1771) (by decide +kernel))), (List.mem_append_right _ (List.mem_of_getElem? (i := 1529) (by decide +kernel))), (List.mem_append_right _ (List.mem_of_getElem? (i := 1530) (by decide +kernel))), TX9, 19, rfl⟩
theorem mpX9_203 : vOK RX9 203 m_X9_rack 12 := ⟨mo_X9_rack, rfl, (List.mem_append_right _ (List.mem_of_getElem? (i := 1772) (by decide +kernel))), (List.mem_append_right _ (List.mem_of_getElem? (i := 1565) (by decide +kernel))), (List.mem_append_right _ (List.mem_of_getElem? (i := 1566) (by decide +kernel))), TX9, 19, rfl⟩
theorem mpX9_206 : vOK RX9 206 m_X9_pour 12 := ⟨mo_X9_pour, rfl, (List.mem_append_right _ (List.mem_of_getElem? (i := 1773) (by decide +kernel))), (List.mem_append_right _ (List.mem_of_getElem? (i := 1597) (by decide +kernel))), (List.mem_append_right _ (List.mem_of_getElem? (i := 1598) (by decide +kernel))), TX9, 19, rfl⟩
theorem mpX9_209 : vOK RX9 209 m_X9_pass 12 := ⟨mo_X9_pass, rfl, (List.mem_append_right _ (List.mem_of_getElem? (i := 1774) (by decide +kernel))), (List.mem_append_right _ (List.mem_of_getElem? (i := 1604) (by decide +kernel))), (List.mem_append_right _ (List.mem_of_getElem? (i := 1605) (by decide +kernel))), TX9, 19, rfl⟩
theorem mpX9_212 : vOK RX9 212 m_X9_take 12 := ⟨mo_X9_take, rfl, (List.mem_append_right _ (List.mem_of_getElem? (i := 1775) (by decide +kernel))), (List.mem_append_right _ (List.mem_of_getElem? (i := 1616) (by decide +kernel))), (List.mem_append_right _ (List.mem_of_getElem? (i := 1617) (by decide +kernel))), TX9, 19, rfl⟩
theorem mpX9_215 : vOK RX9 215 m_X9_recast 12 := ⟨mo_X9_recast, rfl, (List.mem_append_right _ (List.mem_of_getElem? (i := 1776) (by decide +kernel))), (List.mem_append_right _ (List.mem_of_getElem? (i := 1640) (by decide +kernel))), (List.mem_append_right _ (List.mem_of_getElem? (i := 1641) (by decide +kernel))), TX9, 19, rfl⟩
theorem mpX9_218 : vOK RX9 218 m_X9_isText 12 := ⟨mo_X9_isText, rfl, (List.mem_append_right _ (List.mem_of_getElem? (i := 1745) (by decide +kernel))), (List.mem_append_right _ (List.mem_of_getElem? (i := 1747) (by decide +kernel))), (List.mem_append_left _ (List.mem_of_getElem? (i := 55) (by decide +kernel))), TX9, 19, rfl⟩
theorem mpX9_221 : vOK RX9 221 m_X9_carries 12 := ⟨mo_X9_carries, rfl, (List.mem_append_right _ (List.mem_of_getElem? (i := 1765) (by decide +kernel))), (List.mem_append_right _ (List.mem_of_getElem? (i := 1767) (by decide +kernel))), (List.mem_append_left _ (List.mem_of_getElem? (i := 60) (by decide +kernel))), TX9, 19, rfl⟩
theorem mpX9_224 : vOK RX9 224 m_X9_allOf 12 := ⟨mo_X9_allOf, rfl, (List.mem_append_right _ (List.mem_of_getElem? (i := 1789) (by decide +kernel))), (List.mem_append_right _ (List.mem_of_getElem? (i := 1791) (by decide +kernel))), (List.mem_append_left _ (List.mem_of_getElem? (i := 61) (by decide +kernel))), TX9, 19, rfl⟩
theorem mpX9_227 : vOK RX9 227 m_X9_sound 12 := ⟨mo_X9_sound, rfl, (List.mem_append_right _ (List.mem_of_getElem? (i := 1793) (by decide +kernel))), (List.mem_append_right _ (List.mem_of_getElem? (i := 1795) (by decide +kernel))), (List.mem_append_left _ (List.mem_of_getElem? (i := 62) (by decide +kernel))), TX9, 19, rfl⟩
theorem mlpX9 : ∀ q ∈ mlX9, ((match q.2.1 with
    | 0 => vOK RX9 q.1 q.2.2.1 q.2.2.2
    | 1 => sOK RX9 q.1 q.2.2.1
    | 2 => iOK RX9 q.1 q.2.2.1
    | 3 => snOK RX9 q.1 q.2.2.1
    | 4 => inOK RX9 q.1 q.2.2.1
    | 5 => oiOK RX9 q.1
    | 6 => mmOK RX9 q.1
    | 7 => mnOK RX9 q.1
    | 8 => acOK RX9 q.1
    | 9 => uOK RX9 q.1 q.2.2.1
    | 10 => suOK RX9 q.1 q.2.2.1
    | 11 => swOK RX9 q.1 q.2.2.1
    | _ => False) : Prop) := (fa_cons mpX9_1 (fa_cons mpX9_56 (fa_cons mpX9_60 (fa_cons mpX9_64 (fa_cons mpX9_68 (fa_cons mpX9_72 (fa_cons mpX9_76 (fa_cons mpX9_80 (fa_cons mpX9_83 (fa_cons mpX9_87 (fa_cons mpX9_91 (fa_cons mpX9_94 (fa_cons mpX9_97 (fa_cons mpX9_100 (fa_cons mpX9_103 (fa_cons mpX9_106 (fa_cons mpX9_110 (fa_cons mpX9_113 (fa_cons mpX9_116 (fa_cons mpX9_119 (fa_cons mpX9_123 (fa_cons mpX9_126 (fa_cons mpX9_129 (fa_cons mpX9_132 (fa_cons mpX9_135 (fa_cons mpX9_138 (fa_cons mpX9_141 (fa_cons mpX9_144 (fa_cons mpX9_147 (fa_cons mpX9_151 (fa_cons mpX9_154 (fa_cons mpX9_157 (fa_cons mpX9_160 (fa_cons mpX9_166 (fa_cons mpX9_169 (fa_cons mpX9_178 (fa_cons mpX9_184 (fa_cons mpX9_187 (fa_cons mpX9_190 (fa_cons mpX9_194 (fa_cons mpX9_197 (fa_cons mpX9_200 (fa_cons mpX9_203 (fa_cons mpX9_206 (fa_cons mpX9_209 (fa_cons mpX9_212 (fa_cons mpX9_215 (fa_cons mpX9_218 (fa_cons mpX9_221 (fa_cons mpX9_224 (fa_cons mpX9_227 fa_nil)))))))))))))))))))))))))))))))))))))))))))))))))))
def clPX9 (q : Nat × (Nat ⊕ Nat)) : Prop := match q.2 with
  | .inl ci => (∀ n fs, newF ci = some (n, fs) → newOK RX9 q.1 ci n fs) ∧ (ci = 4 → Jvm.Cond.classLink RX9 q.1 RX0 ∈ lw_tbl)
  | .inr _ => True
theorem clpX9 : ∀ q ∈ clX9, clPX9 q := fa_nil
theorem nlpX9 : ∀ q ∈ nlX9, Jvm.Cond.constant RX9 q.1 q.2 ∈ lw_tbl := fa_nil
theorem cpokX9 : cpOK RX9 false cpX9 := by
  refine ⟨fun k ci j ty fin h => flpX9 _ (lkp_mem h), fun k v h => slpX9 _ (lkp_mem h), fun k t y ci h => ?_, fun k ci h => clpX9 _ (lkp_mem h), fun k v h => nlpX9 _ (lkp_mem h)⟩
  exact mlpX9 _ (lkp_mem h)
theorem cpokIX9 : cpOK RX9 true cpIX9 := by
  refine ⟨fun k ci j ty fin h => fipX9 _ (lkp_mem h), fun k v h => slpX9 _ (lkp_mem h), fun k t y ci h => ?_, fun k ci h => clpX9 _ (lkp_mem h), fun k v h => nlpX9 _ (lkp_mem h)⟩
  exact mlpX9 _ (lkp_mem h)
def flJ5 : List (Nat × (Nat × Nat × FieldType × Bool)) := [(15, (1, 0, .array .byte, false)), (22, (1, 1, .byte, false)), (73, (1, 2, .boolean, false)), (79, (1, 3, .int, false))]
def fiJ5 : List (Nat × (Nat × Nat × FieldType × Bool)) := [(15, (1, 0, .array .byte, false)), (22, (1, 1, .byte, false)), (73, (1, 2, .boolean, false)), (79, (1, 3, .int, false))]
def slJ5 : List (Nat × Value) := [(18, .int 1)]
def mlJ5 : List (Nat × (Nat × m0T × Nat)) := [(3, (5, mNone, 0)), (83, (9, m_J5_isLatin1_aae02, 1)), (100, (9, m_J5_ensureCapacityInternal_d00df, 1)), (104, (9, m_J5_newCapacity_0f7a4, 1)), (108, (1, m_J7_copyOf_9075b, 0)), (114, (1, m_J8_newLength_cabcc, 0)), (138, (7, mNone, 0)), (144, (1, m_J0_checkIndex_df160, 0)), (191, (1, m_J1_canEncode_fc78d, 0)), (245, (1, m_J6_stringSize_0f7a4, 0)), (248, (1, m_J6_getChars_ba4f3, 0))]
def clJ5 : List (Nat × (Nat ⊕ Nat)) := []
def nlJ5 : List (Nat × Int32) := [(39, 2147483647)]
def cpJ5 : cpT := (lkp flJ5, lkp slJ5, lkp mlJ5, lkp clJ5, lkp nlJ5)
def cpIJ5 : cpT := (lkp fiJ5, lkp slJ5, lkp mlJ5, lkp clJ5, lkp nlJ5)
theorem fipJ5 : ∀ q ∈ fiJ5, fldOK RJ5 true q.1 q.2.1 q.2.2.1 q.2.2.2.1 q.2.2.2.2 := (fa_cons ⟨clOK1, RJ4, TJ4, 4, rfl, by decide, rfl, by decide +kernel, (List.mem_append_right _ (List.mem_of_getElem? (i := 225) (by decide +kernel))), fun h => nomatch h⟩ (fa_cons ⟨clOK1, RJ4, TJ4, 4, rfl, by decide, rfl, by decide +kernel, (List.mem_append_right _ (List.mem_of_getElem? (i := 226) (by decide +kernel))), fun h => nomatch h⟩ (fa_cons ⟨clOK1, RJ4, TJ4, 4, rfl, by decide, rfl, by decide +kernel, (List.mem_append_right _ (List.mem_of_getElem? (i := 227) (by decide +kernel))), fun h => nomatch h⟩ (fa_cons ⟨clOK1, RJ4, TJ4, 4, rfl, by decide, rfl, by decide +kernel, (List.mem_append_right _ (List.mem_of_getElem? (i := 229) (by decide +kernel))), fun h => nomatch h⟩ fa_nil))))
theorem flpJ5 : ∀ q ∈ flJ5, fldOK RJ5 false q.1 q.2.1 q.2.2.1 q.2.2.2.1 q.2.2.2.2 := (fa_cons ⟨clOK1, RJ4, TJ4, 4, rfl, by decide, rfl, by decide +kernel, (List.mem_append_right _ (List.mem_of_getElem? (i := 225) (by decide +kernel))), fun _ h => nomatch h⟩ (fa_cons ⟨clOK1, RJ4, TJ4, 4, rfl, by decide, rfl, by decide +kernel, (List.mem_append_right _ (List.mem_of_getElem? (i := 226) (by decide +kernel))), fun _ h => nomatch h⟩ (fa_cons ⟨clOK1, RJ4, TJ4, 4, rfl, by decide, rfl, by decide +kernel, (List.mem_append_right _ (List.mem_of_getElem? (i := 227) (by decide +kernel))), fun _ h => nomatch h⟩ (fa_cons ⟨clOK1, RJ4, TJ4, 4, rfl, by decide, rfl, by decide +kernel, (List.mem_append_right _ (List.mem_of_getElem? (i := 229) (by decide +kernel))), fun _ h => nomatch h⟩ fa_nil))))
theorem slpJ5 : ∀ q ∈ slJ5, stcOK RJ5 q.1 q.2 := (fa_cons ⟨_, List.mem_of_getElem? (i := 6) rfl, rfl, Or.inl (List.mem_append_right _ (List.mem_of_getElem? (i := 216) (by decide +kernel)))⟩ fa_nil)
theorem mpJ5_3 : oiOK RJ5 3 := ⟨(List.mem_append_right _ (List.mem_of_getElem? (i := 215) (by decide +kernel))), (List.mem_append_right _ (List.mem_of_getElem? (i := 41) (by decide +kernel))), (List.mem_append_right _ (List.mem_of_getElem? (i := 42) (by decide +kernel)))⟩
theorem mpJ5_83 : uOK RJ5 83 m_J5_isLatin1_aae02 := ⟨mo_J5_isLatin1_aae02, rfl, (List.mem_append_right _ (List.mem_of_getElem? (i := 986) (by decide +kernel))), (List.mem_append_right _ (List.mem_of_getElem? (i := 987) (by decide +kernel))), (List.mem_append_right _ (List.mem_of_getElem? (i := 988) (by decide +kernel))), Or.inl (List.mem_append_right _ (List.mem_of_getElem? (i := 989) (by decide +kernel)))⟩
theorem mpJ5_100 : uOK RJ5 100 m_J5_ensureCapacityInternal_d00df := ⟨mo_J5_ensureCapacityInternal_d00df, rfl, (List.mem_append_right _ (List.mem_of_getElem? (i := 955) (by decide +kernel))), (List.mem_append_right _ (List.mem_of_getElem? (i := 957) (by decide +kernel))), (List.mem_append_right _ (List.mem_of_getElem? (i := 1827) (by decide +kernel))), Or.inr (List.mem_append_right _ (List.mem_of_getElem? (i := 956) (by decide +kernel)))⟩
theorem mpJ5_104 : uOK RJ5 104 m_J5_newCapacity_0f7a4 := ⟨mo_J5_newCapacity_0f7a4, rfl, (List.mem_append_right _ (List.mem_of_getElem? (i := 959) (by decide +kernel))), (List.mem_append_right _ (List.mem_of_getElem? (i := 961) (by decide +kernel))), (List.mem_append_right _ (List.mem_of_getElem? (i := 1828) (by decide +kernel))), Or.inr (List.mem_append_right _ (List.mem_of_getElem? (i := 960) (by decide +kernel)))⟩
theorem mpJ5_108 : sOK RJ5 108 m_J7_copyOf_9075b := ⟨mo_J7_copyOf_9075b, rfl, (List.mem_append_right _ (List.mem_of_getElem? (i := 972) (by decide +kernel))), (List.mem_append_right _ (List.mem_of_getElem? (i := 973) (by decide +kernel)))⟩
theorem mpJ5_114 : sOK RJ5 114 m_J8_newLength_cabcc := ⟨mo_J8_newLength_cabcc, rfl, (List.mem_append_right _ (List.mem_of_getElem? (i := 963) (by decide +kernel))), (List.mem_append_right _ (List.mem_of_getElem? (i := 964) (by decide +kernel)))⟩
theorem mpJ5_138 : mnOK RJ5 138 := ⟨(List.mem_append_right _ (List.mem_of_getElem? (i := 1232) (by decide +kernel))), (List.mem_append_right _ (List.mem_of_getElem? (i := 284) (by decide +kernel))), (List.mem_append_right _ (List.mem_of_getElem? (i := 4) (by decide +kernel))), (List.mem_append_right _ (List.mem_of_getElem? (i := 285) (by decide +kernel)))⟩
theorem mpJ5_144 : sOK RJ5 144 m_J0_checkIndex_df160 := ⟨mo_J0_checkIndex_df160, rfl, (List.mem_append_right _ (List.mem_of_getElem? (i := 1233) (by decide +kernel))), (List.mem_append_right _ (List.mem_of_getElem? (i := 1200) (by decide +kernel)))⟩
theorem mpJ5_191 : sOK RJ5 191 m_J1_canEncode_fc78d := ⟨mo_J1_canEncode_fc78d, rfl, (List.mem_append_right _ (List.mem_of_getElem? (i := 1190) (by decide +kernel))), (List.mem_append_right _ (List.mem_of_getElem? (i := 1191) (by decide +kernel)))⟩
theorem mpJ5_245 : sOK RJ5 245 m_J6_stringSize_0f7a4 := ⟨mo_J6_stringSize_0f7a4, rfl, (List.mem_append_right _ (List.mem_of_getElem? (i := 1067) (by decide +kernel))), (List.mem_append_right _ (List.mem_of_getElem? (i := 1068) (by decide +kernel)))⟩
theorem mpJ5_248 : sOK RJ5 248 m_J6_getChars_ba4f3 := ⟨mo_J6_getChars_ba4f3, rfl, (List.mem_append_right _ (List.mem_of_getElem? (i := 1070) (by decide +kernel))), (List.mem_append_right _ (List.mem_of_getElem? (i := 1071) (by decide +kernel)))⟩
theorem mlpJ5 : ∀ q ∈ mlJ5, ((match q.2.1 with
    | 0 => vOK RJ5 q.1 q.2.2.1 q.2.2.2
    | 1 => sOK RJ5 q.1 q.2.2.1
    | 2 => iOK RJ5 q.1 q.2.2.1
    | 3 => snOK RJ5 q.1 q.2.2.1
    | 4 => inOK RJ5 q.1 q.2.2.1
    | 5 => oiOK RJ5 q.1
    | 6 => mmOK RJ5 q.1
    | 7 => mnOK RJ5 q.1
    | 8 => acOK RJ5 q.1
    | 9 => uOK RJ5 q.1 q.2.2.1
    | 10 => suOK RJ5 q.1 q.2.2.1
    | 11 => swOK RJ5 q.1 q.2.2.1
    | _ => False) : Prop) := (fa_cons mpJ5_3 (fa_cons mpJ5_83 (fa_cons mpJ5_100 (fa_cons mpJ5_104 (fa_cons mpJ5_108 (fa_cons mpJ5_114 (fa_cons mpJ5_138 (fa_cons mpJ5_144 (fa_cons mpJ5_191 (fa_cons mpJ5_245 (fa_cons mpJ5_248 fa_nil)))))))))))
def clPJ5 (q : Nat × (Nat ⊕ Nat)) : Prop := match q.2 with
  | .inl ci => (∀ n fs, newF ci = some (n, fs) → newOK RJ5 q.1 ci n fs) ∧ (ci = 4 → Jvm.Cond.classLink RJ5 q.1 RX0 ∈ lw_tbl)
  | .inr _ => True
theorem clpJ5 : ∀ q ∈ clJ5, clPJ5 q := fa_nil
theorem nlpJ5 : ∀ q ∈ nlJ5, Jvm.Cond.constant RJ5 q.1 q.2 ∈ lw_tbl := (fa_cons ((List.mem_append_right _ (List.mem_of_getElem? (i := 971) (by decide +kernel)))) fa_nil)
theorem cpokJ5 : cpOK RJ5 false cpJ5 := by
  refine ⟨fun k ci j ty fin h => flpJ5 _ (lkp_mem h), fun k v h => slpJ5 _ (lkp_mem h), fun k t y ci h => ?_, fun k ci h => clpJ5 _ (lkp_mem h), fun k v h => nlpJ5 _ (lkp_mem h)⟩
  exact mlpJ5 _ (lkp_mem h)
theorem cpokIJ5 : cpOK RJ5 true cpIJ5 := by
  refine ⟨fun k ci j ty fin h => fipJ5 _ (lkp_mem h), fun k v h => slpJ5 _ (lkp_mem h), fun k t y ci h => ?_, fun k ci h => clpJ5 _ (lkp_mem h), fun k v h => nlpJ5 _ (lkp_mem h)⟩
  exact mlpJ5 _ (lkp_mem h)
def flJ6 : List (Nat × (Nat × Nat × FieldType × Bool)) := []
def fiJ6 : List (Nat × (Nat × Nat × FieldType × Bool)) := []
def slJ6 : List (Nat × Value) := [(83, .retAddr 1), (87, .retAddr 2)]
def mlJ6 : List (Nat × (Nat × m0T × Nat)) := []
def clJ6 : List (Nat × (Nat ⊕ Nat)) := []
def nlJ6 : List (Nat × Int32) := []
def cpJ6 : cpT := (lkp flJ6, lkp slJ6, lkp mlJ6, lkp clJ6, lkp nlJ6)
def cpIJ6 : cpT := (lkp fiJ6, lkp slJ6, lkp mlJ6, lkp clJ6, lkp nlJ6)
theorem fipJ6 : ∀ q ∈ fiJ6, fldOK RJ6 true q.1 q.2.1 q.2.2.1 q.2.2.2.1 q.2.2.2.2 := fa_nil
theorem flpJ6 : ∀ q ∈ flJ6, fldOK RJ6 false q.1 q.2.1 q.2.2.1 q.2.2.2.1 q.2.2.2.2 := fa_nil
theorem slpJ6 : ∀ q ∈ slJ6, stcOK RJ6 q.1 q.2 := (fa_cons ⟨_, List.mem_of_getElem? (i := 1) rfl, rfl, Or.inl (List.mem_append_right _ (List.mem_of_getElem? (i := 1073) (by decide +kernel)))⟩ (fa_cons ⟨_, List.mem_of_getElem? (i := 2) rfl, rfl, Or.inl (List.mem_append_right _ (List.mem_of_getElem? (i := 1075) (by decide +kernel)))⟩ fa_nil))
theorem mlpJ6 : ∀ q ∈ mlJ6, ((match q.2.1 with
    | 0 => vOK RJ6 q.1 q.2.2.1 q.2.2.2
    | 1 => sOK RJ6 q.1 q.2.2.1
    | 2 => iOK RJ6 q.1 q.2.2.1
    | 3 => snOK RJ6 q.1 q.2.2.1
    | 4 => inOK RJ6 q.1 q.2.2.1
    | 5 => oiOK RJ6 q.1
    | 6 => mmOK RJ6 q.1
    | 7 => mnOK RJ6 q.1
    | 8 => acOK RJ6 q.1
    | 9 => uOK RJ6 q.1 q.2.2.1
    | 10 => suOK RJ6 q.1 q.2.2.1
    | 11 => swOK RJ6 q.1 q.2.2.1
    | _ => False) : Prop) := fa_nil
def clPJ6 (q : Nat × (Nat ⊕ Nat)) : Prop := match q.2 with
  | .inl ci => (∀ n fs, newF ci = some (n, fs) → newOK RJ6 q.1 ci n fs) ∧ (ci = 4 → Jvm.Cond.classLink RJ6 q.1 RX0 ∈ lw_tbl)
  | .inr _ => True
theorem clpJ6 : ∀ q ∈ clJ6, clPJ6 q := fa_nil
theorem nlpJ6 : ∀ q ∈ nlJ6, Jvm.Cond.constant RJ6 q.1 q.2 ∈ lw_tbl := fa_nil
theorem cpokJ6 : cpOK RJ6 false cpJ6 := by
  refine ⟨fun k ci j ty fin h => flpJ6 _ (lkp_mem h), fun k v h => slpJ6 _ (lkp_mem h), fun k t y ci h => ?_, fun k ci h => clpJ6 _ (lkp_mem h), fun k v h => nlpJ6 _ (lkp_mem h)⟩
  exact mlpJ6 _ (lkp_mem h)
theorem cpokIJ6 : cpOK RJ6 true cpIJ6 := by
  refine ⟨fun k ci j ty fin h => fipJ6 _ (lkp_mem h), fun k v h => slpJ6 _ (lkp_mem h), fun k t y ci h => ?_, fun k ci h => clpJ6 _ (lkp_mem h), fun k v h => nlpJ6 _ (lkp_mem h)⟩
  exact mlpJ6 _ (lkp_mem h)
def flJ0 : List (Nat × (Nat × Nat × FieldType × Bool)) := []
def fiJ0 : List (Nat × (Nat × Nat × FieldType × Bool)) := []
def slJ0 : List (Nat × Value) := [(1053, .retAddr 7)]
def mlJ0 : List (Nat × (Nat × m0T × Nat)) := [(1059, (1, m_J3_checkIndex_8e157, 0))]
def clJ0 : List (Nat × (Nat ⊕ Nat)) := []
def nlJ0 : List (Nat × Int32) := []
def cpJ0 : cpT := (lkp flJ0, lkp slJ0, lkp mlJ0, lkp clJ0, lkp nlJ0)
def cpIJ0 : cpT := (lkp fiJ0, lkp slJ0, lkp mlJ0, lkp clJ0, lkp nlJ0)
theorem fipJ0 : ∀ q ∈ fiJ0, fldOK RJ0 true q.1 q.2.1 q.2.2.1 q.2.2.2.1 q.2.2.2.2 := fa_nil
theorem flpJ0 : ∀ q ∈ flJ0, fldOK RJ0 false q.1 q.2.1 q.2.2.1 q.2.2.2.1 q.2.2.2.2 := fa_nil
theorem slpJ0 : ∀ q ∈ slJ0, stcOK RJ0 q.1 q.2 := (fa_cons ⟨_, List.mem_of_getElem? (i := 7) rfl, rfl, Or.inl (List.mem_append_right _ (List.mem_of_getElem? (i := 1003) (by decide +kernel)))⟩ fa_nil)
theorem mpJ0_1059 : sOK RJ0 1059 m_J3_checkIndex_8e157 := ⟨mo_J3_checkIndex_8e157, rfl, (List.mem_append_right _ (List.mem_of_getElem? (i := 1202) (by decide +kernel))), (List.mem_append_right _ (List.mem_of_getElem? (i := 1203) (by decide +kernel)))⟩
theorem mlpJ0 : ∀ q ∈ mlJ0, ((match q.2.1 with
    | 0 => vOK RJ0 q.1 q.2.2.1 q.2.2.2
    | 1 => sOK RJ0 q.1 q.2.2.1
    | 2 => iOK RJ0 q.1 q.2.2.1
    | 3 => snOK RJ0 q.1 q.2.2.1
    | 4 => inOK RJ0 q.1 q.2.2.1
    | 5 => oiOK RJ0 q.1
    | 6 => mmOK RJ0 q.1
    | 7 => mnOK RJ0 q.1
    | 8 => acOK RJ0 q.1
    | 9 => uOK RJ0 q.1 q.2.2.1
    | 10 => suOK RJ0 q.1 q.2.2.1
    | 11 => swOK RJ0 q.1 q.2.2.1
    | _ => False) : Prop) := (fa_cons mpJ0_1059 fa_nil)
def clPJ0 (q : Nat × (Nat ⊕ Nat)) : Prop := match q.2 with
  | .inl ci => (∀ n fs, newF ci = some (n, fs) → newOK RJ0 q.1 ci n fs) ∧ (ci = 4 → Jvm.Cond.classLink RJ0 q.1 RX0 ∈ lw_tbl)
  | .inr _ => True
theorem clpJ0 : ∀ q ∈ clJ0, clPJ0 q := fa_nil
theorem nlpJ0 : ∀ q ∈ nlJ0, Jvm.Cond.constant RJ0 q.1 q.2 ∈ lw_tbl := fa_nil
theorem cpokJ0 : cpOK RJ0 false cpJ0 := by
  refine ⟨fun k ci j ty fin h => flpJ0 _ (lkp_mem h), fun k v h => slpJ0 _ (lkp_mem h), fun k t y ci h => ?_, fun k ci h => clpJ0 _ (lkp_mem h), fun k v h => nlpJ0 _ (lkp_mem h)⟩
  exact mlpJ0 _ (lkp_mem h)
theorem cpokIJ0 : cpOK RJ0 true cpIJ0 := by
  refine ⟨fun k ci j ty fin h => fipJ0 _ (lkp_mem h), fun k v h => slpJ0 _ (lkp_mem h), fun k t y ci h => ?_, fun k ci h => clpJ0 _ (lkp_mem h), fun k v h => nlpJ0 _ (lkp_mem h)⟩
  exact mlpJ0 _ (lkp_mem h)
def flJ4 : List (Nat × (Nat × Nat × FieldType × Bool)) := []
def fiJ4 : List (Nat × (Nat × Nat × FieldType × Bool)) := []
def slJ4 : List (Nat × Value) := []
def mlJ4 : List (Nat × (Nat × m0T × Nat)) := [(1, (2, m_J5_init_d00df, 0)), (50, (10, m_J5_append_3fe6f, 1)), (53, (10, m_J5_append_c97b9, 1)), (329, (10, m_J5_charAt_5068e, 1)), (333, (10, m_J5_setLength_d00df, 1)), (343, (10, m_J5_length_8abf5, 1))]
def clJ4 : List (Nat × (Nat ⊕ Nat)) := []
def nlJ4 : List (Nat × Int32) := []
def cpJ4 : cpT := (lkp flJ4, lkp slJ4, lkp mlJ4, lkp clJ4, lkp nlJ4)
def cpIJ4 : cpT := (lkp fiJ4, lkp slJ4, lkp mlJ4, lkp clJ4, lkp nlJ4)
theorem fipJ4 : ∀ q ∈ fiJ4, fldOK RJ4 true q.1 q.2.1 q.2.2.1 q.2.2.2.1 q.2.2.2.2 := fa_nil
theorem flpJ4 : ∀ q ∈ flJ4, fldOK RJ4 false q.1 q.2.1 q.2.2.1 q.2.2.2.1 q.2.2.2.2 := fa_nil
theorem slpJ4 : ∀ q ∈ slJ4, stcOK RJ4 q.1 q.2 := fa_nil
theorem mpJ4_1 : iOK RJ4 1 m_J5_init_d00df := ⟨mo_J5_init_d00df, rfl, rfl, (List.mem_append_right _ (List.mem_of_getElem? (i := 212) (by decide +kernel))), rfl, (List.mem_append_right _ (List.mem_of_getElem? (i := 213) (by decide +kernel)))⟩
theorem mpJ4_50 : suOK RJ4 50 m_J5_append_3fe6f := ⟨mo_J5_append_3fe6f, rfl, (List.mem_append_right _ (List.mem_of_getElem? (i := 1187) (by decide +kernel))), (List.mem_append_right _ (List.mem_of_getElem? (i := 1188) (by decide +kernel))), (List.mem_append_right _ (List.mem_of_getElem? (i := 1833) (by decide +kernel))), (List.mem_append_right _ (List.mem_of_getElem? (i := 238) (by decide +kernel))), by decide +kernel⟩
theorem mpJ4_53 : suOK RJ4 53 m_J5_append_c97b9 := ⟨mo_J5_append_c97b9, rfl, (List.mem_append_right _ (List.mem_of_getElem? (i := 1064) (by decide +kernel))), (List.mem_append_right _ (List.mem_of_getElem? (i := 1065) (by decide +kernel))), (List.mem_append_right _ (List.mem_of_getElem? (i := 1832) (by decide +kernel))), (List.mem_append_right _ (List.mem_of_getElem? (i := 238) (by decide +kernel))), by decide +kernel⟩
theorem mpJ4_329 : suOK RJ4 329 m_J5_charAt_5068e := ⟨mo_J5_charAt_5068e, rfl, (List.mem_append_right _ (List.mem_of_getElem? (i := 1229) (by decide +kernel))), (List.mem_append_right _ (List.mem_of_getElem? (i := 1230) (by decide +kernel))), (List.mem_append_right _ (List.mem_of_getElem? (i := 1835) (by decide +kernel))), (List.mem_append_right _ (List.mem_of_getElem? (i := 238) (by decide +kernel))), by decide +kernel⟩
theorem mpJ4_333 : suOK RJ4 333 m_J5_setLength_d00df := ⟨mo_J5_setLength_d00df, rfl, (List.mem_append_right _ (List.mem_of_getElem? (i := 933) (by decide +kernel))), (List.mem_append_right _ (List.mem_of_getElem? (i := 934) (by decide +kernel))), (List.mem_append_right _ (List.mem_of_getElem? (i := 1824) (by decide +kernel))), (List.mem_append_right _ (List.mem_of_getElem? (i := 238) (by decide +kernel))), by decide +kernel⟩
theorem mpJ4_343 : suOK RJ4 343 m_J5_length_8abf5 := ⟨mo_J5_length_8abf5, rfl, (List.mem_append_right _ (List.mem_of_getElem? (i := 1108) (by decide +kernel))), (List.mem_append_right _ (List.mem_of_getElem? (i := 1103) (by decide +kernel))), (List.mem_append_right _ (List.mem_of_getElem? (i := 1104) (by decide +kernel))), (List.mem_append_right _ (List.mem_of_getElem? (i := 238) (by decide +kernel))), by decide +kernel⟩
theorem mlpJ4 : ∀ q ∈ mlJ4, ((match q.2.1 with
    | 0 => vOK RJ4 q.1 q.2.2.1 q.2.2.2
    | 1 => sOK RJ4 q.1 q.2.2.1
    | 2 => iOK RJ4 q.1 q.2.2.1
    | 3 => snOK RJ4 q.1 q.2.2.1
    | 4 => inOK RJ4 q.1 q.2.2.1
    | 5 => oiOK RJ4 q.1
    | 6 => mmOK RJ4 q.1
    | 7 => mnOK RJ4 q.1
    | 8 => acOK RJ4 q.1
    | 9 => uOK RJ4 q.1 q.2.2.1
    | 10 => suOK RJ4 q.1 q.2.2.1
    | 11 => swOK RJ4 q.1 q.2.2.1
    | _ => False) : Prop) := (fa_cons mpJ4_1 (fa_cons mpJ4_50 (fa_cons mpJ4_53 (fa_cons mpJ4_329 (fa_cons mpJ4_333 (fa_cons mpJ4_343 fa_nil))))))
def clPJ4 (q : Nat × (Nat ⊕ Nat)) : Prop := match q.2 with
  | .inl ci => (∀ n fs, newF ci = some (n, fs) → newOK RJ4 q.1 ci n fs) ∧ (ci = 4 → Jvm.Cond.classLink RJ4 q.1 RX0 ∈ lw_tbl)
  | .inr _ => True
theorem clpJ4 : ∀ q ∈ clJ4, clPJ4 q := fa_nil
theorem nlpJ4 : ∀ q ∈ nlJ4, Jvm.Cond.constant RJ4 q.1 q.2 ∈ lw_tbl := fa_nil
theorem cpokJ4 : cpOK RJ4 false cpJ4 := by
  refine ⟨fun k ci j ty fin h => flpJ4 _ (lkp_mem h), fun k v h => slpJ4 _ (lkp_mem h), fun k t y ci h => ?_, fun k ci h => clpJ4 _ (lkp_mem h), fun k v h => nlpJ4 _ (lkp_mem h)⟩
  exact mlpJ4 _ (lkp_mem h)
theorem cpokIJ4 : cpOK RJ4 true cpIJ4 := by
  refine ⟨fun k ci j ty fin h => fipJ4 _ (lkp_mem h), fun k v h => slpJ4 _ (lkp_mem h), fun k t y ci h => ?_, fun k ci h => clpJ4 _ (lkp_mem h), fun k v h => nlpJ4 _ (lkp_mem h)⟩
  exact mlpJ4 _ (lkp_mem h)
def flJ1 : List (Nat × (Nat × Nat × FieldType × Bool)) := []
def fiJ1 : List (Nat × (Nat × Nat × FieldType × Bool)) := []
def slJ1 : List (Nat × Value) := []
def mlJ1 : List (Nat × (Nat × m0T × Nat)) := []
def clJ1 : List (Nat × (Nat ⊕ Nat)) := []
def nlJ1 : List (Nat × Int32) := []
def cpJ1 : cpT := (lkp flJ1, lkp slJ1, lkp mlJ1, lkp clJ1, lkp nlJ1)
def cpIJ1 : cpT := (lkp fiJ1, lkp slJ1, lkp mlJ1, lkp clJ1, lkp nlJ1)
theorem fipJ1 : ∀ q ∈ fiJ1, fldOK RJ1 true q.1 q.2.1 q.2.2.1 q.2.2.2.1 q.2.2.2.2 := fa_nil
theorem flpJ1 : ∀ q ∈ flJ1, fldOK RJ1 false q.1 q.2.1 q.2.2.1 q.2.2.2.1 q.2.2.2.2 := fa_nil
theorem slpJ1 : ∀ q ∈ slJ1, stcOK RJ1 q.1 q.2 := fa_nil
theorem mlpJ1 : ∀ q ∈ mlJ1, ((match q.2.1 with
    | 0 => vOK RJ1 q.1 q.2.2.1 q.2.2.2
    | 1 => sOK RJ1 q.1 q.2.2.1
    | 2 => iOK RJ1 q.1 q.2.2.1
    | 3 => snOK RJ1 q.1 q.2.2.1
    | 4 => inOK RJ1 q.1 q.2.2.1
    | 5 => oiOK RJ1 q.1
    | 6 => mmOK RJ1 q.1
    | 7 => mnOK RJ1 q.1
    | 8 => acOK RJ1 q.1
    | 9 => uOK RJ1 q.1 q.2.2.1
    | 10 => suOK RJ1 q.1 q.2.2.1
    | 11 => swOK RJ1 q.1 q.2.2.1
    | _ => False) : Prop) := fa_nil
def clPJ1 (q : Nat × (Nat ⊕ Nat)) : Prop := match q.2 with
  | .inl ci => (∀ n fs, newF ci = some (n, fs) → newOK RJ1 q.1 ci n fs) ∧ (ci = 4 → Jvm.Cond.classLink RJ1 q.1 RX0 ∈ lw_tbl)
  | .inr _ => True
theorem clpJ1 : ∀ q ∈ clJ1, clPJ1 q := fa_nil
theorem nlpJ1 : ∀ q ∈ nlJ1, Jvm.Cond.constant RJ1 q.1 q.2 ∈ lw_tbl := fa_nil
theorem cpokJ1 : cpOK RJ1 false cpJ1 := by
  refine ⟨fun k ci j ty fin h => flpJ1 _ (lkp_mem h), fun k v h => slpJ1 _ (lkp_mem h), fun k t y ci h => ?_, fun k ci h => clpJ1 _ (lkp_mem h), fun k v h => nlpJ1 _ (lkp_mem h)⟩
  exact mlpJ1 _ (lkp_mem h)
theorem cpokIJ1 : cpOK RJ1 true cpIJ1 := by
  refine ⟨fun k ci j ty fin h => fipJ1 _ (lkp_mem h), fun k v h => slpJ1 _ (lkp_mem h), fun k t y ci h => ?_, fun k ci h => clpJ1 _ (lkp_mem h), fun k v h => nlpJ1 _ (lkp_mem h)⟩
  exact mlpJ1 _ (lkp_mem h)
def flJ7 : List (Nat × (Nat × Nat × FieldType × Bool)) := []
def fiJ7 : List (Nat × (Nat × Nat × FieldType × Bool)) := []
def slJ7 : List (Nat × Value) := []
def mlJ7 : List (Nat × (Nat × m0T × Nat)) := [(150, (8, mNone, 0)), (304, (7, mNone, 0))]
def clJ7 : List (Nat × (Nat ⊕ Nat)) := []
def nlJ7 : List (Nat × Int32) := []
def cpJ7 : cpT := (lkp flJ7, lkp slJ7, lkp mlJ7, lkp clJ7, lkp nlJ7)
def cpIJ7 : cpT := (lkp fiJ7, lkp slJ7, lkp mlJ7, lkp clJ7, lkp nlJ7)
theorem fipJ7 : ∀ q ∈ fiJ7, fldOK RJ7 true q.1 q.2.1 q.2.2.1 q.2.2.2.1 q.2.2.2.2 := fa_nil
theorem flpJ7 : ∀ q ∈ flJ7, fldOK RJ7 false q.1 q.2.1 q.2.2.1 q.2.2.2.1 q.2.2.2.2 := fa_nil
theorem slpJ7 : ∀ q ∈ slJ7, stcOK RJ7 q.1 q.2 := fa_nil
theorem mpJ7_150 : acOK RJ7 150 := ⟨(List.mem_append_right _ (List.mem_of_getElem? (i := 983) (by decide +kernel))), (List.mem_append_right _ (List.mem_of_getElem? (i := 985) (by decide +kernel))), (List.mem_append_right _ (List.mem_of_getElem? (i := 984) (by decide +kernel))), (List.mem_append_right _ (List.mem_of_getElem? (i := 26) (by decide +kernel)))⟩
theorem mpJ7_304 : mnOK RJ7 304 := ⟨(List.mem_append_right _ (List.mem_of_getElem? (i := 982) (by decide +kernel))), (List.mem_append_right _ (List.mem_of_getElem? (i := 284) (by decide +kernel))), (List.mem_append_right _ (List.mem_of_getElem? (i := 4) (by decide +kernel))), (List.mem_append_right _ (List.mem_of_getElem? (i := 285) (by decide +kernel)))⟩
theorem mlpJ7 : ∀ q ∈ mlJ7, ((match q.2.1 with
    | 0 => vOK RJ7 q.1 q.2.2.1 q.2.2.2
    | 1 => sOK RJ7 q.1 q.2.2.1
    | 2 => iOK RJ7 q.1 q.2.2.1
    | 3 => snOK RJ7 q.1 q.2.2.1
    | 4 => inOK RJ7 q.1 q.2.2.1
    | 5 => oiOK RJ7 q.1
    | 6 => mmOK RJ7 q.1
    | 7 => mnOK RJ7 q.1
    | 8 => acOK RJ7 q.1
    | 9 => uOK RJ7 q.1 q.2.2.1
    | 10 => suOK RJ7 q.1 q.2.2.1
    | 11 => swOK RJ7 q.1 q.2.2.1
    | _ => False) : Prop) := (fa_cons mpJ7_150 (fa_cons mpJ7_304 fa_nil))
def clPJ7 (q : Nat × (Nat ⊕ Nat)) : Prop := match q.2 with
  | .inl ci => (∀ n fs, newF ci = some (n, fs) → newOK RJ7 q.1 ci n fs) ∧ (ci = 4 → Jvm.Cond.classLink RJ7 q.1 RX0 ∈ lw_tbl)
  | .inr _ => True
theorem clpJ7 : ∀ q ∈ clJ7, clPJ7 q := fa_nil
theorem nlpJ7 : ∀ q ∈ nlJ7, Jvm.Cond.constant RJ7 q.1 q.2 ∈ lw_tbl := fa_nil
theorem cpokJ7 : cpOK RJ7 false cpJ7 := by
  refine ⟨fun k ci j ty fin h => flpJ7 _ (lkp_mem h), fun k v h => slpJ7 _ (lkp_mem h), fun k t y ci h => ?_, fun k ci h => clpJ7 _ (lkp_mem h), fun k v h => nlpJ7 _ (lkp_mem h)⟩
  exact mlpJ7 _ (lkp_mem h)
theorem cpokIJ7 : cpOK RJ7 true cpIJ7 := by
  refine ⟨fun k ci j ty fin h => fipJ7 _ (lkp_mem h), fun k v h => slpJ7 _ (lkp_mem h), fun k t y ci h => ?_, fun k ci h => clpJ7 _ (lkp_mem h), fun k v h => nlpJ7 _ (lkp_mem h)⟩
  exact mlpJ7 _ (lkp_mem h)
def flJ8 : List (Nat × (Nat × Nat × FieldType × Bool)) := []
def fiJ8 : List (Nat × (Nat × Nat × FieldType × Bool)) := []
def slJ8 : List (Nat × Value) := []
def mlJ8 : List (Nat × (Nat × m0T × Nat)) := [(194, (6, mNone, 0))]
def clJ8 : List (Nat × (Nat ⊕ Nat)) := []
def nlJ8 : List (Nat × Int32) := [(200, 2147483639)]
def cpJ8 : cpT := (lkp flJ8, lkp slJ8, lkp mlJ8, lkp clJ8, lkp nlJ8)
def cpIJ8 : cpT := (lkp fiJ8, lkp slJ8, lkp mlJ8, lkp clJ8, lkp nlJ8)
theorem fipJ8 : ∀ q ∈ fiJ8, fldOK RJ8 true q.1 q.2.1 q.2.2.1 q.2.2.2.1 q.2.2.2.2 := fa_nil
theorem flpJ8 : ∀ q ∈ flJ8, fldOK RJ8 false q.1 q.2.1 q.2.2.1 q.2.2.2.1 q.2.2.2.2 := fa_nil
theorem slpJ8 : ∀ q ∈ slJ8, stcOK RJ8 q.1 q.2 := fa_nil
theorem mpJ8_194 : mmOK RJ8 194 := ⟨(List.mem_append_right _ (List.mem_of_getElem? (i := 966) (by decide +kernel))), (List.mem_append_right _ (List.mem_of_getElem? (i := 56) (by decide +kernel))), (List.mem_append_right _ (List.mem_of_getElem? (i := 4) (by decide +kernel))), (List.mem_append_right _ (List.mem_of_getElem? (i := 57) (by decide +kernel)))⟩
theorem mlpJ8 : ∀ q ∈ mlJ8, ((match q.2.1 with
    | 0 => vOK RJ8 q.1 q.2.2.1 q.2.2.2
    | 1 => sOK RJ8 q.1 q.2.2.1
    | 2 => iOK RJ8 q.1 q.2.2.1
    | 3 => snOK RJ8 q.1 q.2.2.1
    | 4 => inOK RJ8 q.1 q.2.2.1
    | 5 => oiOK RJ8 q.1
    | 6 => mmOK RJ8 q.1
    | 7 => mnOK RJ8 q.1
    | 8 => acOK RJ8 q.1
    | 9 => uOK RJ8 q.1 q.2.2.1
    | 10 => suOK RJ8 q.1 q.2.2.1
    | 11 => swOK RJ8 q.1 q.2.2.1
    | _ => False) : Prop) := (fa_cons mpJ8_194 fa_nil)
def clPJ8 (q : Nat × (Nat ⊕ Nat)) : Prop := match q.2 with
  | .inl ci => (∀ n fs, newF ci = some (n, fs) → newOK RJ8 q.1 ci n fs) ∧ (ci = 4 → Jvm.Cond.classLink RJ8 q.1 RX0 ∈ lw_tbl)
  | .inr _ => True
theorem clpJ8 : ∀ q ∈ clJ8, clPJ8 q := fa_nil
theorem nlpJ8 : ∀ q ∈ nlJ8, Jvm.Cond.constant RJ8 q.1 q.2 ∈ lw_tbl := (fa_cons ((List.mem_append_right _ (List.mem_of_getElem? (i := 967) (by decide +kernel)))) fa_nil)
theorem cpokJ8 : cpOK RJ8 false cpJ8 := by
  refine ⟨fun k ci j ty fin h => flpJ8 _ (lkp_mem h), fun k v h => slpJ8 _ (lkp_mem h), fun k t y ci h => ?_, fun k ci h => clpJ8 _ (lkp_mem h), fun k v h => nlpJ8 _ (lkp_mem h)⟩
  exact mlpJ8 _ (lkp_mem h)
theorem cpokIJ8 : cpOK RJ8 true cpIJ8 := by
  refine ⟨fun k ci j ty fin h => fipJ8 _ (lkp_mem h), fun k v h => slpJ8 _ (lkp_mem h), fun k t y ci h => ?_, fun k ci h => clpJ8 _ (lkp_mem h), fun k v h => nlpJ8 _ (lkp_mem h)⟩
  exact mlpJ8 _ (lkp_mem h)
def flJ3 : List (Nat × (Nat × Nat × FieldType × Bool)) := []
def fiJ3 : List (Nat × (Nat × Nat × FieldType × Bool)) := []
def slJ3 : List (Nat × Value) := []
def mlJ3 : List (Nat × (Nat × m0T × Nat)) := []
def clJ3 : List (Nat × (Nat ⊕ Nat)) := []
def nlJ3 : List (Nat × Int32) := []
def cpJ3 : cpT := (lkp flJ3, lkp slJ3, lkp mlJ3, lkp clJ3, lkp nlJ3)
def cpIJ3 : cpT := (lkp fiJ3, lkp slJ3, lkp mlJ3, lkp clJ3, lkp nlJ3)
theorem fipJ3 : ∀ q ∈ fiJ3, fldOK RJ3 true q.1 q.2.1 q.2.2.1 q.2.2.2.1 q.2.2.2.2 := fa_nil
theorem flpJ3 : ∀ q ∈ flJ3, fldOK RJ3 false q.1 q.2.1 q.2.2.1 q.2.2.2.1 q.2.2.2.2 := fa_nil
theorem slpJ3 : ∀ q ∈ slJ3, stcOK RJ3 q.1 q.2 := fa_nil
theorem mlpJ3 : ∀ q ∈ mlJ3, ((match q.2.1 with
    | 0 => vOK RJ3 q.1 q.2.2.1 q.2.2.2
    | 1 => sOK RJ3 q.1 q.2.2.1
    | 2 => iOK RJ3 q.1 q.2.2.1
    | 3 => snOK RJ3 q.1 q.2.2.1
    | 4 => inOK RJ3 q.1 q.2.2.1
    | 5 => oiOK RJ3 q.1
    | 6 => mmOK RJ3 q.1
    | 7 => mnOK RJ3 q.1
    | 8 => acOK RJ3 q.1
    | 9 => uOK RJ3 q.1 q.2.2.1
    | 10 => suOK RJ3 q.1 q.2.2.1
    | 11 => swOK RJ3 q.1 q.2.2.1
    | _ => False) : Prop) := fa_nil
def clPJ3 (q : Nat × (Nat ⊕ Nat)) : Prop := match q.2 with
  | .inl ci => (∀ n fs, newF ci = some (n, fs) → newOK RJ3 q.1 ci n fs) ∧ (ci = 4 → Jvm.Cond.classLink RJ3 q.1 RX0 ∈ lw_tbl)
  | .inr _ => True
theorem clpJ3 : ∀ q ∈ clJ3, clPJ3 q := fa_nil
theorem nlpJ3 : ∀ q ∈ nlJ3, Jvm.Cond.constant RJ3 q.1 q.2 ∈ lw_tbl := fa_nil
theorem cpokJ3 : cpOK RJ3 false cpJ3 := by
  refine ⟨fun k ci j ty fin h => flpJ3 _ (lkp_mem h), fun k v h => slpJ3 _ (lkp_mem h), fun k t y ci h => ?_, fun k ci h => clpJ3 _ (lkp_mem h), fun k v h => nlpJ3 _ (lkp_mem h)⟩
  exact mlpJ3 _ (lkp_mem h)
theorem cpokIJ3 : cpOK RJ3 true cpIJ3 := by
  refine ⟨fun k ci j ty fin h => fipJ3 _ (lkp_mem h), fun k v h => slpJ3 _ (lkp_mem h), fun k t y ci h => ?_, fun k ci h => clpJ3 _ (lkp_mem h), fun k v h => nlpJ3 _ (lkp_mem h)⟩
  exact mlpJ3 _ (lkp_mem h)
