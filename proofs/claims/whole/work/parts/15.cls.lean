/-! ===== the classes of the worlds, and every method as its callers see it (by program) ===== -/
theorem clm1 : ∀ w ∈ u_ws RJ4 TJ4 4, w ∈ lw_tbl := (fa_cons (List.mem_append_right _ (List.mem_of_getElem? (i := 230) (by decide +kernel))) (fa_cons (List.mem_append_right _ (List.mem_of_getElem? (i := 232) (by decide +kernel))) (fa_cons (List.mem_append_right _ (List.mem_of_getElem? (i := 234) (by decide +kernel))) (fa_cons (List.mem_append_right _ (List.mem_of_getElem? (i := 236) (by decide +kernel))) fa_nil))))
theorem clOK1 : clOK 1 := by
  intro C T N h
  cases h
  exact ⟨fun w hw => List.mem_filter.mpr ⟨clm1 w hw, List.all_eq_true.mp (show (u_ws RJ4 TJ4 4).all goodWord = true by decide +kernel) w hw⟩, ⟨tyJ4, tyJ4_ok⟩, nmJ4⟩
theorem clm4 : ∀ w ∈ u_ws RX0 TX0 10, w ∈ lw_tbl := (fa_cons (List.mem_append_right _ (List.mem_of_getElem? (i := 91) (by decide +kernel))) (fa_cons (List.mem_append_right _ (List.mem_of_getElem? (i := 93) (by decide +kernel))) (fa_cons (List.mem_append_right _ (List.mem_of_getElem? (i := 95) (by decide +kernel))) (fa_cons (List.mem_append_right _ (List.mem_of_getElem? (i := 97) (by decide +kernel))) (fa_cons (List.mem_append_right _ (List.mem_of_getElem? (i := 99) (by decide +kernel))) (fa_cons (List.mem_append_right _ (List.mem_of_getElem? (i := 101) (by decide +kernel))) (fa_cons (List.mem_append_right _ (List.mem_of_getElem? (i := 103) (by decide +kernel))) (fa_cons (List.mem_append_right _ (List.mem_of_getElem? (i := 105) (by decide +kernel))) (fa_cons (List.mem_append_right _ (List.mem_of_getElem? (i := 107) (by decide +kernel))) (fa_cons (List.mem_append_right _ (List.mem_of_getElem? (i := 109) (by decide +kernel))) fa_nil))))))))))
theorem clOK4 : clOK 4 := by
  intro C T N h
  cases h
  exact ⟨fun w hw => List.mem_filter.mpr ⟨clm4 w hw, List.all_eq_true.mp (show (u_ws RX0 TX0 10).all goodWord = true by decide +kernel) w hw⟩, ⟨tyX0, tyX0_ok⟩, nmX0⟩
theorem clm5 : ∀ w ∈ u_ws RX1 TX1 1, w ∈ lw_tbl := (fa_cons (List.mem_append_right _ (List.mem_of_getElem? (i := 175) (by decide +kernel))) fa_nil)
theorem clOK5 : clOK 5 := by
  intro C T N h
  cases h
  exact ⟨fun w hw => List.mem_filter.mpr ⟨clm5 w hw, List.all_eq_true.mp (show (u_ws RX1 TX1 1).all goodWord = true by decide +kernel) w hw⟩, ⟨tyX1, tyX1_ok⟩, nmX1⟩
theorem clm6 : ∀ w ∈ u_ws RX2 TX2 3, w ∈ lw_tbl := (fa_cons (List.mem_append_right _ (List.mem_of_getElem? (i := 123) (by decide +kernel))) (fa_cons (List.mem_append_right _ (List.mem_of_getElem? (i := 125) (by decide +kernel))) (fa_cons (List.mem_append_right _ (List.mem_of_getElem? (i := 127) (by decide +kernel))) fa_nil)))
theorem clOK6 : clOK 6 := by
  intro C T N h
  cases h
  exact ⟨fun w hw => List.mem_filter.mpr ⟨clm6 w hw, List.all_eq_true.mp (show (u_ws RX2 TX2 3).all goodWord = true by decide +kernel) w hw⟩, ⟨tyX2, tyX2_ok⟩, nmX2⟩
theorem clm7 : ∀ w ∈ u_ws RX4 TX4 7, w ∈ lw_tbl := (fa_cons (List.mem_append_right _ (List.mem_of_getElem? (i := 192) (by decide +kernel))) (fa_cons (List.mem_append_right _ (List.mem_of_getElem? (i := 194) (by decide +kernel))) (fa_cons (List.mem_append_right _ (List.mem_of_getElem? (i := 196) (by decide +kernel))) (fa_cons (List.mem_append_right _ (List.mem_of_getElem? (i := 198) (by decide +kernel))) (fa_cons (List.mem_append_right _ (List.mem_of_getElem? (i := 200) (by decide +kernel))) (fa_cons (List.mem_append_right _ (List.mem_of_getElem? (i := 202) (by decide +kernel))) (fa_cons (List.mem_append_right _ (List.mem_of_getElem? (i := 204) (by decide +kernel))) fa_nil)))))))
theorem clOK7 : clOK 7 := by
  intro C T N h
  cases h
  exact ⟨fun w hw => List.mem_filter.mpr ⟨clm7 w hw, List.all_eq_true.mp (show (u_ws RX4 TX4 7).all goodWord = true by decide +kernel) w hw⟩, ⟨tyX4, tyX4_ok⟩, nmX4⟩
theorem clm8 : ∀ w ∈ u_ws RX5 TX5 2, w ∈ lw_tbl := (fa_cons (List.mem_append_right _ (List.mem_of_getElem? (i := 140) (by decide +kernel))) (fa_cons (List.mem_append_right _ (List.mem_of_getElem? (i := 142) (by decide +kernel))) fa_nil))
theorem clOK8 : clOK 8 := by
  intro C T N h
  cases h
  exact ⟨fun w hw => List.mem_filter.mpr ⟨clm8 w hw, List.all_eq_true.mp (show (u_ws RX5 TX5 2).all goodWord = true by decide +kernel) w hw⟩, ⟨tyX5, tyX5_ok⟩, nmX5⟩
theorem clm9 : ∀ w ∈ u_ws RX6 TX6 4, w ∈ lw_tbl := (fa_cons (List.mem_append_right _ (List.mem_of_getElem? (i := 62) (by decide +kernel))) (fa_cons (List.mem_append_right _ (List.mem_of_getElem? (i := 64) (by decide +kernel))) (fa_cons (List.mem_append_right _ (List.mem_of_getElem? (i := 66) (by decide +kernel))) (fa_cons (List.mem_append_right _ (List.mem_of_getElem? (i := 68) (by decide +kernel))) fa_nil))))
theorem clOK9 : clOK 9 := by
  intro C T N h
  cases h
  exact ⟨fun w hw => List.mem_filter.mpr ⟨clm9 w hw, List.all_eq_true.mp (show (u_ws RX6 TX6 4).all goodWord = true by decide +kernel) w hw⟩, ⟨tyX6, tyX6_ok⟩, nmX6⟩
theorem clm10 : ∀ w ∈ u_ws RX7 TX7 4, w ∈ lw_tbl := (fa_cons (List.mem_append_right _ (List.mem_of_getElem? (i := 158) (by decide +kernel))) (fa_cons (List.mem_append_right _ (List.mem_of_getElem? (i := 160) (by decide +kernel))) (fa_cons (List.mem_append_right _ (List.mem_of_getElem? (i := 162) (by decide +kernel))) (fa_cons (List.mem_append_right _ (List.mem_of_getElem? (i := 164) (by decide +kernel))) fa_nil))))
theorem clOK10 : clOK 10 := by
  intro C T N h
  cases h
  exact ⟨fun w hw => List.mem_filter.mpr ⟨clm10 w hw, List.all_eq_true.mp (show (u_ws RX7 TX7 4).all goodWord = true by decide +kernel) w hw⟩, ⟨tyX7, tyX7_ok⟩, nmX7⟩
theorem clm11 : ∀ w ∈ u_ws RX8 TX8 10, w ∈ lw_tbl := (fa_cons (List.mem_append_right _ (List.mem_of_getElem? (i := 250) (by decide +kernel))) (fa_cons (List.mem_append_right _ (List.mem_of_getElem? (i := 252) (by decide +kernel))) (fa_cons (List.mem_append_right _ (List.mem_of_getElem? (i := 254) (by decide +kernel))) (fa_cons (List.mem_append_right _ (List.mem_of_getElem? (i := 256) (by decide +kernel))) (fa_cons (List.mem_append_right _ (List.mem_of_getElem? (i := 258) (by decide +kernel))) (fa_cons (List.mem_append_right _ (List.mem_of_getElem? (i := 260) (by decide +kernel))) (fa_cons (List.mem_append_right _ (List.mem_of_getElem? (i := 262) (by decide +kernel))) (fa_cons (List.mem_append_right _ (List.mem_of_getElem? (i := 264) (by decide +kernel))) (fa_cons (List.mem_append_right _ (List.mem_of_getElem? (i := 266) (by decide +kernel))) (fa_cons (List.mem_append_right _ (List.mem_of_getElem? (i := 268) (by decide +kernel))) fa_nil))))))))))
theorem clOK11 : clOK 11 := by
  intro C T N h
  cases h
  exact ⟨fun w hw => List.mem_filter.mpr ⟨clm11 w hw, List.all_eq_true.mp (show (u_ws RX8 TX8 10).all goodWord = true by decide +kernel) w hw⟩, ⟨tyX8, tyX8_ok⟩, nmX8⟩
theorem clm12 : ∀ w ∈ u_ws RX9 TX9 19, w ∈ lw_tbl := (fa_cons (List.mem_append_right _ (List.mem_of_getElem? (i := 1459) (by decide +kernel))) (fa_cons (List.mem_append_right _ (List.mem_of_getElem? (i := 1461) (by decide +kernel))) (fa_cons (List.mem_append_right _ (List.mem_of_getElem? (i := 1463) (by decide +kernel))) (fa_cons (List.mem_append_right _ (List.mem_of_getElem? (i := 1465) (by decide +kernel))) (fa_cons (List.mem_append_right _ (List.mem_of_getElem? (i := 1467) (by decide +kernel))) (fa_cons (List.mem_append_right _ (List.mem_of_getElem? (i := 1469) (by decide +kernel))) (fa_cons (List.mem_append_right _ (List.mem_of_getElem? (i := 1471) (by decide +kernel))) (fa_cons (List.mem_append_right _ (List.mem_of_getElem? (i := 1473) (by decide +kernel))) (fa_cons (List.mem_append_right _ (List.mem_of_getElem? (i := 1475) (by decide +kernel))) (fa_cons (List.mem_append_right _ (List.mem_of_getElem? (i := 1477) (by decide +kernel))) (fa_cons (List.mem_append_right _ (List.mem_of_getElem? (i := 1479) (by decide +kernel))) (fa_cons (List.mem_append_right _ (List.mem_of_getElem? (i := 1481) (by decide +kernel))) (fa_cons (List.mem_append_right _ (List.mem_of_getElem? (i := 1483) (by decide +kernel))) (fa_cons (List.mem_append_right _ (List.mem_of_getElem? (i := 1485) (by decide +kernel))) (fa_cons (List.mem_append_right _ (List.mem_of_getElem? (i := 1487) (by decide +kernel))) (fa_cons (List.mem_append_right _ (List.mem_of_getElem? (i := 1489) (by decide +kernel))) (fa_cons (List.mem_append_right _ (List.mem_of_getElem? (i := 1491) (by decide +kernel))) (fa_cons (List.mem_append_right _ (List.mem_of_getElem? (i := 1493) (by decide +kernel))) (fa_cons (List.mem_append_right _ (List.mem_of_getElem? (i := 1495) (by decide +kernel))) fa_nil)))))))))))))))))))
theorem clOK12 : clOK 12 := by
  intro C T N h
  cases h
  exact ⟨fun w hw => List.mem_filter.mpr ⟨clm12 w hw, List.all_eq_true.mp (show (u_ws RX9 TX9 19).all goodWord = true by decide +kernel) w hw⟩, ⟨tyX9, tyX9_ok⟩, nmX9⟩
abbrev m_X0_init : m0T := (yX0_init, cX0_init, 1, none, [], 0)
theorem mo_X0_init : m0OK m_X0_init := ⟨(List.mem_append_right _ (List.mem_of_getElem? (i := 47) (by decide +kernel))), rfl, by decide, (List.mem_append_right _ (List.mem_of_getElem? (i := 2) (by decide +kernel))), ⟨by decide +kernel, by decide +kernel⟩, by decide +kernel⟩
abbrev m_X0_copyFrom : m0T := (yX0_copyFrom, cX0_copyFrom, 2, none, [], 1)
theorem mo_X0_copyFrom : m0OK m_X0_copyFrom := ⟨(List.mem_append_right _ (List.mem_of_getElem? (i := 405) (by decide +kernel))), rfl, by decide, (List.mem_append_right _ (List.mem_of_getElem? (i := 2) (by decide +kernel))), ⟨by decide +kernel, by decide +kernel⟩, by decide +kernel⟩
abbrev m_X0_burnCoal : m0T := (yX0_burnCoal, cX0_burnCoal, 2, none, [], 1)
theorem mo_X0_burnCoal : m0OK m_X0_burnCoal := ⟨(List.mem_append_right _ (List.mem_of_getElem? (i := 504) (by decide +kernel))), rfl, by decide, (List.mem_append_right _ (List.mem_of_getElem? (i := 2) (by decide +kernel))), ⟨by decide +kernel, by decide +kernel⟩, by decide +kernel⟩
abbrev m_X0_refusesPounds : m0T := (yX0_refusesPounds, cX0_refusesPounds, 3, (some (.boolean)), [], 2)
theorem mo_X0_refusesPounds : m0OK m_X0_refusesPounds := ⟨(List.mem_append_right _ (List.mem_of_getElem? (i := 518) (by decide +kernel))), rfl, by decide, (List.mem_append_right _ (List.mem_of_getElem? (i := 2) (by decide +kernel))), ⟨by decide +kernel, by decide +kernel⟩, by decide +kernel⟩
abbrev m_X0_bringBronze : m0T := (yX0_bringBronze, cX0_bringBronze, 2, none, [], 1)
theorem mo_X0_bringBronze : m0OK m_X0_bringBronze := ⟨(List.mem_append_right _ (List.mem_of_getElem? (i := 542) (by decide +kernel))), rfl, by decide, (List.mem_append_right _ (List.mem_of_getElem? (i := 2) (by decide +kernel))), ⟨by decide +kernel, by decide +kernel⟩, by decide +kernel⟩
abbrev m_X0_refusesMould : m0T := (yX0_refusesMould, cX0_refusesMould, 2, (some (.boolean)), [], 1)
theorem mo_X0_refusesMould : m0OK m_X0_refusesMould := ⟨(List.mem_append_right _ (List.mem_of_getElem? (i := 557) (by decide +kernel))), rfl, by decide, (List.mem_append_right _ (List.mem_of_getElem? (i := 2) (by decide +kernel))), ⟨by decide +kernel, by decide +kernel⟩, by decide +kernel⟩
abbrev m_X0_makeMould : m0T := (yX0_makeMould, cX0_makeMould, 4, (some (.int)), [], 2)
theorem mo_X0_makeMould : m0OK m_X0_makeMould := ⟨(List.mem_append_right _ (List.mem_of_getElem? (i := 562) (by decide +kernel))), rfl, by decide, (List.mem_append_right _ (List.mem_of_getElem? (i := 2) (by decide +kernel))), ⟨by decide +kernel, by decide +kernel⟩, by decide +kernel⟩
abbrev m_X0_refusesRack : m0T := (yX0_refusesRack, cX0_refusesRack, 2, (some (.boolean)), [], 1)
theorem mo_X0_refusesRack : m0OK m_X0_refusesRack := ⟨(List.mem_append_right _ (List.mem_of_getElem? (i := 645) (by decide +kernel))), rfl, by decide, (List.mem_append_right _ (List.mem_of_getElem? (i := 2) (by decide +kernel))), ⟨by decide +kernel, by decide +kernel⟩, by decide +kernel⟩
abbrev m_X0_setRack : m0T := (yX0_setRack, cX0_setRack, 3, (some (.int)), [], 1)
theorem mo_X0_setRack : m0OK m_X0_setRack := ⟨(List.mem_append_right _ (List.mem_of_getElem? (i := 650) (by decide +kernel))), rfl, by decide, (List.mem_append_right _ (List.mem_of_getElem? (i := 2) (by decide +kernel))), ⟨by decide +kernel, by decide +kernel⟩, by decide +kernel⟩
abbrev m_X0_refusesStrike : m0T := (yX0_refusesStrike, cX0_refusesStrike, 4, (some (.boolean)), [], 2)
theorem mo_X0_refusesStrike : m0OK m_X0_refusesStrike := ⟨(List.mem_append_right _ (List.mem_of_getElem? (i := 662) (by decide +kernel))), rfl, by decide, (List.mem_append_right _ (List.mem_of_getElem? (i := 2) (by decide +kernel))), ⟨by decide +kernel, by decide +kernel⟩, by decide +kernel⟩
abbrev m_X0_strikeRack : m0T := (yX0_strikeRack, cX0_strikeRack, 3, none, [], 1)
theorem mo_X0_strikeRack : m0OK m_X0_strikeRack := ⟨(List.mem_append_right _ (List.mem_of_getElem? (i := 667) (by decide +kernel))), rfl, by decide, (List.mem_append_right _ (List.mem_of_getElem? (i := 2) (by decide +kernel))), ⟨by decide +kernel, by decide +kernel⟩, by decide +kernel⟩
abbrev m_X0_bellsOn : m0T := (yX0_bellsOn, cX0_bellsOn, 2, (some (.int)), [], 1)
theorem mo_X0_bellsOn : m0OK m_X0_bellsOn := ⟨(List.mem_append_right _ (List.mem_of_getElem? (i := 392) (by decide +kernel))), rfl, by decide, (List.mem_append_right _ (List.mem_of_getElem? (i := 2) (by decide +kernel))), ⟨by decide +kernel, by decide +kernel⟩, by decide +kernel⟩
abbrev m_X0_lossOn : m0T := (yX0_lossOn, cX0_lossOn, 2, (some (.int)), [], 1)
theorem mo_X0_lossOn : m0OK m_X0_lossOn := ⟨(List.mem_append_right _ (List.mem_of_getElem? (i := 685) (by decide +kernel))), rfl, by decide, (List.mem_append_right _ (List.mem_of_getElem? (i := 2) (by decide +kernel))), ⟨by decide +kernel, by decide +kernel⟩, by decide +kernel⟩
abbrev m_X0_hasBoth : m0T := (yX0_hasBoth, cX0_hasBoth, 3, (some (.boolean)), [], 2)
theorem mo_X0_hasBoth : m0OK m_X0_hasBoth := ⟨(List.mem_append_right _ (List.mem_of_getElem? (i := 697) (by decide +kernel))), rfl, by decide, (List.mem_append_right _ (List.mem_of_getElem? (i := 2) (by decide +kernel))), ⟨by decide +kernel, by decide +kernel⟩, by decide +kernel⟩
abbrev m_X0_refusesPour : m0T := (yX0_refusesPour, cX0_refusesPour, 5, (some (.boolean)), [], 3)
theorem mo_X0_refusesPour : m0OK m_X0_refusesPour := ⟨(List.mem_append_right _ (List.mem_of_getElem? (i := 703) (by decide +kernel))), rfl, by decide, (List.mem_append_right _ (List.mem_of_getElem? (i := 2) (by decide +kernel))), ⟨by decide +kernel, by decide +kernel⟩, by decide +kernel⟩
abbrev m_X0_pourMould : m0T := (yX0_pourMould, cX0_pourMould, 5, (some (.int)), [], 2)
theorem mo_X0_pourMould : m0OK m_X0_pourMould := ⟨(List.mem_append_right _ (List.mem_of_getElem? (i := 710) (by decide +kernel))), rfl, by decide, (List.mem_append_right _ (List.mem_of_getElem? (i := 2) (by decide +kernel))), ⟨by decide +kernel, by decide +kernel⟩, by decide +kernel⟩
abbrev m_X0_letHoursGoBy : m0T := (yX0_letHoursGoBy, cX0_letHoursGoBy, 6, (some (.int)), [], 1)
theorem mo_X0_letHoursGoBy : m0OK m_X0_letHoursGoBy := ⟨(List.mem_append_right _ (List.mem_of_getElem? (i := 723) (by decide +kernel))), rfl, by decide, (List.mem_append_right _ (List.mem_of_getElem? (i := 2) (by decide +kernel))), ⟨by decide +kernel, by decide +kernel⟩, by decide +kernel⟩
abbrev m_X0_lossOf : m0T := (yX0_lossOf, cX0_lossOf, 3, (some (.int)), [], 1)
theorem mo_X0_lossOf : m0OK m_X0_lossOf := ⟨(List.mem_append_right _ (List.mem_of_getElem? (i := 728) (by decide +kernel))), rfl, by decide, (List.mem_append_right _ (List.mem_of_getElem? (i := 2) (by decide +kernel))), ⟨by decide +kernel, by decide +kernel⟩, by decide +kernel⟩
abbrev m_X0_cracksToCome : m0T := (yX0_cracksToCome, cX0_cracksToCome, 5, (some (.int)), [], 3)
theorem mo_X0_cracksToCome : m0OK m_X0_cracksToCome := ⟨(List.mem_append_right _ (List.mem_of_getElem? (i := 733) (by decide +kernel))), rfl, by decide, (List.mem_append_right _ (List.mem_of_getElem? (i := 2) (by decide +kernel))), ⟨by decide +kernel, by decide +kernel⟩, by decide +kernel⟩
abbrev m_X0_warmHours : m0T := (yX0_warmHours, cX0_warmHours, 2, (some (.int)), [], 2)
theorem mo_X0_warmHours : m0OK m_X0_warmHours := ⟨(List.mem_append_right _ (List.mem_of_getElem? (i := 736) (by decide +kernel))), rfl, by decide, (List.mem_append_right _ (List.mem_of_getElem? (i := 2) (by decide +kernel))), ⟨by decide +kernel, by decide +kernel⟩, by decide +kernel⟩
abbrev m_X0_cracksAfter : m0T := (yX0_cracksAfter, cX0_cracksAfter, 3, (some (.int)), [], 2)
theorem mo_X0_cracksAfter : m0OK m_X0_cracksAfter := ⟨(List.mem_append_right _ (List.mem_of_getElem? (i := 840) (by decide +kernel))), rfl, by decide, (List.mem_append_right _ (List.mem_of_getElem? (i := 2) (by decide +kernel))), ⟨by decide +kernel, by decide +kernel⟩, by decide +kernel⟩
abbrev m_X0_hoursUntilCold : m0T := (yX0_hoursUntilCold, cX0_hoursUntilCold, 2, (some (.int)), [], 1)
theorem mo_X0_hoursUntilCold : m0OK m_X0_hoursUntilCold := ⟨(List.mem_append_right _ (List.mem_of_getElem? (i := 851) (by decide +kernel))), rfl, by decide, (List.mem_append_right _ (List.mem_of_getElem? (i := 2) (by decide +kernel))), ⟨by decide +kernel, by decide +kernel⟩, by decide +kernel⟩
abbrev m_X0_addCracks : m0T := (yX0_addCracks, cX0_addCracks, 3, none, [], 2)
theorem mo_X0_addCracks : m0OK m_X0_addCracks := ⟨(List.mem_append_right _ (List.mem_of_getElem? (i := 740) (by decide +kernel))), rfl, by decide, (List.mem_append_right _ (List.mem_of_getElem? (i := 2) (by decide +kernel))), ⟨by decide +kernel, by decide +kernel⟩, by decide +kernel⟩
abbrev m_X0_refusesTake : m0T := (yX0_refusesTake, cX0_refusesTake, 4, (some (.boolean)), [], 2)
theorem mo_X0_refusesTake : m0OK m_X0_refusesTake := ⟨(List.mem_append_right _ (List.mem_of_getElem? (i := 752) (by decide +kernel))), rfl, by decide, (List.mem_append_right _ (List.mem_of_getElem? (i := 2) (by decide +kernel))), ⟨by decide +kernel, by decide +kernel⟩, by decide +kernel⟩
abbrev m_X0_takeBell : m0T := (yX0_takeBell, cX0_takeBell, 3, (some (.int)), [], 1)
theorem mo_X0_takeBell : m0OK m_X0_takeBell := ⟨(List.mem_append_right _ (List.mem_of_getElem? (i := 757) (by decide +kernel))), rfl, by decide, (List.mem_append_right _ (List.mem_of_getElem? (i := 2) (by decide +kernel))), ⟨by decide +kernel, by decide +kernel⟩, by decide +kernel⟩
abbrev m_X0_refusesOutsideHall : m0T := (yX0_refusesOutsideHall, cX0_refusesOutsideHall, 4, (some (.boolean)), [], 2)
theorem mo_X0_refusesOutsideHall : m0OK m_X0_refusesOutsideHall := ⟨(List.mem_append_right _ (List.mem_of_getElem? (i := 768) (by decide +kernel))), rfl, by decide, (List.mem_append_right _ (List.mem_of_getElem? (i := 2) (by decide +kernel))), ⟨by decide +kernel, by decide +kernel⟩, by decide +kernel⟩
abbrev m_X0_ringBell : m0T := (yX0_ringBell, cX0_ringBell, 4, (some (.int)), [], 1)
theorem mo_X0_ringBell : m0OK m_X0_ringBell := ⟨(List.mem_append_right _ (List.mem_of_getElem? (i := 773) (by decide +kernel))), rfl, by decide, (List.mem_append_right _ (List.mem_of_getElem? (i := 2) (by decide +kernel))), ⟨by decide +kernel, by decide +kernel⟩, by decide +kernel⟩
abbrev m_X0_refusesFile : m0T := (yX0_refusesFile, cX0_refusesFile, 5, (some (.boolean)), [], 3)
theorem mo_X0_refusesFile : m0OK m_X0_refusesFile := ⟨(List.mem_append_right _ (List.mem_of_getElem? (i := 785) (by decide +kernel))), rfl, by decide, (List.mem_append_right _ (List.mem_of_getElem? (i := 2) (by decide +kernel))), ⟨by decide +kernel, by decide +kernel⟩, by decide +kernel⟩
abbrev m_X0_addMarks : m0T := (yX0_addMarks, cX0_addMarks, 3, none, [], 2)
theorem mo_X0_addMarks : m0OK m_X0_addMarks := ⟨(List.mem_append_right _ (List.mem_of_getElem? (i := 791) (by decide +kernel))), rfl, by decide, (List.mem_append_right _ (List.mem_of_getElem? (i := 2) (by decide +kernel))), ⟨by decide +kernel, by decide +kernel⟩, by decide +kernel⟩
abbrev m_X0_backByRecast : m0T := (yX0_backByRecast, cX0_backByRecast, 3, (some (.int)), [], 1)
theorem mo_X0_backByRecast : m0OK m_X0_backByRecast := ⟨(List.mem_append_right _ (List.mem_of_getElem? (i := 807) (by decide +kernel))), rfl, by decide, (List.mem_append_right _ (List.mem_of_getElem? (i := 2) (by decide +kernel))), ⟨by decide +kernel, by decide +kernel⟩, by decide +kernel⟩
abbrev m_X0_refusesRecast : m0T := (yX0_refusesRecast, cX0_refusesRecast, 3, (some (.boolean)), [], 2)
theorem mo_X0_refusesRecast : m0OK m_X0_refusesRecast := ⟨(List.mem_append_right _ (List.mem_of_getElem? (i := 803) (by decide +kernel))), rfl, by decide, (List.mem_append_right _ (List.mem_of_getElem? (i := 2) (by decide +kernel))), ⟨by decide +kernel, by decide +kernel⟩, by decide +kernel⟩
abbrev m_X0_recastBell : m0T := (yX0_recastBell, cX0_recastBell, 3, (some (.int)), [], 1)
theorem mo_X0_recastBell : m0OK m_X0_recastBell := ⟨(List.mem_append_right _ (List.mem_of_getElem? (i := 813) (by decide +kernel))), rfl, by decide, (List.mem_append_right _ (List.mem_of_getElem? (i := 2) (by decide +kernel))), ⟨by decide +kernel, by decide +kernel⟩, by decide +kernel⟩
abbrev m_X0_noteOf : m0T := (yX0_noteOf, cX0_noteOf, 2, (some (.int)), [], 1)
theorem mo_X0_noteOf : m0OK m_X0_noteOf := ⟨(List.mem_append_right _ (List.mem_of_getElem? (i := 345) (by decide +kernel))), rfl, by decide, (List.mem_append_right _ (List.mem_of_getElem? (i := 2) (by decide +kernel))), ⟨by decide +kernel, by decide +kernel⟩, by decide +kernel⟩
abbrev m_X0_sumOfNotes : m0T := (yX0_sumOfNotes, cX0_sumOfNotes, 3, (some (.int)), [], 0)
theorem mo_X0_sumOfNotes : m0OK m_X0_sumOfNotes := ⟨(List.mem_append_right _ (List.mem_of_getElem? (i := 1401) (by decide +kernel))), rfl, by decide, (List.mem_append_right _ (List.mem_of_getElem? (i := 2) (by decide +kernel))), ⟨by decide +kernel, by decide +kernel⟩, by decide +kernel⟩
abbrev m_X0_bellAtPlace : m0T := (yX0_bellAtPlace, cX0_bellAtPlace, 3, (some (.int)), [], 1)
theorem mo_X0_bellAtPlace : m0OK m_X0_bellAtPlace := ⟨(List.mem_append_right _ (List.mem_of_getElem? (i := 900) (by decide +kernel))), rfl, by decide, (List.mem_append_right _ (List.mem_of_getElem? (i := 2) (by decide +kernel))), ⟨by decide +kernel, by decide +kernel⟩, by decide +kernel⟩
abbrev m_X0_bellsAheadOf : m0T := (yX0_bellsAheadOf, cX0_bellsAheadOf, 5, (some (.int)), [], 1)
theorem mo_X0_bellsAheadOf : m0OK m_X0_bellsAheadOf := ⟨(List.mem_append_right _ (List.mem_of_getElem? (i := 904) (by decide +kernel))), rfl, by decide, (List.mem_append_right _ (List.mem_of_getElem? (i := 2) (by decide +kernel))), ⟨by decide +kernel, by decide +kernel⟩, by decide +kernel⟩
abbrev m_X0_pealBellByBell : m0T := (yX0_pealBellByBell, cX0_pealBellByBell, 3, (some (.int)), [], 1)
theorem mo_X0_pealBellByBell : m0OK m_X0_pealBellByBell := ⟨(List.mem_append_right _ (List.mem_of_getElem? (i := 370) (by decide +kernel))), rfl, by decide, (List.mem_append_right _ (List.mem_of_getElem? (i := 2) (by decide +kernel))), ⟨by decide +kernel, by decide +kernel⟩, by decide +kernel⟩
abbrev m_X0_isHeard : m0T := (yX0_isHeard, cX0_isHeard, 3, (some (.boolean)), [], 1)
theorem mo_X0_isHeard : m0OK m_X0_isHeard := ⟨(List.mem_append_right _ (List.mem_of_getElem? (i := 375) (by decide +kernel))), rfl, by decide, (List.mem_append_right _ (List.mem_of_getElem? (i := 2) (by decide +kernel))), ⟨by decide +kernel, by decide +kernel⟩, by decide +kernel⟩
abbrev m_X0_accountOf : m0T := (yX0_accountOf, cX0_accountOf, 2, (some (.int)), [], 1)
theorem mo_X0_accountOf : m0OK m_X0_accountOf := ⟨(List.mem_append_right _ (List.mem_of_getElem? (i := 1369) (by decide +kernel))), rfl, by decide, (List.mem_append_right _ (List.mem_of_getElem? (i := 2) (by decide +kernel))), ⟨by decide +kernel, by decide +kernel⟩, by decide +kernel⟩
abbrev m_X0_soundInHall : m0T := (yX0_soundInHall, cX0_soundInHall, 3, (some (.int)), [], 0)
theorem mo_X0_soundInHall : m0OK m_X0_soundInHall := ⟨(List.mem_append_right _ (List.mem_of_getElem? (i := 1373) (by decide +kernel))), rfl, by decide, (List.mem_append_right _ (List.mem_of_getElem? (i := 2) (by decide +kernel))), ⟨by decide +kernel, by decide +kernel⟩, by decide +kernel⟩
abbrev m_X0_areNotesAlike : m0T := (yX0_areNotesAlike, cX0_areNotesAlike, 2, (some (.boolean)), [], 0)
theorem mo_X0_areNotesAlike : m0OK m_X0_areNotesAlike := ⟨(List.mem_append_right _ (List.mem_of_getElem? (i := 340) (by decide +kernel))), rfl, by decide, (List.mem_append_right _ (List.mem_of_getElem? (i := 2) (by decide +kernel))), ⟨by decide +kernel, by decide +kernel⟩, by decide +kernel⟩
abbrev m_X0_doesBronzeAddUp : m0T := (yX0_doesBronzeAddUp, cX0_doesBronzeAddUp, 1, (some (.boolean)), [], 0)
theorem mo_X0_doesBronzeAddUp : m0OK m_X0_doesBronzeAddUp := ⟨(List.mem_append_right _ (List.mem_of_getElem? (i := 379) (by decide +kernel))), rfl, by decide, (List.mem_append_right _ (List.mem_of_getElem? (i := 2) (by decide +kernel))), ⟨by decide +kernel, by decide +kernel⟩, by decide +kernel⟩
abbrev m_X0_hasRoomOnRacks : m0T := (yX0_hasRoomOnRacks, cX0_hasRoomOnRacks, 2, (some (.boolean)), [], 0)
theorem mo_X0_hasRoomOnRacks : m0OK m_X0_hasRoomOnRacks := ⟨(List.mem_append_right _ (List.mem_of_getElem? (i := 388) (by decide +kernel))), rfl, by decide, (List.mem_append_right _ (List.mem_of_getElem? (i := 2) (by decide +kernel))), ⟨by decide +kernel, by decide +kernel⟩, by decide +kernel⟩
abbrev m_X1_init : m0T := (yX1_init, cX1_init, 1, none, [], 0)
theorem mo_X1_init : m0OK m_X1_init := ⟨(List.mem_append_right _ (List.mem_of_getElem? (i := 172) (by decide +kernel))), rfl, by decide, (List.mem_append_right _ (List.mem_of_getElem? (i := 8) (by decide +kernel))), ⟨by decide +kernel, by decide +kernel⟩, by decide +kernel⟩
abbrev m_X1_gather : m0T := (yX1_gather, cX1_gather, 4, none, [], 1)
theorem mo_X1_gather : m0OK m_X1_gather := ⟨(List.mem_append_right _ (List.mem_of_getElem? (i := 357) (by decide +kernel))), rfl, by decide, (List.mem_append_right _ (List.mem_of_getElem? (i := 8) (by decide +kernel))), ⟨by decide +kernel, by decide +kernel⟩, by decide +kernel⟩
abbrev m_X1_pealFrom : m0T := (yX1_pealFrom, cX1_pealFrom, 4, (some (.int)), [], 1)
theorem mo_X1_pealFrom : m0OK m_X1_pealFrom := ⟨(List.mem_append_right _ (List.mem_of_getElem? (i := 364) (by decide +kernel))), rfl, by decide, (List.mem_append_right _ (List.mem_of_getElem? (i := 8) (by decide +kernel))), ⟨by decide +kernel, by decide +kernel⟩, by decide +kernel⟩
abbrev m_X1_startOfLongest : m0T := (yX1_startOfLongest, cX1_startOfLongest, 3, (some (.int)), [], 0)
theorem mo_X1_startOfLongest : m0OK m_X1_startOfLongest := ⟨(List.mem_append_right _ (List.mem_of_getElem? (i := 887) (by decide +kernel))), rfl, by decide, (List.mem_append_right _ (List.mem_of_getElem? (i := 8) (by decide +kernel))), ⟨by decide +kernel, by decide +kernel⟩, by decide +kernel⟩
abbrev m_X2_init : m0T := (yX2_init, cX2_init, 1, none, [], 0)
theorem mo_X2_init : m0OK m_X2_init := ⟨(List.mem_append_right _ (List.mem_of_getElem? (i := 116) (by decide +kernel))), rfl, by decide, (List.mem_append_right _ (List.mem_of_getElem? (i := 5) (by decide +kernel))), ⟨by decide +kernel, by decide +kernel⟩, by decide +kernel⟩
abbrev m_X2_size : m0T := (yX2_size, cX2_size, 1, (some (.int)), [], 0)
theorem mo_X2_size : m0OK m_X2_size := ⟨(List.mem_append_right _ (List.mem_of_getElem? (i := 1365) (by decide +kernel))), rfl, by decide, (List.mem_append_right _ (List.mem_of_getElem? (i := 5) (by decide +kernel))), ⟨by decide +kernel, by decide +kernel⟩, by decide +kernel⟩
abbrev m_X2_remember : m0T := (yX2_remember, cX2_remember, 3, none, [], 1)
theorem mo_X2_remember : m0OK m_X2_remember := ⟨(List.mem_append_right _ (List.mem_of_getElem? (i := 497) (by decide +kernel))), rfl, by decide, (List.mem_append_right _ (List.mem_of_getElem? (i := 5) (by decide +kernel))), ⟨by decide +kernel, by decide +kernel⟩, by decide +kernel⟩
abbrev m_X2_goBack : m0T := (yX2_goBack, cX2_goBack, 3, none, [], 1)
theorem mo_X2_goBack : m0OK m_X2_goBack := ⟨(List.mem_append_right _ (List.mem_of_getElem? (i := 1421) (by decide +kernel))), rfl, by decide, (List.mem_append_right _ (List.mem_of_getElem? (i := 5) (by decide +kernel))), ⟨by decide +kernel, by decide +kernel⟩, by decide +kernel⟩
abbrev m_X2_forget : m0T := (yX2_forget, cX2_forget, 1, none, [], 0)
theorem mo_X2_forget : m0OK m_X2_forget := ⟨(List.mem_append_right _ (List.mem_of_getElem? (i := 1433) (by decide +kernel))), rfl, by decide, (List.mem_append_right _ (List.mem_of_getElem? (i := 5) (by decide +kernel))), ⟨by decide +kernel, by decide +kernel⟩, by decide +kernel⟩
abbrev m_X4_init : m0T := (yX4_init, cX4_init, 1, none, [], 0)
theorem mo_X4_init : m0OK m_X4_init := ⟨(List.mem_append_right _ (List.mem_of_getElem? (i := 183) (by decide +kernel))), rfl, by decide, (List.mem_append_right _ (List.mem_of_getElem? (i := 9) (by decide +kernel))), ⟨by decide +kernel, by decide +kernel⟩, by decide +kernel⟩
abbrev m_X4_lookAt : m0T := (yX4_lookAt, cX4_lookAt, 3, none, [], 1)
theorem mo_X4_lookAt : m0OK m_X4_lookAt := ⟨(List.mem_append_right _ (List.mem_of_getElem? (i := 278) (by decide +kernel))), rfl, by decide, (List.mem_append_right _ (List.mem_of_getElem? (i := 9) (by decide +kernel))), ⟨by decide +kernel, by decide +kernel⟩, by decide +kernel⟩
abbrev m_X4_isEnough : m0T := (yX4_isEnough, cX4_isEnough, 3, (some (.boolean)), [], 3)
theorem mo_X4_isEnough : m0OK m_X4_isEnough := ⟨(List.mem_append_right _ (List.mem_of_getElem? (i := 316) (by decide +kernel))), rfl, by decide, (List.mem_append_right _ (List.mem_of_getElem? (i := 9) (by decide +kernel))), ⟨by decide +kernel, by decide +kernel⟩, by decide +kernel⟩
abbrev m_X4_hottest : m0T := (yX4_hottest, cX4_hottest, 8, (some (.int)), [], 0)
theorem mo_X4_hottest : m0OK m_X4_hottest := ⟨(List.mem_append_right _ (List.mem_of_getElem? (i := 324) (by decide +kernel))), rfl, by decide, (List.mem_append_right _ (List.mem_of_getElem? (i := 9) (by decide +kernel))), ⟨by decide +kernel, by decide +kernel⟩, by decide +kernel⟩
abbrev m_X4_hottestBut : m0T := (yX4_hottestBut, cX4_hottestBut, 5, (some (.int)), [], 1)
theorem mo_X4_hottestBut : m0OK m_X4_hottestBut := ⟨(List.mem_append_right _ (List.mem_of_getElem? (i := 328) (by decide +kernel))), rfl, by decide, (List.mem_append_right _ (List.mem_of_getElem? (i := 9) (by decide +kernel))), ⟨by decide +kernel, by decide +kernel⟩, by decide +kernel⟩
abbrev m_X4_best : m0T := (yX4_best, cX4_best, 1, (some (.int)), [], 0)
theorem mo_X4_best : m0OK m_X4_best := ⟨(List.mem_append_right _ (List.mem_of_getElem? (i := 293) (by decide +kernel))), rfl, by decide, (List.mem_append_right _ (List.mem_of_getElem? (i := 9) (by decide +kernel))), ⟨by decide +kernel, by decide +kernel⟩, by decide +kernel⟩
abbrev m_X4_firstOfBest : m0T := (yX4_firstOfBest, cX4_firstOfBest, 3, (some (.int)), [], 0)
theorem mo_X4_firstOfBest : m0OK m_X4_firstOfBest := ⟨(List.mem_append_right _ (List.mem_of_getElem? (i := 915) (by decide +kernel))), rfl, by decide, (List.mem_append_right _ (List.mem_of_getElem? (i := 9) (by decide +kernel))), ⟨by decide +kernel, by decide +kernel⟩, by decide +kernel⟩
abbrev m_X4_weighWhatIsLeft : m0T := (yX4_weighWhatIsLeft, cX4_weighWhatIsLeft, 4, none, [], 0)
theorem mo_X4_weighWhatIsLeft : m0OK m_X4_weighWhatIsLeft := ⟨(List.mem_append_right _ (List.mem_of_getElem? (i := 297) (by decide +kernel))), rfl, by decide, (List.mem_append_right _ (List.mem_of_getElem? (i := 9) (by decide +kernel))), ⟨by decide +kernel, by decide +kernel⟩, by decide +kernel⟩
abbrev m_X4_countBehind : m0T := (yX4_countBehind, cX4_countBehind, 4, none, [], 0)
theorem mo_X4_countBehind : m0OK m_X4_countBehind := ⟨(List.mem_append_right _ (List.mem_of_getElem? (i := 309) (by decide +kernel))), rfl, by decide, (List.mem_append_right _ (List.mem_of_getElem? (i := 9) (by decide +kernel))), ⟨by decide +kernel, by decide +kernel⟩, by decide +kernel⟩
abbrev m_X4_pouredWithNext : m0T := (yX4_pouredWithNext, cX4_pouredWithNext, 4, (some (.int)), [], 2)
theorem mo_X4_pouredWithNext : m0OK m_X4_pouredWithNext := ⟨(List.mem_append_right _ (List.mem_of_getElem? (i := 313) (by decide +kernel))), rfl, by decide, (List.mem_append_right _ (List.mem_of_getElem? (i := 9) (by decide +kernel))), ⟨by decide +kernel, by decide +kernel⟩, by decide +kernel⟩
abbrev m_X5_init : m0T := (yX5_init, cX5_init, 1, none, [], 0)
theorem mo_X5_init : m0OK m_X5_init := ⟨(List.mem_append_right _ (List.mem_of_getElem? (i := 134) (by decide +kernel))), rfl, by decide, (List.mem_append_right _ (List.mem_of_getElem? (i := 6) (by decide +kernel))), ⟨by decide +kernel, by decide +kernel⟩, by decide +kernel⟩
abbrev m_X5_keep : m0T := (yX5_keep, cX5_keep, 3, (some (.boolean)), [], 2)
theorem mo_X5_keep : m0OK m_X5_keep := ⟨(List.mem_append_right _ (List.mem_of_getElem? (i := 522) (by decide +kernel))), rfl, by decide, (List.mem_append_right _ (List.mem_of_getElem? (i := 6) (by decide +kernel))), ⟨by decide +kernel, by decide +kernel⟩, by decide +kernel⟩
abbrev m_X6_init : m0T := (yX6_init, cX6_init, 3, none, [], 2)
theorem mo_X6_init : m0OK m_X6_init := ⟨(List.mem_append_right _ (List.mem_of_getElem? (i := 53) (by decide +kernel))), rfl, by decide, (List.mem_append_right _ (List.mem_of_getElem? (i := 3) (by decide +kernel))), ⟨by decide +kernel, by decide +kernel⟩, by decide +kernel⟩
abbrev m_X6_size : m0T := (yX6_size, cX6_size, 1, (some (.int)), [], 0)
theorem mo_X6_size : m0OK m_X6_size := ⟨(List.mem_append_right _ (List.mem_of_getElem? (i := 282) (by decide +kernel))), rfl, by decide, (List.mem_append_right _ (List.mem_of_getElem? (i := 3) (by decide +kernel))), ⟨by decide +kernel, by decide +kernel⟩, by decide +kernel⟩
abbrev m_X6_has : m0T := (yX6_has, cX6_has, 2, (some (.boolean)), [], 1)
theorem mo_X6_has : m0OK m_X6_has := ⟨(List.mem_append_right _ (List.mem_of_getElem? (i := 605) (by decide +kernel))), rfl, by decide, (List.mem_append_right _ (List.mem_of_getElem? (i := 3) (by decide +kernel))), ⟨by decide +kernel, by decide +kernel⟩, by decide +kernel⟩
abbrev m_X6_get : m0T := (yX6_get, cX6_get, 3, (some (.int)), [], 2)
theorem mo_X6_get : m0OK m_X6_get := ⟨(List.mem_append_right _ (List.mem_of_getElem? (i := 289) (by decide +kernel))), rfl, by decide, (List.mem_append_right _ (List.mem_of_getElem? (i := 3) (by decide +kernel))), ⟨by decide +kernel, by decide +kernel⟩, by decide +kernel⟩
abbrev m_X6_put : m0T := (yX6_put, cX6_put, 4, none, [], 3)
theorem mo_X6_put : m0OK m_X6_put := ⟨(List.mem_append_right _ (List.mem_of_getElem? (i := 570) (by decide +kernel))), rfl, by decide, (List.mem_append_right _ (List.mem_of_getElem? (i := 3) (by decide +kernel))), ⟨by decide +kernel, by decide +kernel⟩, by decide +kernel⟩
abbrev m_X6_raise : m0T := (yX6_raise, cX6_raise, 4, none, [], 3)
theorem mo_X6_raise : m0OK m_X6_raise := ⟨(List.mem_append_right _ (List.mem_of_getElem? (i := 672) (by decide +kernel))), rfl, by decide, (List.mem_append_right _ (List.mem_of_getElem? (i := 3) (by decide +kernel))), ⟨by decide +kernel, by decide +kernel⟩, by decide +kernel⟩
abbrev m_X6_add : m0T := (yX6_add, cX6_add, 2, (some (.int)), [], 0)
theorem mo_X6_add : m0OK m_X6_add := ⟨(List.mem_append_right _ (List.mem_of_getElem? (i := 566) (by decide +kernel))), rfl, by decide, (List.mem_append_right _ (List.mem_of_getElem? (i := 3) (by decide +kernel))), ⟨by decide +kernel, by decide +kernel⟩, by decide +kernel⟩
abbrev m_X6_drop : m0T := (yX6_drop, cX6_drop, 3, none, [], 1)
theorem mo_X6_drop : m0OK m_X6_drop := ⟨(List.mem_append_right _ (List.mem_of_getElem? (i := 622) (by decide +kernel))), rfl, by decide, (List.mem_append_right _ (List.mem_of_getElem? (i := 3) (by decide +kernel))), ⟨by decide +kernel, by decide +kernel⟩, by decide +kernel⟩
abbrev m_X6_clear : m0T := (yX6_clear, cX6_clear, 1, none, [], 0)
theorem mo_X6_clear : m0OK m_X6_clear := ⟨(List.mem_append_right _ (List.mem_of_getElem? (i := 1286) (by decide +kernel))), rfl, by decide, (List.mem_append_right _ (List.mem_of_getElem? (i := 3) (by decide +kernel))), ⟨by decide +kernel, by decide +kernel⟩, by decide +kernel⟩
abbrev m_X6_sumOf : m0T := (yX6_sumOf, cX6_sumOf, 4, (some (.int)), [], 1)
theorem mo_X6_sumOf : m0OK m_X6_sumOf := ⟨(List.mem_append_right _ (List.mem_of_getElem? (i := 383) (by decide +kernel))), rfl, by decide, (List.mem_append_right _ (List.mem_of_getElem? (i := 3) (by decide +kernel))), ⟨by decide +kernel, by decide +kernel⟩, by decide +kernel⟩
abbrev m_X6_countOf : m0T := (yX6_countOf, cX6_countOf, 5, (some (.int)), [], 2)
theorem mo_X6_countOf : m0OK m_X6_countOf := ⟨(List.mem_append_right _ (List.mem_of_getElem? (i := 396) (by decide +kernel))), rfl, by decide, (List.mem_append_right _ (List.mem_of_getElem? (i := 3) (by decide +kernel))), ⟨by decide +kernel, by decide +kernel⟩, by decide +kernel⟩
abbrev m_X6_copyFrom : m0T := (yX6_copyFrom, cX6_copyFrom, 3, none, [], 1)
theorem mo_X6_copyFrom : m0OK m_X6_copyFrom := ⟨(List.mem_append_right _ (List.mem_of_getElem? (i := 409) (by decide +kernel))), rfl, by decide, (List.mem_append_right _ (List.mem_of_getElem? (i := 3) (by decide +kernel))), ⟨by decide +kernel, by decide +kernel⟩, by decide +kernel⟩
abbrev m_X7_init : m0T := (yX7_init, cX7_init, 1, none, [], 0)
theorem mo_X7_init : m0OK m_X7_init := ⟨(List.mem_append_right _ (List.mem_of_getElem? (i := 149) (by decide +kernel))), rfl, by decide, (List.mem_append_right _ (List.mem_of_getElem? (i := 7) (by decide +kernel))), ⟨by decide +kernel, by decide +kernel⟩, by decide +kernel⟩
abbrev m_X7_size : m0T := (yX7_size, cX7_size, 1, (some (.int)), [], 0)
theorem mo_X7_size : m0OK m_X7_size := ⟨(List.mem_append_right _ (List.mem_of_getElem? (i := 1271) (by decide +kernel))), rfl, by decide, (List.mem_append_right _ (List.mem_of_getElem? (i := 7) (by decide +kernel))), ⟨by decide +kernel, by decide +kernel⟩, by decide +kernel⟩
abbrev m_X7_isFull : m0T := (yX7_isFull, cX7_isFull, 1, (some (.boolean)), [], 0)
theorem mo_X7_isFull : m0OK m_X7_isFull := ⟨(List.mem_append_right _ (List.mem_of_getElem? (i := 1246) (by decide +kernel))), rfl, by decide, (List.mem_append_right _ (List.mem_of_getElem? (i := 7) (by decide +kernel))), ⟨by decide +kernel, by decide +kernel⟩, by decide +kernel⟩
abbrev m_X7_add : m0T := (yX7_add, cX7_add, 2, none, [], 1)
theorem mo_X7_add : m0OK m_X7_add := ⟨(List.mem_append_right _ (List.mem_of_getElem? (i := 1266) (by decide +kernel))), rfl, by decide, (List.mem_append_right _ (List.mem_of_getElem? (i := 7) (by decide +kernel))), ⟨by decide +kernel, by decide +kernel⟩, by decide +kernel⟩
abbrev m_X7_empty : m0T := (yX7_empty, cX7_empty, 1, none, [], 0)
theorem mo_X7_empty : m0OK m_X7_empty := ⟨(List.mem_append_right _ (List.mem_of_getElem? (i := 1316) (by decide +kernel))), rfl, by decide, (List.mem_append_right _ (List.mem_of_getElem? (i := 7) (by decide +kernel))), ⟨by decide +kernel, by decide +kernel⟩, by decide +kernel⟩
abbrev m_X7_readOrders : m0T := (yX7_readOrders, cX7_readOrders, 2, (some (.int)), [], 0)
theorem mo_X7_readOrders : m0OK m_X7_readOrders := ⟨(List.mem_append_right _ (List.mem_of_getElem? (i := 1282) (by decide +kernel))), rfl, by decide, (List.mem_append_right _ (List.mem_of_getElem? (i := 7) (by decide +kernel))), ⟨by decide +kernel, by decide +kernel⟩, by decide +kernel⟩
abbrev m_X7_readOrder : m0T := (yX7_readOrder, cX7_readOrder, 2, (some (.boolean)), [], 0)
theorem mo_X7_readOrder : m0OK m_X7_readOrder := ⟨(List.mem_append_right _ (List.mem_of_getElem? (i := 1290) (by decide +kernel))), rfl, by decide, (List.mem_append_right _ (List.mem_of_getElem? (i := 7) (by decide +kernel))), ⟨by decide +kernel, by decide +kernel⟩, by decide +kernel⟩
abbrev m_X7_readPair : m0T := (yX7_readPair, cX7_readPair, 5, (some (.boolean)), [], 3)
theorem mo_X7_readPair : m0OK m_X7_readPair := ⟨(List.mem_append_right _ (List.mem_of_getElem? (i := 1308) (by decide +kernel))), rfl, by decide, (List.mem_append_right _ (List.mem_of_getElem? (i := 7) (by decide +kernel))), ⟨by decide +kernel, by decide +kernel⟩, by decide +kernel⟩
abbrev m_X7_keep : m0T := (yX7_keep, cX7_keep, 5, (some (.boolean)), [], 3)
theorem mo_X7_keep : m0OK m_X7_keep := ⟨(List.mem_append_right _ (List.mem_of_getElem? (i := 1302) (by decide +kernel))), rfl, by decide, (List.mem_append_right _ (List.mem_of_getElem? (i := 7) (by decide +kernel))), ⟨by decide +kernel, by decide +kernel⟩, by decide +kernel⟩
abbrev m_X7_readNumber : m0T := (yX7_readNumber, cX7_readNumber, 5, (some (.int)), [], 1)
theorem mo_X7_readNumber : m0OK m_X7_readNumber := ⟨(List.mem_append_right _ (List.mem_of_getElem? (i := 1298) (by decide +kernel))), rfl, by decide, (List.mem_append_right _ (List.mem_of_getElem? (i := 7) (by decide +kernel))), ⟨by decide +kernel, by decide +kernel⟩, by decide +kernel⟩
abbrev m_X7_skip : m0T := (yX7_skip, cX7_skip, 2, (some (.boolean)), [], 1)
theorem mo_X7_skip : m0OK m_X7_skip := ⟨(List.mem_append_right _ (List.mem_of_getElem? (i := 1312) (by decide +kernel))), rfl, by decide, (List.mem_append_right _ (List.mem_of_getElem? (i := 7) (by decide +kernel))), ⟨by decide +kernel, by decide +kernel⟩, by decide +kernel⟩
abbrev m_X7_next : m0T := (yX7_next, cX7_next, 1, (some (.int)), [], 0)
theorem mo_X7_next : m0OK m_X7_next := ⟨(List.mem_append_right _ (List.mem_of_getElem? (i := 1294) (by decide +kernel))), rfl, by decide, (List.mem_append_right _ (List.mem_of_getElem? (i := 7) (by decide +kernel))), ⟨by decide +kernel, by decide +kernel⟩, by decide +kernel⟩
abbrev m_X8_init : m0T := (yX8_init, cX8_init, 1, none, [], 0)
theorem mo_X8_init : m0OK m_X8_init := ⟨(List.mem_append_right _ (List.mem_of_getElem? (i := 39) (by decide +kernel))), rfl, by decide, (List.mem_append_right _ (List.mem_of_getElem? (i := 1) (by decide +kernel))), ⟨by decide +kernel, by decide +kernel⟩, by decide +kernel⟩
abbrev m_X8_coal : m0T := (yX8_coal, cX8_coal, 2, (some (.int)), [], 1)
theorem mo_X8_coal : m0OK m_X8_coal := ⟨(List.mem_append_right _ (List.mem_of_getElem? (i := 418) (by decide +kernel))), rfl, by decide, (List.mem_append_right _ (List.mem_of_getElem? (i := 1) (by decide +kernel))), ⟨by decide +kernel, by decide +kernel⟩, by decide +kernel⟩
abbrev m_X8_bronze : m0T := (yX8_bronze, cX8_bronze, 2, (some (.int)), [], 1)
theorem mo_X8_bronze : m0OK m_X8_bronze := ⟨(List.mem_append_right _ (List.mem_of_getElem? (i := 513) (by decide +kernel))), rfl, by decide, (List.mem_append_right _ (List.mem_of_getElem? (i := 1) (by decide +kernel))), ⟨by decide +kernel, by decide +kernel⟩, by decide +kernel⟩
abbrev m_X8_mould : m0T := (yX8_mould, cX8_mould, 3, (some (.int)), [], 2)
theorem mo_X8_mould : m0OK m_X8_mould := ⟨(List.mem_append_right _ (List.mem_of_getElem? (i := 549) (by decide +kernel))), rfl, by decide, (List.mem_append_right _ (List.mem_of_getElem? (i := 1) (by decide +kernel))), ⟨by decide +kernel, by decide +kernel⟩, by decide +kernel⟩
abbrev m_X8_smash : m0T := (yX8_smash, cX8_smash, 2, (some (.int)), [], 1)
theorem mo_X8_smash : m0OK m_X8_smash := ⟨(List.mem_append_right _ (List.mem_of_getElem? (i := 601) (by decide +kernel))), rfl, by decide, (List.mem_append_right _ (List.mem_of_getElem? (i := 1) (by decide +kernel))), ⟨by decide +kernel, by decide +kernel⟩, by decide +kernel⟩
abbrev m_X8_mouldOf : m0T := (yX8_mouldOf, cX8_mouldOf, 4, (some (.int)), [], 2)
theorem mo_X8_mouldOf : m0OK m_X8_mouldOf := ⟨(List.mem_append_right _ (List.mem_of_getElem? (i := 629) (by decide +kernel))), rfl, by decide, (List.mem_append_right _ (List.mem_of_getElem? (i := 1) (by decide +kernel))), ⟨by decide +kernel, by decide +kernel⟩, by decide +kernel⟩
abbrev m_X8_rack : m0T := (yX8_rack, cX8_rack, 2, (some (.int)), [], 1)
theorem mo_X8_rack : m0OK m_X8_rack := ⟨(List.mem_append_right _ (List.mem_of_getElem? (i := 640) (by decide +kernel))), rfl, by decide, (List.mem_append_right _ (List.mem_of_getElem? (i := 1) (by decide +kernel))), ⟨by decide +kernel, by decide +kernel⟩, by decide +kernel⟩
abbrev m_X8_strike : m0T := (yX8_strike, cX8_strike, 2, (some (.int)), [], 1)
theorem mo_X8_strike : m0OK m_X8_strike := ⟨(List.mem_append_right _ (List.mem_of_getElem? (i := 657) (by decide +kernel))), rfl, by decide, (List.mem_append_right _ (List.mem_of_getElem? (i := 1) (by decide +kernel))), ⟨by decide +kernel, by decide +kernel⟩, by decide +kernel⟩
abbrev m_X8_rackOf : m0T := (yX8_rackOf, cX8_rackOf, 3, (some (.int)), [], 2)
theorem mo_X8_rackOf : m0OK m_X8_rackOf := ⟨(List.mem_append_right _ (List.mem_of_getElem? (i := 680) (by decide +kernel))), rfl, by decide, (List.mem_append_right _ (List.mem_of_getElem? (i := 1) (by decide +kernel))), ⟨by decide +kernel, by decide +kernel⟩, by decide +kernel⟩
abbrev m_X8_pour : m0T := (yX8_pour, cX8_pour, 3, (some (.int)), [], 2)
theorem mo_X8_pour : m0OK m_X8_pour := ⟨(List.mem_append_right _ (List.mem_of_getElem? (i := 693) (by decide +kernel))), rfl, by decide, (List.mem_append_right _ (List.mem_of_getElem? (i := 1) (by decide +kernel))), ⟨by decide +kernel, by decide +kernel⟩, by decide +kernel⟩
abbrev m_X8_pass : m0T := (yX8_pass, cX8_pass, 2, (some (.int)), [], 1)
theorem mo_X8_pass : m0OK m_X8_pass := ⟨(List.mem_append_right _ (List.mem_of_getElem? (i := 718) (by decide +kernel))), rfl, by decide, (List.mem_append_right _ (List.mem_of_getElem? (i := 1) (by decide +kernel))), ⟨by decide +kernel, by decide +kernel⟩, by decide +kernel⟩
abbrev m_X8_take : m0T := (yX8_take, cX8_take, 2, (some (.int)), [], 1)
theorem mo_X8_take : m0OK m_X8_take := ⟨(List.mem_append_right _ (List.mem_of_getElem? (i := 747) (by decide +kernel))), rfl, by decide, (List.mem_append_right _ (List.mem_of_getElem? (i := 1) (by decide +kernel))), ⟨by decide +kernel, by decide +kernel⟩, by decide +kernel⟩
abbrev m_X8_ring : m0T := (yX8_ring, cX8_ring, 2, (some (.int)), [], 1)
theorem mo_X8_ring : m0OK m_X8_ring := ⟨(List.mem_append_right _ (List.mem_of_getElem? (i := 764) (by decide +kernel))), rfl, by decide, (List.mem_append_right _ (List.mem_of_getElem? (i := 1) (by decide +kernel))), ⟨by decide +kernel, by decide +kernel⟩, by decide +kernel⟩
abbrev m_X8_file : m0T := (yX8_file, cX8_file, 3, (some (.int)), [], 2)
theorem mo_X8_file : m0OK m_X8_file := ⟨(List.mem_append_right _ (List.mem_of_getElem? (i := 780) (by decide +kernel))), rfl, by decide, (List.mem_append_right _ (List.mem_of_getElem? (i := 1) (by decide +kernel))), ⟨by decide +kernel, by decide +kernel⟩, by decide +kernel⟩
abbrev m_X8_recast : m0T := (yX8_recast, cX8_recast, 2, (some (.int)), [], 1)
theorem mo_X8_recast : m0OK m_X8_recast := ⟨(List.mem_append_right _ (List.mem_of_getElem? (i := 799) (by decide +kernel))), rfl, by decide, (List.mem_append_right _ (List.mem_of_getElem? (i := 1) (by decide +kernel))), ⟨by decide +kernel, by decide +kernel⟩, by decide +kernel⟩
abbrev m_X8_bellOf : m0T := (yX8_bellOf, cX8_bellOf, 3, (some (.int)), [], 2)
theorem mo_X8_bellOf : m0OK m_X8_bellOf := ⟨(List.mem_append_right _ (List.mem_of_getElem? (i := 820) (by decide +kernel))), rfl, by decide, (List.mem_append_right _ (List.mem_of_getElem? (i := 1) (by decide +kernel))), ⟨by decide +kernel, by decide +kernel⟩, by decide +kernel⟩
abbrev m_X8_note : m0T := (yX8_note, cX8_note, 3, (some (.int)), [], 2)
theorem mo_X8_note : m0OK m_X8_note := ⟨(List.mem_append_right _ (List.mem_of_getElem? (i := 828) (by decide +kernel))), rfl, by decide, (List.mem_append_right _ (List.mem_of_getElem? (i := 1) (by decide +kernel))), ⟨by decide +kernel, by decide +kernel⟩, by decide +kernel⟩
abbrev m_X8_wouldCrack : m0T := (yX8_wouldCrack, cX8_wouldCrack, 3, (some (.int)), [], 2)
theorem mo_X8_wouldCrack : m0OK m_X8_wouldCrack := ⟨(List.mem_append_right _ (List.mem_of_getElem? (i := 835) (by decide +kernel))), rfl, by decide, (List.mem_append_right _ (List.mem_of_getElem? (i := 1) (by decide +kernel))), ⟨by decide +kernel, by decide +kernel⟩, by decide +kernel⟩
abbrev m_X8_coldIn : m0T := (yX8_coldIn, cX8_coldIn, 2, (some (.int)), [], 1)
theorem mo_X8_coldIn : m0OK m_X8_coldIn := ⟨(List.mem_append_right _ (List.mem_of_getElem? (i := 847) (by decide +kernel))), rfl, by decide, (List.mem_append_right _ (List.mem_of_getElem? (i := 1) (by decide +kernel))), ⟨by decide +kernel, by decide +kernel⟩, by decide +kernel⟩
abbrev m_X8_peal : m0T := (yX8_peal, cX8_peal, 3, (some (.int)), [], 2)
theorem mo_X8_peal : m0OK m_X8_peal := ⟨(List.mem_append_right _ (List.mem_of_getElem? (i := 858) (by decide +kernel))), rfl, by decide, (List.mem_append_right _ (List.mem_of_getElem? (i := 1) (by decide +kernel))), ⟨by decide +kernel, by decide +kernel⟩, by decide +kernel⟩
abbrev m_X8_longest : m0T := (yX8_longest, cX8_longest, 1, (some (.int)), [], 0)
theorem mo_X8_longest : m0OK m_X8_longest := ⟨(List.mem_append_right _ (List.mem_of_getElem? (i := 867) (by decide +kernel))), rfl, by decide, (List.mem_append_right _ (List.mem_of_getElem? (i := 1) (by decide +kernel))), ⟨by decide +kernel, by decide +kernel⟩, by decide +kernel⟩
abbrev m_X8_ranked : m0T := (yX8_ranked, cX8_ranked, 2, (some (.int)), [], 1)
theorem mo_X8_ranked : m0OK m_X8_ranked := ⟨(List.mem_append_right _ (List.mem_of_getElem? (i := 895) (by decide +kernel))), rfl, by decide, (List.mem_append_right _ (List.mem_of_getElem? (i := 1) (by decide +kernel))), ⟨by decide +kernel, by decide +kernel⟩, by decide +kernel⟩
abbrev m_X8_pourable : m0T := (yX8_pourable, cX8_pourable, 2, (some (.int)), [], 1)
theorem mo_X8_pourable : m0OK m_X8_pourable := ⟨(List.mem_append_right _ (List.mem_of_getElem? (i := 274) (by decide +kernel))), rfl, by decide, (List.mem_append_right _ (List.mem_of_getElem? (i := 1) (by decide +kernel))), ⟨by decide +kernel, by decide +kernel⟩, by decide +kernel⟩
abbrev m_X8_first : m0T := (yX8_first, cX8_first, 2, (some (.int)), [], 0)
theorem mo_X8_first : m0OK m_X8_first := ⟨(List.mem_append_right _ (List.mem_of_getElem? (i := 911) (by decide +kernel))), rfl, by decide, (List.mem_append_right _ (List.mem_of_getElem? (i := 1) (by decide +kernel))), ⟨by decide +kernel, by decide +kernel⟩, by decide +kernel⟩
abbrev m_X8_line : m0T := (yX8_line, cX8_line, 2, (some (.int)), [], 1)
theorem mo_X8_line : m0OK m_X8_line := ⟨(List.mem_append_right _ (List.mem_of_getElem? (i := 924) (by decide +kernel))), rfl, by decide, (List.mem_append_right _ (List.mem_of_getElem? (i := 1) (by decide +kernel))), ⟨by decide +kernel, by decide +kernel⟩, by decide +kernel⟩
abbrev m_X8_rackLine : m0T := (yX8_rackLine, cX8_rackLine, 2, (some (.int)), [], 1)
theorem mo_X8_rackLine : m0OK m_X8_rackLine := ⟨(List.mem_append_right _ (List.mem_of_getElem? (i := 1212) (by decide +kernel))), rfl, by decide, (List.mem_append_right _ (List.mem_of_getElem? (i := 1) (by decide +kernel))), ⟨by decide +kernel, by decide +kernel⟩, by decide +kernel⟩
abbrev m_X8_character : m0T := (yX8_character, cX8_character, 2, (some (.char)), [], 1)
theorem mo_X8_character : m0OK m_X8_character := ⟨(List.mem_append_right _ (List.mem_of_getElem? (i := 1223) (by decide +kernel))), rfl, by decide, (List.mem_append_right _ (List.mem_of_getElem? (i := 1) (by decide +kernel))), ⟨by decide +kernel, by decide +kernel⟩, by decide +kernel⟩
abbrev m_X8_append : m0T := (yX8_append, cX8_append, 2, (some (.int)), [], 1)
theorem mo_X8_append : m0OK m_X8_append := ⟨(List.mem_append_right _ (List.mem_of_getElem? (i := 1242) (by decide +kernel))), rfl, by decide, (List.mem_append_right _ (List.mem_of_getElem? (i := 1) (by decide +kernel))), ⟨by decide +kernel, by decide +kernel⟩, by decide +kernel⟩
abbrev m_X8_run : m0T := (yX8_run, cX8_run, 2, (some (.int)), [], 0)
theorem mo_X8_run : m0OK m_X8_run := ⟨(List.mem_append_right _ (List.mem_of_getElem? (i := 1278) (by decide +kernel))), rfl, by decide, (List.mem_append_right _ (List.mem_of_getElem? (i := 1) (by decide +kernel))), ⟨by decide +kernel, by decide +kernel⟩, by decide +kernel⟩
abbrev m_X8_errorPosition : m0T := (yX8_errorPosition, cX8_errorPosition, 1, (some (.int)), [], 0)
theorem mo_X8_errorPosition : m0OK m_X8_errorPosition := ⟨(List.mem_append_right _ (List.mem_of_getElem? (i := 332) (by decide +kernel))), rfl, by decide, (List.mem_append_right _ (List.mem_of_getElem? (i := 1) (by decide +kernel))), ⟨by decide +kernel, by decide +kernel⟩, by decide +kernel⟩
abbrev m_X8_refusal : m0T := (yX8_refusal, cX8_refusal, 2, (some (.int)), [], 1)
theorem mo_X8_refusal : m0OK m_X8_refusal := ⟨(List.mem_append_right _ (List.mem_of_getElem? (i := 1352) (by decide +kernel))), rfl, by decide, (List.mem_append_right _ (List.mem_of_getElem? (i := 1) (by decide +kernel))), ⟨by decide +kernel, by decide +kernel⟩, by decide +kernel⟩
abbrev m_X8_account : m0T := (yX8_account, cX8_account, 2, (some (.int)), [], 1)
theorem mo_X8_account : m0OK m_X8_account := ⟨(List.mem_append_right _ (List.mem_of_getElem? (i := 1360) (by decide +kernel))), rfl, by decide, (List.mem_append_right _ (List.mem_of_getElem? (i := 1) (by decide +kernel))), ⟨by decide +kernel, by decide +kernel⟩, by decide +kernel⟩
abbrev m_X8_isWell : m0T := (yX8_isWell, cX8_isWell, 1, (some (.boolean)), [], 0)
theorem mo_X8_isWell : m0OK m_X8_isWell := ⟨(List.mem_append_right _ (List.mem_of_getElem? (i := 336) (by decide +kernel))), rfl, by decide, (List.mem_append_right _ (List.mem_of_getElem? (i := 1) (by decide +kernel))), ⟨by decide +kernel, by decide +kernel⟩, by decide +kernel⟩
abbrev m_X8_meanNote : m0T := (yX8_meanNote, cX8_meanNote, 2, (some (.double)), [], 0)
theorem mo_X8_meanNote : m0OK m_X8_meanNote := ⟨(List.mem_append_right _ (List.mem_of_getElem? (i := 1394) (by decide +kernel))), rfl, by decide, (List.mem_append_right _ (List.mem_of_getElem? (i := 1) (by decide +kernel))), ⟨by decide +kernel, by decide +kernel⟩, by decide +kernel⟩
abbrev m_X8_soundShare : m0T := (yX8_soundShare, cX8_soundShare, 2, (some (.float)), [], 0)
theorem mo_X8_soundShare : m0OK m_X8_soundShare := ⟨(List.mem_append_right _ (List.mem_of_getElem? (i := 1408) (by decide +kernel))), rfl, by decide, (List.mem_append_right _ (List.mem_of_getElem? (i := 1) (by decide +kernel))), ⟨by decide +kernel, by decide +kernel⟩, by decide +kernel⟩
abbrev m_X8_undo : m0T := (yX8_undo, cX8_undo, 1, (some (.int)), [], 0)
theorem mo_X8_undo : m0OK m_X8_undo := ⟨(List.mem_append_right _ (List.mem_of_getElem? (i := 1416) (by decide +kernel))), rfl, by decide, (List.mem_append_right _ (List.mem_of_getElem? (i := 1) (by decide +kernel))), ⟨by decide +kernel, by decide +kernel⟩, by decide +kernel⟩
abbrev m_X8_save : m0T := (yX8_save, cX8_save, 1, (some (.int)), [], 0)
theorem mo_X8_save : m0OK m_X8_save := ⟨(List.mem_append_right _ (List.mem_of_getElem? (i := 401) (by decide +kernel))), rfl, by decide, (List.mem_append_right _ (List.mem_of_getElem? (i := 1) (by decide +kernel))), ⟨by decide +kernel, by decide +kernel⟩, by decide +kernel⟩
abbrev m_X8_restore : m0T := (yX8_restore, cX8_restore, 1, (some (.int)), [], 0)
theorem mo_X8_restore : m0OK m_X8_restore := ⟨(List.mem_append_right _ (List.mem_of_getElem? (i := 1428) (by decide +kernel))), rfl, by decide, (List.mem_append_right _ (List.mem_of_getElem? (i := 1) (by decide +kernel))), ⟨by decide +kernel, by decide +kernel⟩, by decide +kernel⟩
abbrev m_X8_isWithin : m0T := (yX8_isWithin, cX8_isWithin, 3, (some (.boolean)), [], 3)
theorem mo_X8_isWithin : m0OK m_X8_isWithin := ⟨(List.mem_append_right _ (List.mem_of_getElem? (i := 421) (by decide +kernel))), rfl, by decide, (List.mem_append_right _ (List.mem_of_getElem? (i := 1) (by decide +kernel))), ⟨by decide +kernel, by decide +kernel⟩, by decide +kernel⟩
abbrev m_X8_isMould : m0T := (yX8_isMould, cX8_isMould, 2, (some (.boolean)), [], 2)
theorem mo_X8_isMould : m0OK m_X8_isMould := ⟨(List.mem_append_right _ (List.mem_of_getElem? (i := 552) (by decide +kernel))), rfl, by decide, (List.mem_append_right _ (List.mem_of_getElem? (i := 1) (by decide +kernel))), ⟨by decide +kernel, by decide +kernel⟩, by decide +kernel⟩
abbrev m_X8_poundsFor : m0T := (yX8_poundsFor, cX8_poundsFor, 1, (some (.int)), [], 1)
theorem mo_X8_poundsFor : m0OK m_X8_poundsFor := ⟨(List.mem_append_right _ (List.mem_of_getElem? (i := 303) (by decide +kernel))), rfl, by decide, (List.mem_append_right _ (List.mem_of_getElem? (i := 1) (by decide +kernel))), ⟨by decide +kernel, by decide +kernel⟩, by decide +kernel⟩
abbrev m_X8_heatFor : m0T := (yX8_heatFor, cX8_heatFor, 1, (some (.int)), [], 1)
theorem mo_X8_heatFor : m0OK m_X8_heatFor := ⟨(List.mem_append_right _ (List.mem_of_getElem? (i := 319) (by decide +kernel))), rfl, by decide, (List.mem_append_right _ (List.mem_of_getElem? (i := 1) (by decide +kernel))), ⟨by decide +kernel, by decide +kernel⟩, by decide +kernel⟩
abbrev m_X8_heatAfterPouring : m0T := (yX8_heatAfterPouring, cX8_heatAfterPouring, 2, (some (.int)), [], 2)
theorem mo_X8_heatAfterPouring : m0OK m_X8_heatAfterPouring := ⟨(List.mem_append_right _ (List.mem_of_getElem? (i := 300) (by decide +kernel))), rfl, by decide, (List.mem_append_right _ (List.mem_of_getElem? (i := 1) (by decide +kernel))), ⟨by decide +kernel, by decide +kernel⟩, by decide +kernel⟩
abbrev m_X8_firstNote : m0T := (yX8_firstNote, cX8_firstNote, 1, (some (.int)), [], 1)
theorem mo_X8_firstNote : m0OK m_X8_firstNote := ⟨(List.mem_append_right _ (List.mem_of_getElem? (i := 349) (by decide +kernel))), rfl, by decide, (List.mem_append_right _ (List.mem_of_getElem? (i := 1) (by decide +kernel))), ⟨by decide +kernel, by decide +kernel⟩, by decide +kernel⟩
abbrev m_X8_writeBell : m0T := (yX8_writeBell, cX8_writeBell, 4, none, [], 1)
theorem mo_X8_writeBell : m0OK m_X8_writeBell := ⟨(List.mem_append_right _ (List.mem_of_getElem? (i := 928) (by decide +kernel))), rfl, by decide, (List.mem_append_right _ (List.mem_of_getElem? (i := 1) (by decide +kernel))), ⟨by decide +kernel, by decide +kernel⟩, by decide +kernel⟩
abbrev m_X8_writeRack : m0T := (yX8_writeRack, cX8_writeRack, 3, none, [], 1)
theorem mo_X8_writeRack : m0OK m_X8_writeRack := ⟨(List.mem_append_right _ (List.mem_of_getElem? (i := 1216) (by decide +kernel))), rfl, by decide, (List.mem_append_right _ (List.mem_of_getElem? (i := 1) (by decide +kernel))), ⟨by decide +kernel, by decide +kernel⟩, by decide +kernel⟩
abbrev m_X8_arePealsAlike : m0T := (yX8_arePealsAlike, cX8_arePealsAlike, 2, (some (.boolean)), [], 0)
theorem mo_X8_arePealsAlike : m0OK m_X8_arePealsAlike := ⟨(List.mem_append_right _ (List.mem_of_getElem? (i := 353) (by decide +kernel))), rfl, by decide, (List.mem_append_right _ (List.mem_of_getElem? (i := 1) (by decide +kernel))), ⟨by decide +kernel, by decide +kernel⟩, by decide +kernel⟩
abbrev m_X8_tryOrders : m0T := (yX8_tryOrders, cX8_tryOrders, 6, (some (.object "BellCores$Outcome")), [], 0)
theorem mo_X8_tryOrders : m0OK m_X8_tryOrders := ⟨(List.mem_append_right _ (List.mem_of_getElem? (i := 1321) (by decide +kernel))), rfl, by decide, (List.mem_append_right _ (List.mem_of_getElem? (i := 1) (by decide +kernel))), ⟨by decide +kernel, by decide +kernel⟩, by decide +kernel⟩
abbrev m_X8_judge : m0T := (yX8_judge, cX8_judge, 4, (some (.object "BellCores$Outcome")), [], 3)
theorem mo_X8_judge : m0OK m_X8_judge := ⟨(List.mem_append_right _ (List.mem_of_getElem? (i := 1325) (by decide +kernel))), rfl, by decide, (List.mem_append_right _ (List.mem_of_getElem? (i := 1) (by decide +kernel))), ⟨by decide +kernel, by decide +kernel⟩, by decide +kernel⟩
abbrev m_X8_isPossible : m0T := (yX8_isPossible, cX8_isPossible, 4, (some (.boolean)), [], 3)
theorem mo_X8_isPossible : m0OK m_X8_isPossible := ⟨(List.mem_append_right _ (List.mem_of_getElem? (i := 1329) (by decide +kernel))), rfl, by decide, (List.mem_append_right _ (List.mem_of_getElem? (i := 1) (by decide +kernel))), ⟨by decide +kernel, by decide +kernel⟩, by decide +kernel⟩
abbrev m_X8_isRefused : m0T := (yX8_isRefused, cX8_isRefused, 4, (some (.boolean)), [], 3)
theorem mo_X8_isRefused : m0OK m_X8_isRefused := ⟨(List.mem_append_right _ (List.mem_of_getElem? (i := 1335) (by decide +kernel))), rfl, by decide, (List.mem_append_right _ (List.mem_of_getElem? (i := 1) (by decide +kernel))), ⟨by decide +kernel, by decide +kernel⟩, by decide +kernel⟩
abbrev m_X8_carryOut : m0T := (yX8_carryOut, cX8_carryOut, 4, none, [], 3)
theorem mo_X8_carryOut : m0OK m_X8_carryOut := ⟨(List.mem_append_right _ (List.mem_of_getElem? (i := 1343) (by decide +kernel))), rfl, by decide, (List.mem_append_right _ (List.mem_of_getElem? (i := 1) (by decide +kernel))), ⟨by decide +kernel, by decide +kernel⟩, by decide +kernel⟩
abbrev m_X9_init : m0T := (yX9_init, cX9_init, 1, none, [], 0)
theorem mo_X9_init : m0OK m_X9_init := ⟨(List.mem_append_right _ (List.mem_of_getElem? (i := 1438) (by decide +kernel))), rfl, by decide, (List.mem_append_right _ (List.mem_of_getElem? (i := 14) (by decide +kernel))), ⟨by decide +kernel, by decide +kernel⟩, by decide +kernel⟩
abbrev m_X9_thrown : m0T := (yX9_thrown, cX9_thrown, 1, (some (.int)), [], 0)
theorem mo_X9_thrown : m0OK m_X9_thrown := ⟨(List.mem_append_right _ (List.mem_of_getElem? (i := 1501) (by decide +kernel))), rfl, by decide, (List.mem_append_right _ (List.mem_of_getElem? (i := 14) (by decide +kernel))), ⟨by decide +kernel, by decide +kernel⟩, by decide +kernel⟩
abbrev m_X9_fails : m0T := (yX9_fails, cX9_fails, 2, (some (.boolean)), [], 1)
theorem mo_X9_fails : m0OK m_X9_fails := ⟨(List.mem_append_right _ (List.mem_of_getElem? (i := 1512) (by decide +kernel))), rfl, by decide, (List.mem_append_right _ (List.mem_of_getElem? (i := 14) (by decide +kernel))), ⟨by decide +kernel, by decide +kernel⟩, by decide +kernel⟩
abbrev m_X9_refuses : m0T := (yX9_refuses, cX9_refuses, 3, (some (.int)), [], 2)
theorem mo_X9_refuses : m0OK m_X9_refuses := ⟨(List.mem_append_right _ (List.mem_of_getElem? (i := 1527) (by decide +kernel))), rfl, by decide, (List.mem_append_right _ (List.mem_of_getElem? (i := 14) (by decide +kernel))), ⟨by decide +kernel, by decide +kernel⟩, by decide +kernel⟩
abbrev m_X9_in : m0T := (yX9_in, cX9_in, 3, (some (.boolean)), [], 3)
theorem mo_X9_in : m0OK m_X9_in := ⟨(List.mem_append_right _ (List.mem_of_getElem? (i := 1508) (by decide +kernel))), rfl, by decide, (List.mem_append_right _ (List.mem_of_getElem? (i := 14) (by decide +kernel))), ⟨by decide +kernel, by decide +kernel⟩, by decide +kernel⟩
abbrev m_X9_most : m0T := (yX9_most, cX9_most, 2, (some (.int)), [], 2)
theorem mo_X9_most : m0OK m_X9_most := ⟨(List.mem_append_right _ (List.mem_of_getElem? (i := 1602) (by decide +kernel))), rfl, by decide, (List.mem_append_right _ (List.mem_of_getElem? (i := 14) (by decide +kernel))), ⟨by decide +kernel, by decide +kernel⟩, by decide +kernel⟩
abbrev m_X9_copies : m0T := (yX9_copies, cX9_copies, 5, none, [], 4)
theorem mo_X9_copies : m0OK m_X9_copies := ⟨(List.mem_append_right _ (List.mem_of_getElem? (i := 1519) (by decide +kernel))), rfl, by decide, (List.mem_append_right _ (List.mem_of_getElem? (i := 14) (by decide +kernel))), ⟨by decide +kernel, by decide +kernel⟩, by decide +kernel⟩
abbrev m_X9_keeps : m0T := (yX9_keeps, cX9_keeps, 3, none, [], 1)
theorem mo_X9_keeps : m0OK m_X9_keeps := ⟨(List.mem_append_right _ (List.mem_of_getElem? (i := 1516) (by decide +kernel))), rfl, by decide, (List.mem_append_right _ (List.mem_of_getElem? (i := 14) (by decide +kernel))), ⟨by decide +kernel, by decide +kernel⟩, by decide +kernel⟩
abbrev m_X9_goes : m0T := (yX9_goes, cX9_goes, 6, none, [], 4)
theorem mo_X9_goes : m0OK m_X9_goes := ⟨(List.mem_append_right _ (List.mem_of_getElem? (i := 1547) (by decide +kernel))), rfl, by decide, (List.mem_append_right _ (List.mem_of_getElem? (i := 14) (by decide +kernel))), ⟨by decide +kernel, by decide +kernel⟩, by decide +kernel⟩
abbrev m_X9_coal : m0T := (yX9_coal, cX9_coal, 2, (some (.int)), [], 1)
theorem mo_X9_coal : m0OK m_X9_coal := ⟨(List.mem_append_right _ (List.mem_of_getElem? (i := 1505) (by decide +kernel))), rfl, by decide, (List.mem_append_right _ (List.mem_of_getElem? (i := 14) (by decide +kernel))), ⟨by decide +kernel, by decide +kernel⟩, by decide +kernel⟩
abbrev m_X9_bronze : m0T := (yX9_bronze, cX9_bronze, 2, (some (.int)), [], 1)
theorem mo_X9_bronze : m0OK m_X9_bronze := ⟨(List.mem_append_right _ (List.mem_of_getElem? (i := 1523) (by decide +kernel))), rfl, by decide, (List.mem_append_right _ (List.mem_of_getElem? (i := 14) (by decide +kernel))), ⟨by decide +kernel, by decide +kernel⟩, by decide +kernel⟩
abbrev m_X9_mould : m0T := (yX9_mould, cX9_mould, 3, (some (.int)), [], 2)
theorem mo_X9_mould : m0OK m_X9_mould := ⟨(List.mem_append_right _ (List.mem_of_getElem? (i := 1531) (by decide +kernel))), rfl, by decide, (List.mem_append_right _ (List.mem_of_getElem? (i := 14) (by decide +kernel))), ⟨by decide +kernel, by decide +kernel⟩, by decide +kernel⟩
abbrev m_X9_isMould : m0T := (yX9_isMould, cX9_isMould, 2, (some (.boolean)), [], 1)
theorem mo_X9_isMould : m0OK m_X9_isMould := ⟨(List.mem_append_right _ (List.mem_of_getElem? (i := 1539) (by decide +kernel))), rfl, by decide, (List.mem_append_right _ (List.mem_of_getElem? (i := 14) (by decide +kernel))), ⟨by decide +kernel, by decide +kernel⟩, by decide +kernel⟩
abbrev m_X9_breaks : m0T := (yX9_breaks, cX9_breaks, 2, none, [], 1)
theorem mo_X9_breaks : m0OK m_X9_breaks := ⟨(List.mem_append_right _ (List.mem_of_getElem? (i := 1543) (by decide +kernel))), rfl, by decide, (List.mem_append_right _ (List.mem_of_getElem? (i := 14) (by decide +kernel))), ⟨by decide +kernel, by decide +kernel⟩, by decide +kernel⟩
abbrev m_X9_smash : m0T := (yX9_smash, cX9_smash, 2, (some (.int)), [], 1)
theorem mo_X9_smash : m0OK m_X9_smash := ⟨(List.mem_append_right _ (List.mem_of_getElem? (i := 1535) (by decide +kernel))), rfl, by decide, (List.mem_append_right _ (List.mem_of_getElem? (i := 14) (by decide +kernel))), ⟨by decide +kernel, by decide +kernel⟩, by decide +kernel⟩
abbrev m_X9_core : m0T := (yX9_core, cX9_core, 2, (some (.int)), [], 1)
theorem mo_X9_core : m0OK m_X9_core := ⟨(List.mem_append_right _ (List.mem_of_getElem? (i := 1555) (by decide +kernel))), rfl, by decide, (List.mem_append_right _ (List.mem_of_getElem? (i := 14) (by decide +kernel))), ⟨by decide +kernel, by decide +kernel⟩, by decide +kernel⟩
abbrev m_X9_takes : m0T := (yX9_takes, cX9_takes, 2, (some (.int)), [], 1)
theorem mo_X9_takes : m0OK m_X9_takes := ⟨(List.mem_append_right _ (List.mem_of_getElem? (i := 1559) (by decide +kernel))), rfl, by decide, (List.mem_append_right _ (List.mem_of_getElem? (i := 14) (by decide +kernel))), ⟨by decide +kernel, by decide +kernel⟩, by decide +kernel⟩
abbrev m_X9_needs : m0T := (yX9_needs, cX9_needs, 2, (some (.int)), [], 1)
theorem mo_X9_needs : m0OK m_X9_needs := ⟨(List.mem_append_right _ (List.mem_of_getElem? (i := 1563) (by decide +kernel))), rfl, by decide, (List.mem_append_right _ (List.mem_of_getElem? (i := 14) (by decide +kernel))), ⟨by decide +kernel, by decide +kernel⟩, by decide +kernel⟩
abbrev m_X9_mouldOf : m0T := (yX9_mouldOf, cX9_mouldOf, 3, (some (.int)), [], 2)
theorem mo_X9_mouldOf : m0OK m_X9_mouldOf := ⟨(List.mem_append_right _ (List.mem_of_getElem? (i := 1551) (by decide +kernel))), rfl, by decide, (List.mem_append_right _ (List.mem_of_getElem? (i := 14) (by decide +kernel))), ⟨by decide +kernel, by decide +kernel⟩, by decide +kernel⟩
abbrev m_X9_rack : m0T := (yX9_rack, cX9_rack, 2, (some (.int)), [], 1)
theorem mo_X9_rack : m0OK m_X9_rack := ⟨(List.mem_append_right _ (List.mem_of_getElem? (i := 1567) (by decide +kernel))), rfl, by decide, (List.mem_append_right _ (List.mem_of_getElem? (i := 14) (by decide +kernel))), ⟨by decide +kernel, by decide +kernel⟩, by decide +kernel⟩
abbrev m_X9_isRack : m0T := (yX9_isRack, cX9_isRack, 2, (some (.boolean)), [], 1)
theorem mo_X9_isRack : m0OK m_X9_isRack := ⟨(List.mem_append_right _ (List.mem_of_getElem? (i := 1575) (by decide +kernel))), rfl, by decide, (List.mem_append_right _ (List.mem_of_getElem? (i := 14) (by decide +kernel))), ⟨by decide +kernel, by decide +kernel⟩, by decide +kernel⟩
abbrev m_X9_of : m0T := (yX9_of, cX9_of, 3, (some (.int)), [], 2)
theorem mo_X9_of : m0OK m_X9_of := ⟨(List.mem_append_right _ (List.mem_of_getElem? (i := 1583) (by decide +kernel))), rfl, by decide, (List.mem_append_right _ (List.mem_of_getElem? (i := 14) (by decide +kernel))), ⟨by decide +kernel, by decide +kernel⟩, by decide +kernel⟩
abbrev m_X9_lays : m0T := (yX9_lays, cX9_lays, 4, none, [], 3)
theorem mo_X9_lays : m0OK m_X9_lays := ⟨(List.mem_append_right _ (List.mem_of_getElem? (i := 1587) (by decide +kernel))), rfl, by decide, (List.mem_append_right _ (List.mem_of_getElem? (i := 14) (by decide +kernel))), ⟨by decide +kernel, by decide +kernel⟩, by decide +kernel⟩
abbrev m_X9_bellsOn : m0T := (yX9_bellsOn, cX9_bellsOn, 4, (some (.int)), [], 1)
theorem mo_X9_bellsOn : m0OK m_X9_bellsOn := ⟨(List.mem_append_right _ (List.mem_of_getElem? (i := 1579) (by decide +kernel))), rfl, by decide, (List.mem_append_right _ (List.mem_of_getElem? (i := 14) (by decide +kernel))), ⟨by decide +kernel, by decide +kernel⟩, by decide +kernel⟩
abbrev m_X9_strike : m0T := (yX9_strike, cX9_strike, 3, (some (.int)), [], 1)
theorem mo_X9_strike : m0OK m_X9_strike := ⟨(List.mem_append_right _ (List.mem_of_getElem? (i := 1571) (by decide +kernel))), rfl, by decide, (List.mem_append_right _ (List.mem_of_getElem? (i := 14) (by decide +kernel))), ⟨by decide +kernel, by decide +kernel⟩, by decide +kernel⟩
abbrev m_X9_losing : m0T := (yX9_losing, cX9_losing, 2, (some (.int)), [], 1)
theorem mo_X9_losing : m0OK m_X9_losing := ⟨(List.mem_append_right _ (List.mem_of_getElem? (i := 1595) (by decide +kernel))), rfl, by decide, (List.mem_append_right _ (List.mem_of_getElem? (i := 14) (by decide +kernel))), ⟨by decide +kernel, by decide +kernel⟩, by decide +kernel⟩
abbrev m_X9_rackOf : m0T := (yX9_rackOf, cX9_rackOf, 3, (some (.int)), [], 2)
theorem mo_X9_rackOf : m0OK m_X9_rackOf := ⟨(List.mem_append_right _ (List.mem_of_getElem? (i := 1591) (by decide +kernel))), rfl, by decide, (List.mem_append_right _ (List.mem_of_getElem? (i := 14) (by decide +kernel))), ⟨by decide +kernel, by decide +kernel⟩, by decide +kernel⟩
abbrev m_X9_isBell : m0T := (yX9_isBell, cX9_isBell, 2, (some (.boolean)), [], 1)
theorem mo_X9_isBell : m0OK m_X9_isBell := ⟨(List.mem_append_right _ (List.mem_of_getElem? (i := 1622) (by decide +kernel))), rfl, by decide, (List.mem_append_right _ (List.mem_of_getElem? (i := 14) (by decide +kernel))), ⟨by decide +kernel, by decide +kernel⟩, by decide +kernel⟩
abbrev m_X9_pour : m0T := (yX9_pour, cX9_pour, 4, (some (.int)), [], 2)
theorem mo_X9_pour : m0OK m_X9_pour := ⟨(List.mem_append_right _ (List.mem_of_getElem? (i := 1599) (by decide +kernel))), rfl, by decide, (List.mem_append_right _ (List.mem_of_getElem? (i := 14) (by decide +kernel))), ⟨by decide +kernel, by decide +kernel⟩, by decide +kernel⟩
abbrev m_X9_cools : m0T := (yX9_cools, cX9_cools, 3, (some (.boolean)), [], 1)
theorem mo_X9_cools : m0OK m_X9_cools := ⟨(List.mem_append_right _ (List.mem_of_getElem? (i := 1614) (by decide +kernel))), rfl, by decide, (List.mem_append_right _ (List.mem_of_getElem? (i := 14) (by decide +kernel))), ⟨by decide +kernel, by decide +kernel⟩, by decide +kernel⟩
abbrev m_X9_hour : m0T := (yX9_hour, cX9_hour, 3, (some (.int)), [], 0)
theorem mo_X9_hour : m0OK m_X9_hour := ⟨(List.mem_append_right _ (List.mem_of_getElem? (i := 1610) (by decide +kernel))), rfl, by decide, (List.mem_append_right _ (List.mem_of_getElem? (i := 14) (by decide +kernel))), ⟨by decide +kernel, by decide +kernel⟩, by decide +kernel⟩
abbrev m_X9_pass : m0T := (yX9_pass, cX9_pass, 4, (some (.int)), [], 1)
theorem mo_X9_pass : m0OK m_X9_pass := ⟨(List.mem_append_right _ (List.mem_of_getElem? (i := 1606) (by decide +kernel))), rfl, by decide, (List.mem_append_right _ (List.mem_of_getElem? (i := 14) (by decide +kernel))), ⟨by decide +kernel, by decide +kernel⟩, by decide +kernel⟩
abbrev m_X9_take : m0T := (yX9_take, cX9_take, 3, (some (.int)), [], 1)
theorem mo_X9_take : m0OK m_X9_take := ⟨(List.mem_append_right _ (List.mem_of_getElem? (i := 1618) (by decide +kernel))), rfl, by decide, (List.mem_append_right _ (List.mem_of_getElem? (i := 14) (by decide +kernel))), ⟨by decide +kernel, by decide +kernel⟩, by decide +kernel⟩
abbrev m_X9_noteOf : m0T := (yX9_noteOf, cX9_noteOf, 2, (some (.int)), [], 1)
theorem mo_X9_noteOf : m0OK m_X9_noteOf := ⟨(List.mem_append_right _ (List.mem_of_getElem? (i := 1630) (by decide +kernel))), rfl, by decide, (List.mem_append_right _ (List.mem_of_getElem? (i := 14) (by decide +kernel))), ⟨by decide +kernel, by decide +kernel⟩, by decide +kernel⟩
abbrev m_X9_ring : m0T := (yX9_ring, cX9_ring, 3, (some (.int)), [], 1)
theorem mo_X9_ring : m0OK m_X9_ring := ⟨(List.mem_append_right _ (List.mem_of_getElem? (i := 1626) (by decide +kernel))), rfl, by decide, (List.mem_append_right _ (List.mem_of_getElem? (i := 14) (by decide +kernel))), ⟨by decide +kernel, by decide +kernel⟩, by decide +kernel⟩
abbrev m_X9_refuses3 : m0T := (yX9_refuses3, cX9_refuses3, 3, (some (.int)), [], 2)
theorem mo_X9_refuses3 : m0OK m_X9_refuses3 := ⟨(List.mem_append_right _ (List.mem_of_getElem? (i := 1638) (by decide +kernel))), rfl, by decide, (List.mem_append_right _ (List.mem_of_getElem? (i := 14) (by decide +kernel))), ⟨by decide +kernel, by decide +kernel⟩, by decide +kernel⟩
abbrev m_X9_file : m0T := (yX9_file, cX9_file, 3, (some (.int)), [], 2)
theorem mo_X9_file : m0OK m_X9_file := ⟨(List.mem_append_right _ (List.mem_of_getElem? (i := 1634) (by decide +kernel))), rfl, by decide, (List.mem_append_right _ (List.mem_of_getElem? (i := 14) (by decide +kernel))), ⟨by decide +kernel, by decide +kernel⟩, by decide +kernel⟩
abbrev m_X9_recast : m0T := (yX9_recast, cX9_recast, 4, (some (.int)), [], 1)
theorem mo_X9_recast : m0OK m_X9_recast := ⟨(List.mem_append_right _ (List.mem_of_getElem? (i := 1642) (by decide +kernel))), rfl, by decide, (List.mem_append_right _ (List.mem_of_getElem? (i := 14) (by decide +kernel))), ⟨by decide +kernel, by decide +kernel⟩, by decide +kernel⟩
abbrev m_X9_bellOf : m0T := (yX9_bellOf, cX9_bellOf, 3, (some (.int)), [], 2)
theorem mo_X9_bellOf : m0OK m_X9_bellOf := ⟨(List.mem_append_right _ (List.mem_of_getElem? (i := 1646) (by decide +kernel))), rfl, by decide, (List.mem_append_right _ (List.mem_of_getElem? (i := 14) (by decide +kernel))), ⟨by decide +kernel, by decide +kernel⟩, by decide +kernel⟩
abbrev m_X9_note : m0T := (yX9_note, cX9_note, 3, (some (.int)), [], 2)
theorem mo_X9_note : m0OK m_X9_note := ⟨(List.mem_append_right _ (List.mem_of_getElem? (i := 1650) (by decide +kernel))), rfl, by decide, (List.mem_append_right _ (List.mem_of_getElem? (i := 14) (by decide +kernel))), ⟨by decide +kernel, by decide +kernel⟩, by decide +kernel⟩
abbrev m_X9_hoursOf : m0T := (yX9_hoursOf, cX9_hoursOf, 2, (some (.int)), [], 1)
theorem mo_X9_hoursOf : m0OK m_X9_hoursOf := ⟨(List.mem_append_right _ (List.mem_of_getElem? (i := 1658) (by decide +kernel))), rfl, by decide, (List.mem_append_right _ (List.mem_of_getElem? (i := 14) (by decide +kernel))), ⟨by decide +kernel, by decide +kernel⟩, by decide +kernel⟩
abbrev m_X9_wouldCrack : m0T := (yX9_wouldCrack, cX9_wouldCrack, 5, (some (.int)), [], 2)
theorem mo_X9_wouldCrack : m0OK m_X9_wouldCrack := ⟨(List.mem_append_right _ (List.mem_of_getElem? (i := 1654) (by decide +kernel))), rfl, by decide, (List.mem_append_right _ (List.mem_of_getElem? (i := 14) (by decide +kernel))), ⟨by decide +kernel, by decide +kernel⟩, by decide +kernel⟩
abbrev m_X9_coldIn : m0T := (yX9_coldIn, cX9_coldIn, 2, (some (.int)), [], 1)
theorem mo_X9_coldIn : m0OK m_X9_coldIn := ⟨(List.mem_append_right _ (List.mem_of_getElem? (i := 1662) (by decide +kernel))), rfl, by decide, (List.mem_append_right _ (List.mem_of_getElem? (i := 14) (by decide +kernel))), ⟨by decide +kernel, by decide +kernel⟩, by decide +kernel⟩
abbrev m_X9_step : m0T := (yX9_step, cX9_step, 1, (some (.int)), [], 1)
theorem mo_X9_step : m0OK m_X9_step := ⟨(List.mem_append_right _ (List.mem_of_getElem? (i := 1673) (by decide +kernel))), rfl, by decide, (List.mem_append_right _ (List.mem_of_getElem? (i := 14) (by decide +kernel))), ⟨by decide +kernel, by decide +kernel⟩, by decide +kernel⟩
abbrev m_X9_isHeard : m0T := (yX9_isHeard, cX9_isHeard, 3, (some (.boolean)), [], 1)
theorem mo_X9_isHeard : m0OK m_X9_isHeard := ⟨(List.mem_append_right _ (List.mem_of_getElem? (i := 1677) (by decide +kernel))), rfl, by decide, (List.mem_append_right _ (List.mem_of_getElem? (i := 14) (by decide +kernel))), ⟨by decide +kernel, by decide +kernel⟩, by decide +kernel⟩
abbrev m_X9_pealFrom : m0T := (yX9_pealFrom, cX9_pealFrom, 3, (some (.int)), [], 1)
theorem mo_X9_pealFrom : m0OK m_X9_pealFrom := ⟨(List.mem_append_right _ (List.mem_of_getElem? (i := 1670) (by decide +kernel))), rfl, by decide, (List.mem_append_right _ (List.mem_of_getElem? (i := 14) (by decide +kernel))), ⟨by decide +kernel, by decide +kernel⟩, by decide +kernel⟩
abbrev m_X9_peal : m0T := (yX9_peal, cX9_peal, 3, (some (.int)), [], 2)
theorem mo_X9_peal : m0OK m_X9_peal := ⟨(List.mem_append_right _ (List.mem_of_getElem? (i := 1666) (by decide +kernel))), rfl, by decide, (List.mem_append_right _ (List.mem_of_getElem? (i := 14) (by decide +kernel))), ⟨by decide +kernel, by decide +kernel⟩, by decide +kernel⟩
abbrev m_X9_inHall : m0T := (yX9_inHall, cX9_inHall, 3, (some (.int)), [], 0)
theorem mo_X9_inHall : m0OK m_X9_inHall := ⟨(List.mem_append_right _ (List.mem_of_getElem? (i := 1685) (by decide +kernel))), rfl, by decide, (List.mem_append_right _ (List.mem_of_getElem? (i := 14) (by decide +kernel))), ⟨by decide +kernel, by decide +kernel⟩, by decide +kernel⟩
abbrev m_X9_longest : m0T := (yX9_longest, cX9_longest, 3, (some (.int)), [], 0)
theorem mo_X9_longest : m0OK m_X9_longest := ⟨(List.mem_append_right _ (List.mem_of_getElem? (i := 1681) (by decide +kernel))), rfl, by decide, (List.mem_append_right _ (List.mem_of_getElem? (i := 14) (by decide +kernel))), ⟨by decide +kernel, by decide +kernel⟩, by decide +kernel⟩
abbrev m_X9_ranked : m0T := (yX9_ranked, cX9_ranked, 5, (some (.int)), [], 1)
theorem mo_X9_ranked : m0OK m_X9_ranked := ⟨(List.mem_append_right _ (List.mem_of_getElem? (i := 1689) (by decide +kernel))), rfl, by decide, (List.mem_append_right _ (List.mem_of_getElem? (i := 14) (by decide +kernel))), ⟨by decide +kernel, by decide +kernel⟩, by decide +kernel⟩
abbrev m_X9_pours : m0T := (yX9_pours, cX9_pours, 6, (some (.boolean)), [], 2)
theorem mo_X9_pours : m0OK m_X9_pours := ⟨(List.mem_append_right _ (List.mem_of_getElem? (i := 1701) (by decide +kernel))), rfl, by decide, (List.mem_append_right _ (List.mem_of_getElem? (i := 14) (by decide +kernel))), ⟨by decide +kernel, by decide +kernel⟩, by decide +kernel⟩
abbrev m_X9_many : m0T := (yX9_many, cX9_many, 3, (some (.int)), [], 1)
theorem mo_X9_many : m0OK m_X9_many := ⟨(List.mem_append_right _ (List.mem_of_getElem? (i := 1704) (by decide +kernel))), rfl, by decide, (List.mem_append_right _ (List.mem_of_getElem? (i := 14) (by decide +kernel))), ⟨by decide +kernel, by decide +kernel⟩, by decide +kernel⟩
abbrev m_X9_mostPoured : m0T := (yX9_mostPoured, cX9_mostPoured, 7, (some (.int)), [], 1)
theorem mo_X9_mostPoured : m0OK m_X9_mostPoured := ⟨(List.mem_append_right _ (List.mem_of_getElem? (i := 1697) (by decide +kernel))), rfl, by decide, (List.mem_append_right _ (List.mem_of_getElem? (i := 14) (by decide +kernel))), ⟨by decide +kernel, by decide +kernel⟩, by decide +kernel⟩
abbrev m_X9_hottest : m0T := (yX9_hottest, cX9_hottest, 4, (some (.int)), [], 1)
theorem mo_X9_hottest : m0OK m_X9_hottest := ⟨(List.mem_append_right _ (List.mem_of_getElem? (i := 1712) (by decide +kernel))), rfl, by decide, (List.mem_append_right _ (List.mem_of_getElem? (i := 14) (by decide +kernel))), ⟨by decide +kernel, by decide +kernel⟩, by decide +kernel⟩
abbrev m_X9_byHottest : m0T := (yX9_byHottest, cX9_byHottest, 4, (some (.int)), [], 0)
theorem mo_X9_byHottest : m0OK m_X9_byHottest := ⟨(List.mem_append_right _ (List.mem_of_getElem? (i := 1708) (by decide +kernel))), rfl, by decide, (List.mem_append_right _ (List.mem_of_getElem? (i := 14) (by decide +kernel))), ⟨by decide +kernel, by decide +kernel⟩, by decide +kernel⟩
abbrev m_X9_pourable : m0T := (yX9_pourable, cX9_pourable, 2, (some (.int)), [], 1)
theorem mo_X9_pourable : m0OK m_X9_pourable := ⟨(List.mem_append_right _ (List.mem_of_getElem? (i := 1693) (by decide +kernel))), rfl, by decide, (List.mem_append_right _ (List.mem_of_getElem? (i := 14) (by decide +kernel))), ⟨by decide +kernel, by decide +kernel⟩, by decide +kernel⟩
abbrev m_X9_first : m0T := (yX9_first, cX9_first, 3, (some (.int)), [], 0)
theorem mo_X9_first : m0OK m_X9_first := ⟨(List.mem_append_right _ (List.mem_of_getElem? (i := 1716) (by decide +kernel))), rfl, by decide, (List.mem_append_right _ (List.mem_of_getElem? (i := 14) (by decide +kernel))), ⟨by decide +kernel, by decide +kernel⟩, by decide +kernel⟩
abbrev m_X9_writes : m0T := (yX9_writes, cX9_writes, 2, none, [], 1)
theorem mo_X9_writes : m0OK m_X9_writes := ⟨(List.mem_append_right _ (List.mem_of_getElem? (i := 1728) (by decide +kernel))), rfl, by decide, (List.mem_append_right _ (List.mem_of_getElem? (i := 14) (by decide +kernel))), ⟨by decide +kernel, by decide +kernel⟩, by decide +kernel⟩
abbrev m_X9_writesNumber : m0T := (yX9_writesNumber, cX9_writesNumber, 2, none, [], 1)
theorem mo_X9_writesNumber : m0OK m_X9_writesNumber := ⟨(List.mem_append_right _ (List.mem_of_getElem? (i := 1724) (by decide +kernel))), rfl, by decide, (List.mem_append_right _ (List.mem_of_getElem? (i := 14) (by decide +kernel))), ⟨by decide +kernel, by decide +kernel⟩, by decide +kernel⟩
abbrev m_X9_line : m0T := (yX9_line, cX9_line, 3, (some (.int)), [], 1)
theorem mo_X9_line : m0OK m_X9_line := ⟨(List.mem_append_right _ (List.mem_of_getElem? (i := 1720) (by decide +kernel))), rfl, by decide, (List.mem_append_right _ (List.mem_of_getElem? (i := 14) (by decide +kernel))), ⟨by decide +kernel, by decide +kernel⟩, by decide +kernel⟩
abbrev m_X9_rackLine : m0T := (yX9_rackLine, cX9_rackLine, 3, (some (.int)), [], 1)
theorem mo_X9_rackLine : m0OK m_X9_rackLine := ⟨(List.mem_append_right _ (List.mem_of_getElem? (i := 1732) (by decide +kernel))), rfl, by decide, (List.mem_append_right _ (List.mem_of_getElem? (i := 14) (by decide +kernel))), ⟨by decide +kernel, by decide +kernel⟩, by decide +kernel⟩
abbrev m_X9_character : m0T := (yX9_character, cX9_character, 2, (some (.char)), [], 1)
theorem mo_X9_character : m0OK m_X9_character := ⟨(List.mem_append_right _ (List.mem_of_getElem? (i := 1736) (by decide +kernel))), rfl, by decide, (List.mem_append_right _ (List.mem_of_getElem? (i := 14) (by decide +kernel))), ⟨by decide +kernel, by decide +kernel⟩, by decide +kernel⟩
abbrev m_X9_append : m0T := (yX9_append, cX9_append, 2, (some (.int)), [], 1)
theorem mo_X9_append : m0OK m_X9_append := ⟨(List.mem_append_right _ (List.mem_of_getElem? (i := 1740) (by decide +kernel))), rfl, by decide, (List.mem_append_right _ (List.mem_of_getElem? (i := 14) (by decide +kernel))), ⟨by decide +kernel, by decide +kernel⟩, by decide +kernel⟩
abbrev m_X9_here : m0T := (yX9_here, cX9_here, 1, (some (.int)), [], 0)
theorem mo_X9_here : m0OK m_X9_here := ⟨(List.mem_append_right _ (List.mem_of_getElem? (i := 1756) (by decide +kernel))), rfl, by decide, (List.mem_append_right _ (List.mem_of_getElem? (i := 14) (by decide +kernel))), ⟨by decide +kernel, by decide +kernel⟩, by decide +kernel⟩
abbrev m_X9_skips : m0T := (yX9_skips, cX9_skips, 2, (some (.boolean)), [], 1)
theorem mo_X9_skips : m0OK m_X9_skips := ⟨(List.mem_append_right _ (List.mem_of_getElem? (i := 1760) (by decide +kernel))), rfl, by decide, (List.mem_append_right _ (List.mem_of_getElem? (i := 14) (by decide +kernel))), ⟨by decide +kernel, by decide +kernel⟩, by decide +kernel⟩
abbrev m_X9_figures : m0T := (yX9_figures, cX9_figures, 4, (some (.boolean)), [], 2)
theorem mo_X9_figures : m0OK m_X9_figures := ⟨(List.mem_append_right _ (List.mem_of_getElem? (i := 1764) (by decide +kernel))), rfl, by decide, (List.mem_append_right _ (List.mem_of_getElem? (i := 14) (by decide +kernel))), ⟨by decide +kernel, by decide +kernel⟩, by decide +kernel⟩
abbrev m_X9_orderHere : m0T := (yX9_orderHere, cX9_orderHere, 2, (some (.boolean)), [], 0)
theorem mo_X9_orderHere : m0OK m_X9_orderHere := ⟨(List.mem_append_right _ (List.mem_of_getElem? (i := 1752) (by decide +kernel))), rfl, by decide, (List.mem_append_right _ (List.mem_of_getElem? (i := 14) (by decide +kernel))), ⟨by decide +kernel, by decide +kernel⟩, by decide +kernel⟩
abbrev m_X9_isText : m0T := (yX9_isText, cX9_isText, 1, (some (.boolean)), [], 0)
theorem mo_X9_isText : m0OK m_X9_isText := ⟨(List.mem_append_right _ (List.mem_of_getElem? (i := 1748) (by decide +kernel))), rfl, by decide, (List.mem_append_right _ (List.mem_of_getElem? (i := 14) (by decide +kernel))), ⟨by decide +kernel, by decide +kernel⟩, by decide +kernel⟩
abbrev m_X9_carries : m0T := (yX9_carries, cX9_carries, 2, (some (.int)), [], 1)
theorem mo_X9_carries : m0OK m_X9_carries := ⟨(List.mem_append_right _ (List.mem_of_getElem? (i := 1768) (by decide +kernel))), rfl, by decide, (List.mem_append_right _ (List.mem_of_getElem? (i := 14) (by decide +kernel))), ⟨by decide +kernel, by decide +kernel⟩, by decide +kernel⟩
abbrev m_X9_run : m0T := (yX9_run, cX9_run, 4, (some (.int)), [], 0)
theorem mo_X9_run : m0OK m_X9_run := ⟨(List.mem_append_right _ (List.mem_of_getElem? (i := 1744) (by decide +kernel))), rfl, by decide, (List.mem_append_right _ (List.mem_of_getElem? (i := 14) (by decide +kernel))), ⟨by decide +kernel, by decide +kernel⟩, by decide +kernel⟩
abbrev m_X9_errorPosition : m0T := (yX9_errorPosition, cX9_errorPosition, 1, (some (.int)), [], 0)
theorem mo_X9_errorPosition : m0OK m_X9_errorPosition := ⟨(List.mem_append_right _ (List.mem_of_getElem? (i := 1780) (by decide +kernel))), rfl, by decide, (List.mem_append_right _ (List.mem_of_getElem? (i := 14) (by decide +kernel))), ⟨by decide +kernel, by decide +kernel⟩, by decide +kernel⟩
abbrev m_X9_refusal : m0T := (yX9_refusal, cX9_refusal, 2, (some (.int)), [], 1)
theorem mo_X9_refusal : m0OK m_X9_refusal := ⟨(List.mem_append_right _ (List.mem_of_getElem? (i := 1784) (by decide +kernel))), rfl, by decide, (List.mem_append_right _ (List.mem_of_getElem? (i := 14) (by decide +kernel))), ⟨by decide +kernel, by decide +kernel⟩, by decide +kernel⟩
abbrev m_X9_allOf : m0T := (yX9_allOf, cX9_allOf, 4, (some (.int)), [], 1)
theorem mo_X9_allOf : m0OK m_X9_allOf := ⟨(List.mem_append_right _ (List.mem_of_getElem? (i := 1792) (by decide +kernel))), rfl, by decide, (List.mem_append_right _ (List.mem_of_getElem? (i := 14) (by decide +kernel))), ⟨by decide +kernel, by decide +kernel⟩, by decide +kernel⟩
abbrev m_X9_sound : m0T := (yX9_sound, cX9_sound, 4, (some (.int)), [], 1)
theorem mo_X9_sound : m0OK m_X9_sound := ⟨(List.mem_append_right _ (List.mem_of_getElem? (i := 1796) (by decide +kernel))), rfl, by decide, (List.mem_append_right _ (List.mem_of_getElem? (i := 14) (by decide +kernel))), ⟨by decide +kernel, by decide +kernel⟩, by decide +kernel⟩
abbrev m_X9_account : m0T := (yX9_account, cX9_account, 2, (some (.int)), [], 1)
theorem mo_X9_account : m0OK m_X9_account := ⟨(List.mem_append_right _ (List.mem_of_getElem? (i := 1788) (by decide +kernel))), rfl, by decide, (List.mem_append_right _ (List.mem_of_getElem? (i := 14) (by decide +kernel))), ⟨by decide +kernel, by decide +kernel⟩, by decide +kernel⟩
abbrev m_X9_isWell : m0T := (yX9_isWell, cX9_isWell, 2, (some (.boolean)), [], 0)
theorem mo_X9_isWell : m0OK m_X9_isWell := ⟨(List.mem_append_right _ (List.mem_of_getElem? (i := 1800) (by decide +kernel))), rfl, by decide, (List.mem_append_right _ (List.mem_of_getElem? (i := 14) (by decide +kernel))), ⟨by decide +kernel, by decide +kernel⟩, by decide +kernel⟩
abbrev m_X9_meanNote : m0T := (yX9_meanNote, cX9_meanNote, 3, (some (.double)), [], 0)
theorem mo_X9_meanNote : m0OK m_X9_meanNote := ⟨(List.mem_append_right _ (List.mem_of_getElem? (i := 1804) (by decide +kernel))), rfl, by decide, (List.mem_append_right _ (List.mem_of_getElem? (i := 14) (by decide +kernel))), ⟨by decide +kernel, by decide +kernel⟩, by decide +kernel⟩
abbrev m_X9_soundShare : m0T := (yX9_soundShare, cX9_soundShare, 1, (some (.float)), [], 0)
theorem mo_X9_soundShare : m0OK m_X9_soundShare := ⟨(List.mem_append_right _ (List.mem_of_getElem? (i := 1808) (by decide +kernel))), rfl, by decide, (List.mem_append_right _ (List.mem_of_getElem? (i := 14) (by decide +kernel))), ⟨by decide +kernel, by decide +kernel⟩, by decide +kernel⟩
abbrev m_X9_undo : m0T := (yX9_undo, cX9_undo, 1, (some (.int)), [], 0)
theorem mo_X9_undo : m0OK m_X9_undo := ⟨(List.mem_append_right _ (List.mem_of_getElem? (i := 1812) (by decide +kernel))), rfl, by decide, (List.mem_append_right _ (List.mem_of_getElem? (i := 14) (by decide +kernel))), ⟨by decide +kernel, by decide +kernel⟩, by decide +kernel⟩
abbrev m_X9_save : m0T := (yX9_save, cX9_save, 1, (some (.int)), [], 0)
theorem mo_X9_save : m0OK m_X9_save := ⟨(List.mem_append_right _ (List.mem_of_getElem? (i := 1816) (by decide +kernel))), rfl, by decide, (List.mem_append_right _ (List.mem_of_getElem? (i := 14) (by decide +kernel))), ⟨by decide +kernel, by decide +kernel⟩, by decide +kernel⟩
abbrev m_X9_restore : m0T := (yX9_restore, cX9_restore, 1, (some (.int)), [], 0)
theorem mo_X9_restore : m0OK m_X9_restore := ⟨(List.mem_append_right _ (List.mem_of_getElem? (i := 1820) (by decide +kernel))), rfl, by decide, (List.mem_append_right _ (List.mem_of_getElem? (i := 14) (by decide +kernel))), ⟨by decide +kernel, by decide +kernel⟩, by decide +kernel⟩
abbrev m_J5_init_d00df : m0T := (yJ5_init_d00df, cJ5_init_d00df, 2, none, [], 1)
theorem mo_J5_init_d00df : m0OK m_J5_init_d00df := ⟨(List.mem_append_right _ (List.mem_of_getElem? (i := 214) (by decide +kernel))), rfl, by decide, (List.mem_append_right _ (List.mem_of_getElem? (i := 10) (by decide +kernel))), ⟨by decide +kernel, by decide +kernel⟩, by decide +kernel⟩
abbrev m_J5_length_8abf5 : m0T := (yJ5_length_8abf5, cJ5_length_8abf5, 1, (some (.int)), [], 0)
theorem mo_J5_length_8abf5 : m0OK m_J5_length_8abf5 := ⟨(List.mem_append_right _ (List.mem_of_getElem? (i := 1109) (by decide +kernel))), rfl, by decide, (List.mem_append_right _ (List.mem_of_getElem? (i := 10) (by decide +kernel))), ⟨by decide +kernel, by decide +kernel⟩, by decide +kernel⟩
abbrev m_J5_ensureCapacityInternal_d00df : m0T := (yJ5_ensureCapacityInternal_d00df, cJ5_ensureCapacityInternal_d00df, 3, none, [], 1)
theorem mo_J5_ensureCapacityInternal_d00df : m0OK m_J5_ensureCapacityInternal_d00df := ⟨(List.mem_append_right _ (List.mem_of_getElem? (i := 958) (by decide +kernel))), rfl, by decide, (List.mem_append_right _ (List.mem_of_getElem? (i := 10) (by decide +kernel))), ⟨by decide +kernel, by decide +kernel⟩, by decide +kernel⟩
abbrev m_J5_newCapacity_0f7a4 : m0T := (yJ5_newCapacity_0f7a4, cJ5_newCapacity_0f7a4, 6, (some (.int)), [], 1)
theorem mo_J5_newCapacity_0f7a4 : m0OK m_J5_newCapacity_0f7a4 := ⟨(List.mem_append_right _ (List.mem_of_getElem? (i := 962) (by decide +kernel))), rfl, by decide, (List.mem_append_right _ (List.mem_of_getElem? (i := 10) (by decide +kernel))), ⟨by decide +kernel, by decide +kernel⟩, by decide +kernel⟩
abbrev m_J5_setLength_d00df : m0T := (yJ5_setLength_d00df, cJ5_setLength_d00df, 2, none, [], 1)
theorem mo_J5_setLength_d00df : m0OK m_J5_setLength_d00df := ⟨(List.mem_append_right _ (List.mem_of_getElem? (i := 935) (by decide +kernel))), rfl, by decide, (List.mem_append_right _ (List.mem_of_getElem? (i := 10) (by decide +kernel))), ⟨by decide +kernel, by decide +kernel⟩, by decide +kernel⟩
abbrev m_J5_charAt_5068e : m0T := (yJ5_charAt_5068e, cJ5_charAt_5068e, 5, (some (.char)), [], 1)
theorem mo_J5_charAt_5068e : m0OK m_J5_charAt_5068e := ⟨(List.mem_append_right _ (List.mem_of_getElem? (i := 1231) (by decide +kernel))), rfl, by decide, (List.mem_append_right _ (List.mem_of_getElem? (i := 10) (by decide +kernel))), ⟨by decide +kernel, by decide +kernel⟩, by decide +kernel⟩
abbrev m_J5_append_3fe6f : m0T := (yJ5_append_3fe6f, cJ5_append_3fe6f, 2, (some (.object "java/lang/AbstractStringBuilder")), [], 1)
theorem mo_J5_append_3fe6f : m0OK m_J5_append_3fe6f := ⟨(List.mem_append_right _ (List.mem_of_getElem? (i := 1189) (by decide +kernel))), rfl, by decide, (List.mem_append_right _ (List.mem_of_getElem? (i := 10) (by decide +kernel))), ⟨by decide +kernel, by decide +kernel⟩, by decide +kernel⟩
abbrev m_J5_append_c97b9 : m0T := (yJ5_append_c97b9, cJ5_append_c97b9, 4, (some (.object "java/lang/AbstractStringBuilder")), [], 1)
theorem mo_J5_append_c97b9 : m0OK m_J5_append_c97b9 := ⟨(List.mem_append_right _ (List.mem_of_getElem? (i := 1066) (by decide +kernel))), rfl, by decide, (List.mem_append_right _ (List.mem_of_getElem? (i := 10) (by decide +kernel))), ⟨by decide +kernel, by decide +kernel⟩, by decide +kernel⟩
abbrev m_J5_isLatin1_aae02 : m0T := (yJ5_isLatin1_aae02, cJ5_isLatin1_aae02, 1, (some (.boolean)), [], 0)
theorem mo_J5_isLatin1_aae02 : m0OK m_J5_isLatin1_aae02 := ⟨(List.mem_append_right _ (List.mem_of_getElem? (i := 990) (by decide +kernel))), rfl, by decide, (List.mem_append_right _ (List.mem_of_getElem? (i := 10) (by decide +kernel))), ⟨by decide +kernel, by decide +kernel⟩, by decide +kernel⟩
abbrev m_J6_getChars_ba4f3 : m0T := (yJ6_getChars_ba4f3, cJ6_getChars_ba4f3, 7, (some (.int)), [], 3)
theorem mo_J6_getChars_ba4f3 : m0OK m_J6_getChars_ba4f3 := ⟨(List.mem_append_right _ (List.mem_of_getElem? (i := 1072) (by decide +kernel))), rfl, by decide, (List.mem_append_right _ (List.mem_of_getElem? (i := 30) (by decide +kernel))), ⟨by decide +kernel, by decide +kernel⟩, by decide +kernel⟩
abbrev m_J6_stringSize_0f7a4 : m0T := (yJ6_stringSize_0f7a4, cJ6_stringSize_0f7a4, 4, (some (.int)), [], 1)
theorem mo_J6_stringSize_0f7a4 : m0OK m_J6_stringSize_0f7a4 := ⟨(List.mem_append_right _ (List.mem_of_getElem? (i := 1069) (by decide +kernel))), rfl, by decide, (List.mem_append_right _ (List.mem_of_getElem? (i := 30) (by decide +kernel))), ⟨by decide +kernel, by decide +kernel⟩, by decide +kernel⟩
abbrev m_J0_checkIndex_df160 : m0T := (yJ0_checkIndex_df160, cJ0_checkIndex_df160, 2, none, [], 2)
theorem mo_J0_checkIndex_df160 : m0OK m_J0_checkIndex_df160 := ⟨(List.mem_append_right _ (List.mem_of_getElem? (i := 1201) (by decide +kernel))), rfl, by decide, (List.mem_append_right _ (List.mem_of_getElem? (i := 12) (by decide +kernel))), ⟨by decide +kernel, by decide +kernel⟩, by decide +kernel⟩
abbrev m_J4_init_da8c8 : m0T := (yJ4_init_da8c8, cJ4_init_da8c8, 1, none, [], 0)
theorem mo_J4_init_da8c8 : m0OK m_J4_init_da8c8 := ⟨(List.mem_append_right _ (List.mem_of_getElem? (i := 211) (by decide +kernel))), rfl, by decide, (List.mem_append_right _ (List.mem_of_getElem? (i := 11) (by decide +kernel))), ⟨by decide +kernel, by decide +kernel⟩, by decide +kernel⟩
abbrev m_J4_append_cf468 : m0T := (yJ4_append_cf468, cJ4_append_cf468, 2, (some (.object "java/lang/StringBuilder")), [], 1)
theorem mo_J4_append_cf468 : m0OK m_J4_append_cf468 := ⟨(List.mem_append_right _ (List.mem_of_getElem? (i := 1186) (by decide +kernel))), rfl, by decide, (List.mem_append_right _ (List.mem_of_getElem? (i := 11) (by decide +kernel))), ⟨by decide +kernel, by decide +kernel⟩, by decide +kernel⟩
abbrev m_J4_append_bf812 : m0T := (yJ4_append_bf812, cJ4_append_bf812, 2, (some (.object "java/lang/StringBuilder")), [], 1)
theorem mo_J4_append_bf812 : m0OK m_J4_append_bf812 := ⟨(List.mem_append_right _ (List.mem_of_getElem? (i := 1063) (by decide +kernel))), rfl, by decide, (List.mem_append_right _ (List.mem_of_getElem? (i := 11) (by decide +kernel))), ⟨by decide +kernel, by decide +kernel⟩, by decide +kernel⟩
abbrev m_J4_charAt_5068e : m0T := (yJ4_charAt_5068e, cJ4_charAt_5068e, 2, (some (.char)), [], 1)
theorem mo_J4_charAt_5068e : m0OK m_J4_charAt_5068e := ⟨(List.mem_append_right _ (List.mem_of_getElem? (i := 1228) (by decide +kernel))), rfl, by decide, (List.mem_append_right _ (List.mem_of_getElem? (i := 11) (by decide +kernel))), ⟨by decide +kernel, by decide +kernel⟩, by decide +kernel⟩
abbrev m_J4_setLength_d00df : m0T := (yJ4_setLength_d00df, cJ4_setLength_d00df, 2, none, [], 1)
theorem mo_J4_setLength_d00df : m0OK m_J4_setLength_d00df := ⟨(List.mem_append_right _ (List.mem_of_getElem? (i := 932) (by decide +kernel))), rfl, by decide, (List.mem_append_right _ (List.mem_of_getElem? (i := 11) (by decide +kernel))), ⟨by decide +kernel, by decide +kernel⟩, by decide +kernel⟩
abbrev m_J4_length_8abf5 : m0T := (yJ4_length_8abf5, cJ4_length_8abf5, 1, (some (.int)), [], 0)
theorem mo_J4_length_8abf5 : m0OK m_J4_length_8abf5 := ⟨(List.mem_append_right _ (List.mem_of_getElem? (i := 1107) (by decide +kernel))), rfl, by decide, (List.mem_append_right _ (List.mem_of_getElem? (i := 11) (by decide +kernel))), ⟨by decide +kernel, by decide +kernel⟩, by decide +kernel⟩
abbrev m_J1_canEncode_fc78d : m0T := (yJ1_canEncode_fc78d, cJ1_canEncode_fc78d, 1, (some (.boolean)), [], 1)
theorem mo_J1_canEncode_fc78d : m0OK m_J1_canEncode_fc78d := ⟨(List.mem_append_right _ (List.mem_of_getElem? (i := 1192) (by decide +kernel))), rfl, by decide, (List.mem_append_right _ (List.mem_of_getElem? (i := 28) (by decide +kernel))), ⟨by decide +kernel, by decide +kernel⟩, by decide +kernel⟩
abbrev m_J7_copyOf_9075b : m0T := (yJ7_copyOf_9075b, cJ7_copyOf_9075b, 3, (some (.array .byte)), [], 2)
theorem mo_J7_copyOf_9075b : m0OK m_J7_copyOf_9075b := ⟨(List.mem_append_right _ (List.mem_of_getElem? (i := 974) (by decide +kernel))), rfl, by decide, (List.mem_append_right _ (List.mem_of_getElem? (i := 25) (by decide +kernel))), ⟨by decide +kernel, by decide +kernel⟩, by decide +kernel⟩
abbrev m_J8_newLength_cabcc : m0T := (yJ8_newLength_cabcc, cJ8_newLength_cabcc, 4, (some (.int)), [], 3)
theorem mo_J8_newLength_cabcc : m0OK m_J8_newLength_cabcc := ⟨(List.mem_append_right _ (List.mem_of_getElem? (i := 965) (by decide +kernel))), rfl, by decide, (List.mem_append_right _ (List.mem_of_getElem? (i := 24) (by decide +kernel))), ⟨by decide +kernel, by decide +kernel⟩, by decide +kernel⟩
abbrev m_J3_checkIndex_8e157 : m0T := (yJ3_checkIndex_8e157, cJ3_checkIndex_8e157, 3, (some (.int)), [], 3)
theorem mo_J3_checkIndex_8e157 : m0OK m_J3_checkIndex_8e157 := ⟨(List.mem_append_right _ (List.mem_of_getElem? (i := 1204) (by decide +kernel))), rfl, by decide, (List.mem_append_right _ (List.mem_of_getElem? (i := 27) (by decide +kernel))), ⟨by decide +kernel, by decide +kernel⟩, by decide +kernel⟩
abbrev m_L_coal : m0T := (yL_coal, cL_coal, 4, (some (.int)), [(0, 9, 12, 13)], 3)
theorem mo_L_coal : m0OK m_L_coal := ⟨(List.mem_append_right _ (List.mem_of_getElem? (i := 413) (by decide +kernel))), rfl, by decide, (List.mem_append_right _ (List.mem_of_getElem? (i := 0) (by decide +kernel))), ⟨by decide +kernel, by decide +kernel⟩, by decide +kernel⟩
abbrev m_L_bronze : m0T := (yL_bronze, cL_bronze, 4, (some (.int)), [(0, 9, 12, 13), (0, 9, 15, 18)], 3)
theorem mo_L_bronze : m0OK m_L_bronze := ⟨(List.mem_append_right _ (List.mem_of_getElem? (i := 508) (by decide +kernel))), rfl, by decide, (List.mem_append_right _ (List.mem_of_getElem? (i := 0) (by decide +kernel))), ⟨by decide +kernel, by decide +kernel⟩, by decide +kernel⟩
abbrev m_L_mould : m0T := (yL_mould, cL_mould, 5, (some (.int)), [(0, 10, 13, 13), (0, 10, 17, 18)], 4)
theorem mo_L_mould : m0OK m_L_mould := ⟨(List.mem_append_right _ (List.mem_of_getElem? (i := 545) (by decide +kernel))), rfl, by decide, (List.mem_append_right _ (List.mem_of_getElem? (i := 0) (by decide +kernel))), ⟨by decide +kernel, by decide +kernel⟩, by decide +kernel⟩
abbrev m_L_smash : m0T := (yL_smash, cL_smash, 4, (some (.int)), [(0, 9, 12, 27)], 3)
theorem mo_L_smash : m0OK m_L_smash := ⟨(List.mem_append_right _ (List.mem_of_getElem? (i := 573) (by decide +kernel))), rfl, by decide, (List.mem_append_right _ (List.mem_of_getElem? (i := 0) (by decide +kernel))), ⟨by decide +kernel, by decide +kernel⟩, by decide +kernel⟩
abbrev m_L_mouldOf : m0T := (yL_mouldOf, cL_mouldOf, 5, (some (.int)), [(0, 10, 13, 27), (0, 10, 17, 13)], 4)
theorem mo_L_mouldOf : m0OK m_L_mouldOf := ⟨(List.mem_append_right _ (List.mem_of_getElem? (i := 625) (by decide +kernel))), rfl, by decide, (List.mem_append_right _ (List.mem_of_getElem? (i := 0) (by decide +kernel))), ⟨by decide +kernel, by decide +kernel⟩, by decide +kernel⟩
abbrev m_L_rack : m0T := (yL_rack, cL_rack, 4, (some (.int)), [(0, 9, 12, 13), (0, 9, 15, 18)], 3)
theorem mo_L_rack : m0OK m_L_rack := ⟨(List.mem_append_right _ (List.mem_of_getElem? (i := 636) (by decide +kernel))), rfl, by decide, (List.mem_append_right _ (List.mem_of_getElem? (i := 0) (by decide +kernel))), ⟨by decide +kernel, by decide +kernel⟩, by decide +kernel⟩
abbrev m_L_strike : m0T := (yL_strike, cL_strike, 4, (some (.int)), [(0, 9, 12, 27), (0, 9, 15, 18)], 3)
theorem mo_L_strike : m0OK m_L_strike := ⟨(List.mem_append_right _ (List.mem_of_getElem? (i := 653) (by decide +kernel))), rfl, by decide, (List.mem_append_right _ (List.mem_of_getElem? (i := 0) (by decide +kernel))), ⟨by decide +kernel, by decide +kernel⟩, by decide +kernel⟩
abbrev m_L_rackOf : m0T := (yL_rackOf, cL_rackOf, 5, (some (.int)), [(0, 10, 13, 27), (0, 10, 17, 13)], 4)
theorem mo_L_rackOf : m0OK m_L_rackOf := ⟨(List.mem_append_right _ (List.mem_of_getElem? (i := 676) (by decide +kernel))), rfl, by decide, (List.mem_append_right _ (List.mem_of_getElem? (i := 0) (by decide +kernel))), ⟨by decide +kernel, by decide +kernel⟩, by decide +kernel⟩
abbrev m_L_pour : m0T := (yL_pour, cL_pour, 5, (some (.int)), [(0, 10, 13, 27), (0, 10, 17, 18)], 4)
theorem mo_L_pour : m0OK m_L_pour := ⟨(List.mem_append_right _ (List.mem_of_getElem? (i := 689) (by decide +kernel))), rfl, by decide, (List.mem_append_right _ (List.mem_of_getElem? (i := 0) (by decide +kernel))), ⟨by decide +kernel, by decide +kernel⟩, by decide +kernel⟩
abbrev m_L_pass : m0T := (yL_pass, cL_pass, 4, (some (.int)), [(0, 9, 12, 13)], 3)
theorem mo_L_pass : m0OK m_L_pass := ⟨(List.mem_append_right _ (List.mem_of_getElem? (i := 714) (by decide +kernel))), rfl, by decide, (List.mem_append_right _ (List.mem_of_getElem? (i := 0) (by decide +kernel))), ⟨by decide +kernel, by decide +kernel⟩, by decide +kernel⟩
abbrev m_L_take : m0T := (yL_take, cL_take, 4, (some (.int)), [(0, 9, 12, 27), (0, 9, 15, 18)], 3)
theorem mo_L_take : m0OK m_L_take := ⟨(List.mem_append_right _ (List.mem_of_getElem? (i := 743) (by decide +kernel))), rfl, by decide, (List.mem_append_right _ (List.mem_of_getElem? (i := 0) (by decide +kernel))), ⟨by decide +kernel, by decide +kernel⟩, by decide +kernel⟩
abbrev m_L_ring : m0T := (yL_ring, cL_ring, 4, (some (.int)), [(0, 9, 12, 27), (0, 9, 15, 18)], 3)
theorem mo_L_ring : m0OK m_L_ring := ⟨(List.mem_append_right _ (List.mem_of_getElem? (i := 760) (by decide +kernel))), rfl, by decide, (List.mem_append_right _ (List.mem_of_getElem? (i := 0) (by decide +kernel))), ⟨by decide +kernel, by decide +kernel⟩, by decide +kernel⟩
abbrev m_L_file : m0T := (yL_file, cL_file, 5, (some (.int)), [(0, 10, 13, 27), (0, 10, 17, 13), (0, 10, 21, 18)], 4)
theorem mo_L_file : m0OK m_L_file := ⟨(List.mem_append_right _ (List.mem_of_getElem? (i := 776) (by decide +kernel))), rfl, by decide, (List.mem_append_right _ (List.mem_of_getElem? (i := 0) (by decide +kernel))), ⟨by decide +kernel, by decide +kernel⟩, by decide +kernel⟩
abbrev m_L_recast : m0T := (yL_recast, cL_recast, 4, (some (.int)), [(0, 9, 12, 27), (0, 9, 15, 18)], 3)
theorem mo_L_recast : m0OK m_L_recast := ⟨(List.mem_append_right _ (List.mem_of_getElem? (i := 795) (by decide +kernel))), rfl, by decide, (List.mem_append_right _ (List.mem_of_getElem? (i := 0) (by decide +kernel))), ⟨by decide +kernel, by decide +kernel⟩, by decide +kernel⟩
abbrev m_L_bellOf : m0T := (yL_bellOf, cL_bellOf, 5, (some (.int)), [(0, 10, 13, 27), (0, 10, 17, 13)], 4)
theorem mo_L_bellOf : m0OK m_L_bellOf := ⟨(List.mem_append_right _ (List.mem_of_getElem? (i := 816) (by decide +kernel))), rfl, by decide, (List.mem_append_right _ (List.mem_of_getElem? (i := 0) (by decide +kernel))), ⟨by decide +kernel, by decide +kernel⟩, by decide +kernel⟩
abbrev m_L_note : m0T := (yL_note, cL_note, 5, (some (.int)), [(0, 10, 13, 27)], 4)
theorem mo_L_note : m0OK m_L_note := ⟨(List.mem_append_right _ (List.mem_of_getElem? (i := 824) (by decide +kernel))), rfl, by decide, (List.mem_append_right _ (List.mem_of_getElem? (i := 0) (by decide +kernel))), ⟨by decide +kernel, by decide +kernel⟩, by decide +kernel⟩
abbrev m_L_wouldCrack : m0T := (yL_wouldCrack, cL_wouldCrack, 5, (some (.int)), [(0, 10, 13, 27), (0, 10, 17, 13)], 4)
theorem mo_L_wouldCrack : m0OK m_L_wouldCrack := ⟨(List.mem_append_right _ (List.mem_of_getElem? (i := 831) (by decide +kernel))), rfl, by decide, (List.mem_append_right _ (List.mem_of_getElem? (i := 0) (by decide +kernel))), ⟨by decide +kernel, by decide +kernel⟩, by decide +kernel⟩
abbrev m_L_coldIn : m0T := (yL_coldIn, cL_coldIn, 4, (some (.int)), [(0, 9, 12, 27)], 3)
theorem mo_L_coldIn : m0OK m_L_coldIn := ⟨(List.mem_append_right _ (List.mem_of_getElem? (i := 843) (by decide +kernel))), rfl, by decide, (List.mem_append_right _ (List.mem_of_getElem? (i := 0) (by decide +kernel))), ⟨by decide +kernel, by decide +kernel⟩, by decide +kernel⟩
abbrev m_L_peal : m0T := (yL_peal, cL_peal, 5, (some (.int)), [(0, 10, 13, 13)], 4)
theorem mo_L_peal : m0OK m_L_peal := ⟨(List.mem_append_right _ (List.mem_of_getElem? (i := 854) (by decide +kernel))), rfl, by decide, (List.mem_append_right _ (List.mem_of_getElem? (i := 0) (by decide +kernel))), ⟨by decide +kernel, by decide +kernel⟩, by decide +kernel⟩
abbrev m_L_longest : m0T := (yL_longest, cL_longest, 3, (some (.int)), [(0, 8, 11, 79)], 2)
theorem mo_L_longest : m0OK m_L_longest := ⟨(List.mem_append_right _ (List.mem_of_getElem? (i := 862) (by decide +kernel))), rfl, by decide, (List.mem_append_right _ (List.mem_of_getElem? (i := 0) (by decide +kernel))), ⟨by decide +kernel, by decide +kernel⟩, by decide +kernel⟩
abbrev m_L_ranked : m0T := (yL_ranked, cL_ranked, 4, (some (.int)), [(0, 9, 12, 79)], 3)
theorem mo_L_ranked : m0OK m_L_ranked := ⟨(List.mem_append_right _ (List.mem_of_getElem? (i := 891) (by decide +kernel))), rfl, by decide, (List.mem_append_right _ (List.mem_of_getElem? (i := 0) (by decide +kernel))), ⟨by decide +kernel, by decide +kernel⟩, by decide +kernel⟩
abbrev m_L_first : m0T := (yL_first, cL_first, 3, (some (.int)), [(0, 8, 11, 79)], 2)
theorem mo_L_first : m0OK m_L_first := ⟨(List.mem_append_right _ (List.mem_of_getElem? (i := 907) (by decide +kernel))), rfl, by decide, (List.mem_append_right _ (List.mem_of_getElem? (i := 0) (by decide +kernel))), ⟨by decide +kernel, by decide +kernel⟩, by decide +kernel⟩
abbrev m_L_line : m0T := (yL_line, cL_line, 4, (some (.int)), [(0, 9, 12, 27)], 3)
theorem mo_L_line : m0OK m_L_line := ⟨(List.mem_append_right _ (List.mem_of_getElem? (i := 920) (by decide +kernel))), rfl, by decide, (List.mem_append_right _ (List.mem_of_getElem? (i := 0) (by decide +kernel))), ⟨by decide +kernel, by decide +kernel⟩, by decide +kernel⟩
abbrev m_L_rackLine : m0T := (yL_rackLine, cL_rackLine, 4, (some (.int)), [(0, 9, 12, 27)], 3)
theorem mo_L_rackLine : m0OK m_L_rackLine := ⟨(List.mem_append_right _ (List.mem_of_getElem? (i := 1208) (by decide +kernel))), rfl, by decide, (List.mem_append_right _ (List.mem_of_getElem? (i := 0) (by decide +kernel))), ⟨by decide +kernel, by decide +kernel⟩, by decide +kernel⟩
abbrev m_L_character : m0T := (yL_character, cL_character, 4, (some (.int)), [(0, 9, 12, 27)], 3)
theorem mo_L_character : m0OK m_L_character := ⟨(List.mem_append_right _ (List.mem_of_getElem? (i := 1219) (by decide +kernel))), rfl, by decide, (List.mem_append_right _ (List.mem_of_getElem? (i := 0) (by decide +kernel))), ⟨by decide +kernel, by decide +kernel⟩, by decide +kernel⟩
abbrev m_L_append : m0T := (yL_append, cL_append, 4, (some (.int)), [(0, 9, 12, 101)], 3)
theorem mo_L_append : m0OK m_L_append := ⟨(List.mem_append_right _ (List.mem_of_getElem? (i := 1237) (by decide +kernel))), rfl, by decide, (List.mem_append_right _ (List.mem_of_getElem? (i := 0) (by decide +kernel))), ⟨by decide +kernel, by decide +kernel⟩, by decide +kernel⟩
abbrev m_L_run : m0T := (yL_run, cL_run, 3, (some (.int)), [(0, 8, 11, 13), (0, 8, 14, 18)], 2)
theorem mo_L_run : m0OK m_L_run := ⟨(List.mem_append_right _ (List.mem_of_getElem? (i := 1274) (by decide +kernel))), rfl, by decide, (List.mem_append_right _ (List.mem_of_getElem? (i := 0) (by decide +kernel))), ⟨by decide +kernel, by decide +kernel⟩, by decide +kernel⟩
abbrev m_L_refusal : m0T := (yL_refusal, cL_refusal, 4, (some (.int)), [(0, 9, 12, 79)], 3)
theorem mo_L_refusal : m0OK m_L_refusal := ⟨(List.mem_append_right _ (List.mem_of_getElem? (i := 1348) (by decide +kernel))), rfl, by decide, (List.mem_append_right _ (List.mem_of_getElem? (i := 0) (by decide +kernel))), ⟨by decide +kernel, by decide +kernel⟩, by decide +kernel⟩
abbrev m_L_account : m0T := (yL_account, cL_account, 4, (some (.int)), [(0, 9, 12, 13)], 3)
theorem mo_L_account : m0OK m_L_account := ⟨(List.mem_append_right _ (List.mem_of_getElem? (i := 1356) (by decide +kernel))), rfl, by decide, (List.mem_append_right _ (List.mem_of_getElem? (i := 0) (by decide +kernel))), ⟨by decide +kernel, by decide +kernel⟩, by decide +kernel⟩
abbrev m_L_meanNote : m0T := (yL_meanNote, cL_meanNote, 3, (some (.int)), [(0, 7, 10, 117)], 2)
theorem mo_L_meanNote : m0OK m_L_meanNote := ⟨(List.mem_append_right _ (List.mem_of_getElem? (i := 1376) (by decide +kernel))), rfl, by decide, (List.mem_append_right _ (List.mem_of_getElem? (i := 0) (by decide +kernel))), ⟨by decide +kernel, by decide +kernel⟩, by decide +kernel⟩
abbrev m_L_soundShare : m0T := (yL_soundShare, cL_soundShare, 3, (some (.int)), [(0, 8, 11, 117)], 2)
theorem mo_L_soundShare : m0OK m_L_soundShare := ⟨(List.mem_append_right _ (List.mem_of_getElem? (i := 1404) (by decide +kernel))), rfl, by decide, (List.mem_append_right _ (List.mem_of_getElem? (i := 0) (by decide +kernel))), ⟨by decide +kernel, by decide +kernel⟩, by decide +kernel⟩
abbrev m_L_undo : m0T := (yL_undo, cL_undo, 3, (some (.int)), [(0, 8, 11, 101)], 2)
theorem mo_L_undo : m0OK m_L_undo := ⟨(List.mem_append_right _ (List.mem_of_getElem? (i := 1412) (by decide +kernel))), rfl, by decide, (List.mem_append_right _ (List.mem_of_getElem? (i := 0) (by decide +kernel))), ⟨by decide +kernel, by decide +kernel⟩, by decide +kernel⟩
abbrev m_L_restore : m0T := (yL_restore, cL_restore, 3, (some (.int)), [(0, 8, 11, 101)], 2)
theorem mo_L_restore : m0OK m_L_restore := ⟨(List.mem_append_right _ (List.mem_of_getElem? (i := 1424) (by decide +kernel))), rfl, by decide, (List.mem_append_right _ (List.mem_of_getElem? (i := 0) (by decide +kernel))), ⟨by decide +kernel, by decide +kernel⟩, by decide +kernel⟩
