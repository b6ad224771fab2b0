/-! The law: its thirty calls -/
theorem op_0 : opD 168 5 13 17 := by
  refine ⟨by decide +kernel, fun j hj => by
    match j, hj with
    | 0, _ => exact ⟨by decide +kernel, by decide +kernel, by decide +kernel, by decide +kernel, by decide +kernel⟩
    | 1, _ => exact ⟨by decide +kernel, by decide +kernel, by decide +kernel, by decide +kernel, by decide +kernel⟩
    | 2, _ => exact ⟨by decide +kernel, by decide +kernel, by decide +kernel, by decide +kernel, by decide +kernel⟩
    | 3, _ => exact ⟨by decide +kernel, by decide +kernel, by decide +kernel, by decide +kernel, by decide +kernel⟩
    | 4, _ => exact ⟨by decide +kernel, by decide +kernel, by decide +kernel, by decide +kernel, by decide +kernel⟩
    | j + 5, hj => exact absurd hj (by omega), by decide +kernel, by decide +kernel, fun j hj => by
    match j, hj with
    | 0, _ => exact ⟨by decide +kernel, by decide +kernel, by decide +kernel, by decide +kernel, by decide +kernel⟩
    | 1, _ => exact ⟨by decide +kernel, by decide +kernel, by decide +kernel, by decide +kernel, by decide +kernel⟩
    | 2, _ => exact ⟨by decide +kernel, by decide +kernel, by decide +kernel, by decide +kernel, by decide +kernel⟩
    | 3, _ => exact ⟨by decide +kernel, by decide +kernel, by decide +kernel, by decide +kernel, by decide +kernel⟩
    | 4, _ => exact ⟨by decide +kernel, by decide +kernel, by decide +kernel, by decide +kernel, by decide +kernel⟩
    | j + 5, hj => exact absurd hj (by omega), by decide +kernel, by decide +kernel⟩
theorem cl_0 : clD mX11_feed 13 5 := ⟨List.mem_of_getElem? (i := 476) (by decide +kernel), List.mem_of_getElem? (i := 477) (by decide +kernel), List.mem_of_getElem? (i := 478) (by decide +kernel), rfl, cw_X11_feed⟩
theorem cr_0 : clD mX12_feed 17 5 := ⟨List.mem_of_getElem? (i := 1296) (by decide +kernel), List.mem_of_getElem? (i := 1297) (by decide +kernel), List.mem_of_getElem? (i := 1298) (by decide +kernel), rfl, cw_X12_feed⟩
theorem op_1 : opD 231 1 18 22 := by
  refine ⟨by decide +kernel, fun j hj => by
    match j, hj with
    | 0, _ => exact ⟨by decide +kernel, by decide +kernel, by decide +kernel, by decide +kernel, by decide +kernel⟩
    | j + 1, hj => exact absurd hj (by omega), by decide +kernel, by decide +kernel, fun j hj => by
    match j, hj with
    | 0, _ => exact ⟨by decide +kernel, by decide +kernel, by decide +kernel, by decide +kernel, by decide +kernel⟩
    | j + 1, hj => exact absurd hj (by omega), by decide +kernel, by decide +kernel⟩
theorem cl_1 : clD mX11_end 18 1 := ⟨List.mem_of_getElem? (i := 484) (by decide +kernel), List.mem_of_getElem? (i := 485) (by decide +kernel), List.mem_of_getElem? (i := 486) (by decide +kernel), rfl, cw_X11_end⟩
theorem cr_1 : clD mX12_end 22 1 := ⟨List.mem_of_getElem? (i := 1304) (by decide +kernel), List.mem_of_getElem? (i := 1305) (by decide +kernel), List.mem_of_getElem? (i := 1306) (by decide +kernel), rfl, cw_X12_end⟩
theorem op_2 : opD 254 0 23 27 := by
  refine ⟨by decide +kernel, fun j hj => absurd hj (Nat.not_lt_zero _), by decide +kernel, by decide +kernel, fun j hj => absurd hj (Nat.not_lt_zero _), by decide +kernel, by decide +kernel⟩
theorem cl_2 : clD mX11_realm 23 0 := ⟨List.mem_of_getElem? (i := 488) (by decide +kernel), List.mem_of_getElem? (i := 489) (by decide +kernel), List.mem_of_getElem? (i := 490) (by decide +kernel), rfl, cw_X11_realm⟩
theorem cr_2 : clD mX12_realm 27 0 := ⟨List.mem_of_getElem? (i := 1308) (by decide +kernel), List.mem_of_getElem? (i := 1309) (by decide +kernel), List.mem_of_getElem? (i := 1310) (by decide +kernel), rfl, cw_X12_realm⟩
theorem op_3 : opD 267 0 28 31 := by
  refine ⟨by decide +kernel, fun j hj => absurd hj (Nat.not_lt_zero _), by decide +kernel, by decide +kernel, fun j hj => absurd hj (Nat.not_lt_zero _), by decide +kernel, by decide +kernel⟩
theorem cl_3 : clD mX11_rule 28 0 := ⟨List.mem_of_getElem? (i := 698) (by decide +kernel), List.mem_of_getElem? (i := 699) (by decide +kernel), List.mem_of_getElem? (i := 700) (by decide +kernel), rfl, cw_X11_rule⟩
theorem cr_3 : clD mX12_rule 31 0 := ⟨List.mem_of_getElem? (i := 1390) (by decide +kernel), List.mem_of_getElem? (i := 1391) (by decide +kernel), List.mem_of_getElem? (i := 1392) (by decide +kernel), rfl, cw_X12_rule⟩
theorem op_4 : opD 280 1 32 35 := by
  refine ⟨by decide +kernel, fun j hj => by
    match j, hj with
    | 0, _ => exact ⟨by decide +kernel, by decide +kernel, by decide +kernel, by decide +kernel, by decide +kernel⟩
    | j + 1, hj => exact absurd hj (by omega), by decide +kernel, by decide +kernel, fun j hj => by
    match j, hj with
    | 0, _ => exact ⟨by decide +kernel, by decide +kernel, by decide +kernel, by decide +kernel, by decide +kernel⟩
    | j + 1, hj => exact absurd hj (by omega), by decide +kernel, by decide +kernel⟩
theorem cl_4 : clD mX11_force 32 1 := ⟨List.mem_of_getElem? (i := 764) (by decide +kernel), List.mem_of_getElem? (i := 765) (by decide +kernel), List.mem_of_getElem? (i := 766) (by decide +kernel), rfl, cw_X11_force⟩
theorem cr_4 : clD mX12_force 35 1 := ⟨List.mem_of_getElem? (i := 1466) (by decide +kernel), List.mem_of_getElem? (i := 1467) (by decide +kernel), List.mem_of_getElem? (i := 1468) (by decide +kernel), rfl, cw_X12_force⟩
theorem op_5 : opD 303 2 36 40 := by
  refine ⟨by decide +kernel, fun j hj => by
    match j, hj with
    | 0, _ => exact ⟨by decide +kernel, by decide +kernel, by decide +kernel, by decide +kernel, by decide +kernel⟩
    | 1, _ => exact ⟨by decide +kernel, by decide +kernel, by decide +kernel, by decide +kernel, by decide +kernel⟩
    | j + 2, hj => exact absurd hj (by omega), by decide +kernel, by decide +kernel, fun j hj => by
    match j, hj with
    | 0, _ => exact ⟨by decide +kernel, by decide +kernel, by decide +kernel, by decide +kernel, by decide +kernel⟩
    | 1, _ => exact ⟨by decide +kernel, by decide +kernel, by decide +kernel, by decide +kernel, by decide +kernel⟩
    | j + 2, hj => exact absurd hj (by omega), by decide +kernel, by decide +kernel⟩
theorem cl_5 : clD mX11_question 36 2 := ⟨List.mem_of_getElem? (i := 772) (by decide +kernel), List.mem_of_getElem? (i := 773) (by decide +kernel), List.mem_of_getElem? (i := 774) (by decide +kernel), rfl, cw_X11_question⟩
theorem cr_5 : clD mX12_question 40 2 := ⟨List.mem_of_getElem? (i := 1471) (by decide +kernel), List.mem_of_getElem? (i := 1472) (by decide +kernel), List.mem_of_getElem? (i := 1473) (by decide +kernel), rfl, cw_X12_question⟩
theorem op_6 : opD 336 0 41 44 := by
  refine ⟨by decide +kernel, fun j hj => absurd hj (Nat.not_lt_zero _), by decide +kernel, by decide +kernel, fun j hj => absurd hj (Nat.not_lt_zero _), by decide +kernel, by decide +kernel⟩
theorem cl_6 : clD mX11_day 41 0 := ⟨List.mem_of_getElem? (i := 803) (by decide +kernel), List.mem_of_getElem? (i := 804) (by decide +kernel), List.mem_of_getElem? (i := 805) (by decide +kernel), rfl, cw_X11_day⟩
theorem cr_6 : clD mX12_day 44 0 := ⟨List.mem_of_getElem? (i := 1510) (by decide +kernel), List.mem_of_getElem? (i := 1511) (by decide +kernel), List.mem_of_getElem? (i := 1512) (by decide +kernel), rfl, cw_X12_day⟩
theorem op_7 : opD 349 1 45 48 := by
  refine ⟨by decide +kernel, fun j hj => by
    match j, hj with
    | 0, _ => exact ⟨by decide +kernel, by decide +kernel, by decide +kernel, by decide +kernel, by decide +kernel⟩
    | j + 1, hj => exact absurd hj (by omega), by decide +kernel, by decide +kernel, fun j hj => by
    match j, hj with
    | 0, _ => exact ⟨by decide +kernel, by decide +kernel, by decide +kernel, by decide +kernel, by decide +kernel⟩
    | j + 1, hj => exact absurd hj (by omega), by decide +kernel, by decide +kernel⟩
theorem cl_7 : clD mX11_use 45 1 := ⟨List.mem_of_getElem? (i := 887) (by decide +kernel), List.mem_of_getElem? (i := 888) (by decide +kernel), List.mem_of_getElem? (i := 889) (by decide +kernel), rfl, cw_X11_use⟩
theorem cr_7 : clD mX12_use 48 1 := ⟨List.mem_of_getElem? (i := 1571) (by decide +kernel), List.mem_of_getElem? (i := 1572) (by decide +kernel), List.mem_of_getElem? (i := 1573) (by decide +kernel), rfl, cw_X12_use⟩
theorem op_8 : opD 372 0 49 52 := by
  refine ⟨by decide +kernel, fun j hj => absurd hj (Nat.not_lt_zero _), by decide +kernel, by decide +kernel, fun j hj => absurd hj (Nat.not_lt_zero _), by decide +kernel, by decide +kernel⟩
theorem cl_8 : clD mX11_egg 49 0 := ⟨List.mem_of_getElem? (i := 892) (by decide +kernel), List.mem_of_getElem? (i := 893) (by decide +kernel), List.mem_of_getElem? (i := 894) (by decide +kernel), rfl, cw_X11_egg⟩
theorem cr_8 : clD mX12_egg 52 0 := ⟨List.mem_of_getElem? (i := 1575) (by decide +kernel), List.mem_of_getElem? (i := 1576) (by decide +kernel), List.mem_of_getElem? (i := 1577) (by decide +kernel), rfl, cw_X12_egg⟩
theorem op_9 : opD 385 2 53 56 := by
  refine ⟨by decide +kernel, fun j hj => by
    match j, hj with
    | 0, _ => exact ⟨by decide +kernel, by decide +kernel, by decide +kernel, by decide +kernel, by decide +kernel⟩
    | 1, _ => exact ⟨by decide +kernel, by decide +kernel, by decide +kernel, by decide +kernel, by decide +kernel⟩
    | j + 2, hj => exact absurd hj (by omega), by decide +kernel, by decide +kernel, fun j hj => by
    match j, hj with
    | 0, _ => exact ⟨by decide +kernel, by decide +kernel, by decide +kernel, by decide +kernel, by decide +kernel⟩
    | 1, _ => exact ⟨by decide +kernel, by decide +kernel, by decide +kernel, by decide +kernel, by decide +kernel⟩
    | j + 2, hj => exact absurd hj (by omega), by decide +kernel, by decide +kernel⟩
theorem cl_9 : clD mX11_tie 53 2 := ⟨List.mem_of_getElem? (i := 896) (by decide +kernel), List.mem_of_getElem? (i := 897) (by decide +kernel), List.mem_of_getElem? (i := 898) (by decide +kernel), rfl, cw_X11_tie⟩
theorem cr_9 : clD mX12_tie 56 2 := ⟨List.mem_of_getElem? (i := 1579) (by decide +kernel), List.mem_of_getElem? (i := 1580) (by decide +kernel), List.mem_of_getElem? (i := 1581) (by decide +kernel), rfl, cw_X12_tie⟩
theorem op_10 : opD 418 2 57 60 := by
  refine ⟨by decide +kernel, fun j hj => by
    match j, hj with
    | 0, _ => exact ⟨by decide +kernel, by decide +kernel, by decide +kernel, by decide +kernel, by decide +kernel⟩
    | 1, _ => exact ⟨by decide +kernel, by decide +kernel, by decide +kernel, by decide +kernel, by decide +kernel⟩
    | j + 2, hj => exact absurd hj (by omega), by decide +kernel, by decide +kernel, fun j hj => by
    match j, hj with
    | 0, _ => exact ⟨by decide +kernel, by decide +kernel, by decide +kernel, by decide +kernel, by decide +kernel⟩
    | 1, _ => exact ⟨by decide +kernel, by decide +kernel, by decide +kernel, by decide +kernel, by decide +kernel⟩
    | j + 2, hj => exact absurd hj (by omega), by decide +kernel, by decide +kernel⟩
theorem cl_10 : clD mX11_grow 57 2 := ⟨List.mem_of_getElem? (i := 908) (by decide +kernel), List.mem_of_getElem? (i := 909) (by decide +kernel), List.mem_of_getElem? (i := 910) (by decide +kernel), rfl, cw_X11_grow⟩
theorem cr_10 : clD mX12_grow 60 2 := ⟨List.mem_of_getElem? (i := 1587) (by decide +kernel), List.mem_of_getElem? (i := 1588) (by decide +kernel), List.mem_of_getElem? (i := 1589) (by decide +kernel), rfl, cw_X12_grow⟩
theorem op_11 : opD 451 0 61 64 := by
  refine ⟨by decide +kernel, fun j hj => absurd hj (Nat.not_lt_zero _), by decide +kernel, by decide +kernel, fun j hj => absurd hj (Nat.not_lt_zero _), by decide +kernel, by decide +kernel⟩
theorem cl_11 : clD mX11_undo 61 0 := ⟨List.mem_of_getElem? (i := 913) (by decide +kernel), List.mem_of_getElem? (i := 914) (by decide +kernel), List.mem_of_getElem? (i := 915) (by decide +kernel), rfl, cw_X11_undo⟩
theorem cr_11 : clD mX12_undo 64 0 := ⟨List.mem_of_getElem? (i := 1494) (by decide +kernel), List.mem_of_getElem? (i := 1495) (by decide +kernel), List.mem_of_getElem? (i := 1496) (by decide +kernel), rfl, cw_X12_undo⟩
theorem op_12 : opD 464 3 65 69 := by
  refine ⟨by decide +kernel, fun j hj => by
    match j, hj with
    | 0, _ => exact ⟨by decide +kernel, by decide +kernel, by decide +kernel, by decide +kernel, by decide +kernel⟩
    | 1, _ => exact ⟨by decide +kernel, by decide +kernel, by decide +kernel, by decide +kernel, by decide +kernel⟩
    | 2, _ => exact ⟨by decide +kernel, by decide +kernel, by decide +kernel, by decide +kernel, by decide +kernel⟩
    | j + 3, hj => exact absurd hj (by omega), by decide +kernel, by decide +kernel, fun j hj => by
    match j, hj with
    | 0, _ => exact ⟨by decide +kernel, by decide +kernel, by decide +kernel, by decide +kernel, by decide +kernel⟩
    | 1, _ => exact ⟨by decide +kernel, by decide +kernel, by decide +kernel, by decide +kernel, by decide +kernel⟩
    | 2, _ => exact ⟨by decide +kernel, by decide +kernel, by decide +kernel, by decide +kernel, by decide +kernel⟩
    | j + 3, hj => exact absurd hj (by omega), by decide +kernel, by decide +kernel⟩
theorem cl_12 : clD mX11_ahead 65 3 := ⟨List.mem_of_getElem? (i := 921) (by decide +kernel), List.mem_of_getElem? (i := 922) (by decide +kernel), List.mem_of_getElem? (i := 923) (by decide +kernel), rfl, cw_X11_ahead⟩
theorem cr_12 : clD mX12_ahead 69 3 := ⟨List.mem_of_getElem? (i := 1592) (by decide +kernel), List.mem_of_getElem? (i := 1593) (by decide +kernel), List.mem_of_getElem? (i := 1594) (by decide +kernel), rfl, cw_X12_ahead⟩
theorem op_13 : opD 507 2 70 73 := by
  refine ⟨by decide +kernel, fun j hj => by
    match j, hj with
    | 0, _ => exact ⟨by decide +kernel, by decide +kernel, by decide +kernel, by decide +kernel, by decide +kernel⟩
    | 1, _ => exact ⟨by decide +kernel, by decide +kernel, by decide +kernel, by decide +kernel, by decide +kernel⟩
    | j + 2, hj => exact absurd hj (by omega), by decide +kernel, by decide +kernel, fun j hj => by
    match j, hj with
    | 0, _ => exact ⟨by decide +kernel, by decide +kernel, by decide +kernel, by decide +kernel, by decide +kernel⟩
    | 1, _ => exact ⟨by decide +kernel, by decide +kernel, by decide +kernel, by decide +kernel, by decide +kernel⟩
    | j + 2, hj => exact absurd hj (by omega), by decide +kernel, by decide +kernel⟩
theorem cl_13 : clD mX11_fate 70 2 := ⟨List.mem_of_getElem? (i := 937) (by decide +kernel), List.mem_of_getElem? (i := 938) (by decide +kernel), List.mem_of_getElem? (i := 939) (by decide +kernel), rfl, cw_X11_fate⟩
theorem cr_13 : clD mX12_fate 73 2 := ⟨List.mem_of_getElem? (i := 1617) (by decide +kernel), List.mem_of_getElem? (i := 1618) (by decide +kernel), List.mem_of_getElem? (i := 1619) (by decide +kernel), rfl, cw_X12_fate⟩
theorem op_14 : opD 540 2 74 77 := by
  refine ⟨by decide +kernel, fun j hj => by
    match j, hj with
    | 0, _ => exact ⟨by decide +kernel, by decide +kernel, by decide +kernel, by decide +kernel, by decide +kernel⟩
    | 1, _ => exact ⟨by decide +kernel, by decide +kernel, by decide +kernel, by decide +kernel, by decide +kernel⟩
    | j + 2, hj => exact absurd hj (by omega), by decide +kernel, by decide +kernel, fun j hj => by
    match j, hj with
    | 0, _ => exact ⟨by decide +kernel, by decide +kernel, by decide +kernel, by decide +kernel, by decide +kernel⟩
    | 1, _ => exact ⟨by decide +kernel, by decide +kernel, by decide +kernel, by decide +kernel, by decide +kernel⟩
    | j + 2, hj => exact absurd hj (by omega), by decide +kernel, by decide +kernel⟩
theorem cl_14 : clD mX11_row 74 2 := ⟨List.mem_of_getElem? (i := 941) (by decide +kernel), List.mem_of_getElem? (i := 942) (by decide +kernel), List.mem_of_getElem? (i := 943) (by decide +kernel), rfl, cw_X11_row⟩
theorem cr_14 : clD mX12_row 77 2 := ⟨List.mem_of_getElem? (i := 1621) (by decide +kernel), List.mem_of_getElem? (i := 1622) (by decide +kernel), List.mem_of_getElem? (i := 1623) (by decide +kernel), rfl, cw_X12_row⟩
theorem op_15 : opD 573 2 78 81 := by
  refine ⟨by decide +kernel, fun j hj => by
    match j, hj with
    | 0, _ => exact ⟨by decide +kernel, by decide +kernel, by decide +kernel, by decide +kernel, by decide +kernel⟩
    | 1, _ => exact ⟨by decide +kernel, by decide +kernel, by decide +kernel, by decide +kernel, by decide +kernel⟩
    | j + 2, hj => exact absurd hj (by omega), by decide +kernel, by decide +kernel, fun j hj => by
    match j, hj with
    | 0, _ => exact ⟨by decide +kernel, by decide +kernel, by decide +kernel, by decide +kernel, by decide +kernel⟩
    | 1, _ => exact ⟨by decide +kernel, by decide +kernel, by decide +kernel, by decide +kernel, by decide +kernel⟩
    | j + 2, hj => exact absurd hj (by omega), by decide +kernel, by decide +kernel⟩
theorem cl_15 : clD mX11_bind 78 2 := ⟨List.mem_of_getElem? (i := 969) (by decide +kernel), List.mem_of_getElem? (i := 970) (by decide +kernel), List.mem_of_getElem? (i := 971) (by decide +kernel), rfl, cw_X11_bind⟩
theorem cr_15 : clD mX12_bind 81 2 := ⟨List.mem_of_getElem? (i := 1635) (by decide +kernel), List.mem_of_getElem? (i := 1636) (by decide +kernel), List.mem_of_getElem? (i := 1637) (by decide +kernel), rfl, cw_X12_bind⟩
theorem op_16 : opD 606 2 82 85 := by
  refine ⟨by decide +kernel, fun j hj => by
    match j, hj with
    | 0, _ => exact ⟨by decide +kernel, by decide +kernel, by decide +kernel, by decide +kernel, by decide +kernel⟩
    | 1, _ => exact ⟨by decide +kernel, by decide +kernel, by decide +kernel, by decide +kernel, by decide +kernel⟩
    | j + 2, hj => exact absurd hj (by omega), by decide +kernel, by decide +kernel, fun j hj => by
    match j, hj with
    | 0, _ => exact ⟨by decide +kernel, by decide +kernel, by decide +kernel, by decide +kernel, by decide +kernel⟩
    | 1, _ => exact ⟨by decide +kernel, by decide +kernel, by decide +kernel, by decide +kernel, by decide +kernel⟩
    | j + 2, hj => exact absurd hj (by omega), by decide +kernel, by decide +kernel⟩
theorem cl_16 : clD mX11_rescue 82 2 := ⟨List.mem_of_getElem? (i := 982) (by decide +kernel), List.mem_of_getElem? (i := 983) (by decide +kernel), List.mem_of_getElem? (i := 984) (by decide +kernel), rfl, cw_X11_rescue⟩
theorem cr_16 : clD mX12_rescue 85 2 := ⟨List.mem_of_getElem? (i := 1645) (by decide +kernel), List.mem_of_getElem? (i := 1646) (by decide +kernel), List.mem_of_getElem? (i := 1647) (by decide +kernel), rfl, cw_X12_rescue⟩
theorem op_17 : opD 639 1 86 89 := by
  refine ⟨by decide +kernel, fun j hj => by
    match j, hj with
    | 0, _ => exact ⟨by decide +kernel, by decide +kernel, by decide +kernel, by decide +kernel, by decide +kernel⟩
    | j + 1, hj => exact absurd hj (by omega), by decide +kernel, by decide +kernel, fun j hj => by
    match j, hj with
    | 0, _ => exact ⟨by decide +kernel, by decide +kernel, by decide +kernel, by decide +kernel, by decide +kernel⟩
    | j + 1, hj => exact absurd hj (by omega), by decide +kernel, by decide +kernel⟩
theorem cl_17 : clD mX11_cover 86 1 := ⟨List.mem_of_getElem? (i := 991) (by decide +kernel), List.mem_of_getElem? (i := 992) (by decide +kernel), List.mem_of_getElem? (i := 993) (by decide +kernel), rfl, cw_X11_cover⟩
theorem cr_17 : clD mX12_cover 89 1 := ⟨List.mem_of_getElem? (i := 1653) (by decide +kernel), List.mem_of_getElem? (i := 1654) (by decide +kernel), List.mem_of_getElem? (i := 1655) (by decide +kernel), rfl, cw_X12_cover⟩
theorem op_18 : opD 662 1 90 93 := by
  refine ⟨by decide +kernel, fun j hj => by
    match j, hj with
    | 0, _ => exact ⟨by decide +kernel, by decide +kernel, by decide +kernel, by decide +kernel, by decide +kernel⟩
    | j + 1, hj => exact absurd hj (by omega), by decide +kernel, by decide +kernel, fun j hj => by
    match j, hj with
    | 0, _ => exact ⟨by decide +kernel, by decide +kernel, by decide +kernel, by decide +kernel, by decide +kernel⟩
    | j + 1, hj => exact absurd hj (by omega), by decide +kernel, by decide +kernel⟩
theorem cl_18 : clD mX11_today 90 1 := ⟨List.mem_of_getElem? (i := 999) (by decide +kernel), List.mem_of_getElem? (i := 1000) (by decide +kernel), List.mem_of_getElem? (i := 1001) (by decide +kernel), rfl, cw_X11_today⟩
theorem cr_18 : clD mX12_today 93 1 := ⟨List.mem_of_getElem? (i := 1661) (by decide +kernel), List.mem_of_getElem? (i := 1662) (by decide +kernel), List.mem_of_getElem? (i := 1663) (by decide +kernel), rfl, cw_X12_today⟩
theorem op_19 : opD 685 2 94 97 := by
  refine ⟨by decide +kernel, fun j hj => by
    match j, hj with
    | 0, _ => exact ⟨by decide +kernel, by decide +kernel, by decide +kernel, by decide +kernel, by decide +kernel⟩
    | 1, _ => exact ⟨by decide +kernel, by decide +kernel, by decide +kernel, by decide +kernel, by decide +kernel⟩
    | j + 2, hj => exact absurd hj (by omega), by decide +kernel, by decide +kernel, fun j hj => by
    match j, hj with
    | 0, _ => exact ⟨by decide +kernel, by decide +kernel, by decide +kernel, by decide +kernel, by decide +kernel⟩
    | 1, _ => exact ⟨by decide +kernel, by decide +kernel, by decide +kernel, by decide +kernel, by decide +kernel⟩
    | j + 2, hj => exact absurd hj (by omega), by decide +kernel, by decide +kernel⟩
theorem cl_19 : clD mX11_waste 94 2 := ⟨List.mem_of_getElem? (i := 1007) (by decide +kernel), List.mem_of_getElem? (i := 1008) (by decide +kernel), List.mem_of_getElem? (i := 1009) (by decide +kernel), rfl, cw_X11_waste⟩
theorem cr_19 : clD mX12_waste 97 2 := ⟨List.mem_of_getElem? (i := 1665) (by decide +kernel), List.mem_of_getElem? (i := 1666) (by decide +kernel), List.mem_of_getElem? (i := 1667) (by decide +kernel), rfl, cw_X12_waste⟩
theorem op_20 : opD 718 2 98 101 := by
  refine ⟨by decide +kernel, fun j hj => by
    match j, hj with
    | 0, _ => exact ⟨by decide +kernel, by decide +kernel, by decide +kernel, by decide +kernel, by decide +kernel⟩
    | 1, _ => exact ⟨by decide +kernel, by decide +kernel, by decide +kernel, by decide +kernel, by decide +kernel⟩
    | j + 2, hj => exact absurd hj (by omega), by decide +kernel, by decide +kernel, fun j hj => by
    match j, hj with
    | 0, _ => exact ⟨by decide +kernel, by decide +kernel, by decide +kernel, by decide +kernel, by decide +kernel⟩
    | 1, _ => exact ⟨by decide +kernel, by decide +kernel, by decide +kernel, by decide +kernel, by decide +kernel⟩
    | j + 2, hj => exact absurd hj (by omega), by decide +kernel, by decide +kernel⟩
theorem cl_20 : clD mX11_blame 98 2 := ⟨List.mem_of_getElem? (i := 1011) (by decide +kernel), List.mem_of_getElem? (i := 1012) (by decide +kernel), List.mem_of_getElem? (i := 1013) (by decide +kernel), rfl, cw_X11_blame⟩
theorem cr_20 : clD mX12_blame 101 2 := ⟨List.mem_of_getElem? (i := 1670) (by decide +kernel), List.mem_of_getElem? (i := 1671) (by decide +kernel), List.mem_of_getElem? (i := 1672) (by decide +kernel), rfl, cw_X12_blame⟩
theorem op_21 : opD 751 4 102 106 := by
  refine ⟨by decide +kernel, fun j hj => by
    match j, hj with
    | 0, _ => exact ⟨by decide +kernel, by decide +kernel, by decide +kernel, by decide +kernel, by decide +kernel⟩
    | 1, _ => exact ⟨by decide +kernel, by decide +kernel, by decide +kernel, by decide +kernel, by decide +kernel⟩
    | 2, _ => exact ⟨by decide +kernel, by decide +kernel, by decide +kernel, by decide +kernel, by decide +kernel⟩
    | 3, _ => exact ⟨by decide +kernel, by decide +kernel, by decide +kernel, by decide +kernel, by decide +kernel⟩
    | j + 4, hj => exact absurd hj (by omega), by decide +kernel, by decide +kernel, fun j hj => by
    match j, hj with
    | 0, _ => exact ⟨by decide +kernel, by decide +kernel, by decide +kernel, by decide +kernel, by decide +kernel⟩
    | 1, _ => exact ⟨by decide +kernel, by decide +kernel, by decide +kernel, by decide +kernel, by decide +kernel⟩
    | 2, _ => exact ⟨by decide +kernel, by decide +kernel, by decide +kernel, by decide +kernel, by decide +kernel⟩
    | 3, _ => exact ⟨by decide +kernel, by decide +kernel, by decide +kernel, by decide +kernel, by decide +kernel⟩
    | j + 4, hj => exact absurd hj (by omega), by decide +kernel, by decide +kernel⟩
theorem cl_21 : clD mX11_woke 102 4 := ⟨List.mem_of_getElem? (i := 1025) (by decide +kernel), List.mem_of_getElem? (i := 1026) (by decide +kernel), List.mem_of_getElem? (i := 1027) (by decide +kernel), rfl, cw_X11_woke⟩
theorem cr_21 : clD mX12_woke 106 4 := ⟨List.mem_of_getElem? (i := 1675) (by decide +kernel), List.mem_of_getElem? (i := 1676) (by decide +kernel), List.mem_of_getElem? (i := 1677) (by decide +kernel), rfl, cw_X12_woke⟩
theorem op_22 : opD 804 2 107 110 := by
  refine ⟨by decide +kernel, fun j hj => by
    match j, hj with
    | 0, _ => exact ⟨by decide +kernel, by decide +kernel, by decide +kernel, by decide +kernel, by decide +kernel⟩
    | 1, _ => exact ⟨by decide +kernel, by decide +kernel, by decide +kernel, by decide +kernel, by decide +kernel⟩
    | j + 2, hj => exact absurd hj (by omega), by decide +kernel, by decide +kernel, fun j hj => by
    match j, hj with
    | 0, _ => exact ⟨by decide +kernel, by decide +kernel, by decide +kernel, by decide +kernel, by decide +kernel⟩
    | 1, _ => exact ⟨by decide +kernel, by decide +kernel, by decide +kernel, by decide +kernel, by decide +kernel⟩
    | j + 2, hj => exact absurd hj (by omega), by decide +kernel, by decide +kernel⟩
theorem cl_22 : clD mX11_note 107 2 := ⟨List.mem_of_getElem? (i := 1052) (by decide +kernel), List.mem_of_getElem? (i := 1053) (by decide +kernel), List.mem_of_getElem? (i := 1054) (by decide +kernel), rfl, cw_X11_note⟩
theorem cr_22 : clD mX12_note 110 2 := ⟨List.mem_of_getElem? (i := 1684) (by decide +kernel), List.mem_of_getElem? (i := 1685) (by decide +kernel), List.mem_of_getElem? (i := 1686) (by decide +kernel), rfl, cw_X12_note⟩
theorem op_23 : opD 837 1 111 114 := by
  refine ⟨by decide +kernel, fun j hj => by
    match j, hj with
    | 0, _ => exact ⟨by decide +kernel, by decide +kernel, by decide +kernel, by decide +kernel, by decide +kernel⟩
    | j + 1, hj => exact absurd hj (by omega), by decide +kernel, by decide +kernel, fun j hj => by
    match j, hj with
    | 0, _ => exact ⟨by decide +kernel, by decide +kernel, by decide +kernel, by decide +kernel, by decide +kernel⟩
    | j + 1, hj => exact absurd hj (by omega), by decide +kernel, by decide +kernel⟩
theorem cl_23 : clD mX11_ruled 111 1 := ⟨List.mem_of_getElem? (i := 1064) (by decide +kernel), List.mem_of_getElem? (i := 1065) (by decide +kernel), List.mem_of_getElem? (i := 1066) (by decide +kernel), rfl, cw_X11_ruled⟩
theorem cr_23 : clD mX12_ruled 114 1 := ⟨List.mem_of_getElem? (i := 1688) (by decide +kernel), List.mem_of_getElem? (i := 1689) (by decide +kernel), List.mem_of_getElem? (i := 1690) (by decide +kernel), rfl, cw_X12_ruled⟩
theorem op_24 : opD 860 1 115 118 := by
  refine ⟨by decide +kernel, fun j hj => by
    match j, hj with
    | 0, _ => exact ⟨by decide +kernel, by decide +kernel, by decide +kernel, by decide +kernel, by decide +kernel⟩
    | j + 1, hj => exact absurd hj (by omega), by decide +kernel, by decide +kernel, fun j hj => by
    match j, hj with
    | 0, _ => exact ⟨by decide +kernel, by decide +kernel, by decide +kernel, by decide +kernel, by decide +kernel⟩
    | j + 1, hj => exact absurd hj (by omega), by decide +kernel, by decide +kernel⟩
theorem cl_24 : clD mX11_look 115 1 := ⟨List.mem_of_getElem? (i := 1076) (by decide +kernel), List.mem_of_getElem? (i := 1077) (by decide +kernel), List.mem_of_getElem? (i := 1078) (by decide +kernel), rfl, cw_X11_look⟩
theorem cr_24 : clD mX12_look 118 1 := ⟨List.mem_of_getElem? (i := 1696) (by decide +kernel), List.mem_of_getElem? (i := 1697) (by decide +kernel), List.mem_of_getElem? (i := 1698) (by decide +kernel), rfl, cw_X12_look⟩
theorem op_25 : opD 883 1 119 122 := by
  refine ⟨by decide +kernel, fun j hj => by
    match j, hj with
    | 0, _ => exact ⟨by decide +kernel, by decide +kernel, by decide +kernel, by decide +kernel, by decide +kernel⟩
    | j + 1, hj => exact absurd hj (by omega), by decide +kernel, by decide +kernel, fun j hj => by
    match j, hj with
    | 0, _ => exact ⟨by decide +kernel, by decide +kernel, by decide +kernel, by decide +kernel, by decide +kernel⟩
    | j + 1, hj => exact absurd hj (by omega), by decide +kernel, by decide +kernel⟩
theorem cl_25 : clD mX11_seed 119 1 := ⟨List.mem_of_getElem? (i := 1085) (by decide +kernel), List.mem_of_getElem? (i := 1086) (by decide +kernel), List.mem_of_getElem? (i := 1087) (by decide +kernel), rfl, cw_X11_seed⟩
theorem cr_25 : clD mX12_seed 122 1 := ⟨List.mem_of_getElem? (i := 1704) (by decide +kernel), List.mem_of_getElem? (i := 1705) (by decide +kernel), List.mem_of_getElem? (i := 1706) (by decide +kernel), rfl, cw_X12_seed⟩
theorem op_26 : opD 906 4 123 126 := by
  refine ⟨by decide +kernel, fun j hj => by
    match j, hj with
    | 0, _ => exact ⟨by decide +kernel, by decide +kernel, by decide +kernel, by decide +kernel, by decide +kernel⟩
    | 1, _ => exact ⟨by decide +kernel, by decide +kernel, by decide +kernel, by decide +kernel, by decide +kernel⟩
    | 2, _ => exact ⟨by decide +kernel, by decide +kernel, by decide +kernel, by decide +kernel, by decide +kernel⟩
    | 3, _ => exact ⟨by decide +kernel, by decide +kernel, by decide +kernel, by decide +kernel, by decide +kernel⟩
    | j + 4, hj => exact absurd hj (by omega), by decide +kernel, by decide +kernel, fun j hj => by
    match j, hj with
    | 0, _ => exact ⟨by decide +kernel, by decide +kernel, by decide +kernel, by decide +kernel, by decide +kernel⟩
    | 1, _ => exact ⟨by decide +kernel, by decide +kernel, by decide +kernel, by decide +kernel, by decide +kernel⟩
    | 2, _ => exact ⟨by decide +kernel, by decide +kernel, by decide +kernel, by decide +kernel, by decide +kernel⟩
    | 3, _ => exact ⟨by decide +kernel, by decide +kernel, by decide +kernel, by decide +kernel, by decide +kernel⟩
    | j + 4, hj => exact absurd hj (by omega), by decide +kernel, by decide +kernel⟩
theorem cl_26 : clD mX11_reigns 123 4 := ⟨List.mem_of_getElem? (i := 1089) (by decide +kernel), List.mem_of_getElem? (i := 1090) (by decide +kernel), List.mem_of_getElem? (i := 1091) (by decide +kernel), rfl, cw_X11_reigns⟩
theorem cr_26 : clD mX12_reigns 126 4 := ⟨List.mem_of_getElem? (i := 1708) (by decide +kernel), List.mem_of_getElem? (i := 1709) (by decide +kernel), List.mem_of_getElem? (i := 1710) (by decide +kernel), rfl, cw_X12_reigns⟩
theorem op_27 : opD 959 1 127 130 := by
  refine ⟨by decide +kernel, fun j hj => by
    match j, hj with
    | 0, _ => exact ⟨by decide +kernel, by decide +kernel, by decide +kernel, by decide +kernel, by decide +kernel⟩
    | j + 1, hj => exact absurd hj (by omega), by decide +kernel, by decide +kernel, fun j hj => by
    match j, hj with
    | 0, _ => exact ⟨by decide +kernel, by decide +kernel, by decide +kernel, by decide +kernel, by decide +kernel⟩
    | j + 1, hj => exact absurd hj (by omega), by decide +kernel, by decide +kernel⟩
theorem cl_27 : clD mX11_count 127 1 := ⟨List.mem_of_getElem? (i := 1100) (by decide +kernel), List.mem_of_getElem? (i := 1101) (by decide +kernel), List.mem_of_getElem? (i := 1102) (by decide +kernel), rfl, cw_X11_count⟩
theorem cr_27 : clD mX12_count 130 1 := ⟨List.mem_of_getElem? (i := 1721) (by decide +kernel), List.mem_of_getElem? (i := 1722) (by decide +kernel), List.mem_of_getElem? (i := 1723) (by decide +kernel), rfl, cw_X12_count⟩
theorem op_28 : opD 982 1 131 134 := by
  refine ⟨by decide +kernel, fun j hj => by
    match j, hj with
    | 0, _ => exact ⟨by decide +kernel, by decide +kernel, by decide +kernel, by decide +kernel, by decide +kernel⟩
    | j + 1, hj => exact absurd hj (by omega), by decide +kernel, by decide +kernel, fun j hj => by
    match j, hj with
    | 0, _ => exact ⟨by decide +kernel, by decide +kernel, by decide +kernel, by decide +kernel, by decide +kernel⟩
    | j + 1, hj => exact absurd hj (by omega), by decide +kernel, by decide +kernel⟩
theorem cl_28 : clD mX11_image 131 1 := ⟨List.mem_of_getElem? (i := 1105) (by decide +kernel), List.mem_of_getElem? (i := 1106) (by decide +kernel), List.mem_of_getElem? (i := 1107) (by decide +kernel), rfl, cw_X11_image⟩
theorem cr_28 : clD mX12_image 134 1 := ⟨List.mem_of_getElem? (i := 1725) (by decide +kernel), List.mem_of_getElem? (i := 1726) (by decide +kernel), List.mem_of_getElem? (i := 1727) (by decide +kernel), rfl, cw_X12_image⟩
theorem op_29 : opD 1005 1 135 138 := by
  refine ⟨by decide +kernel, fun j hj => by
    match j, hj with
    | 0, _ => exact ⟨by decide +kernel, by decide +kernel, by decide +kernel, by decide +kernel, by decide +kernel⟩
    | j + 1, hj => exact absurd hj (by omega), by decide +kernel, by decide +kernel, fun j hj => by
    match j, hj with
    | 0, _ => exact ⟨by decide +kernel, by decide +kernel, by decide +kernel, by decide +kernel, by decide +kernel⟩
    | j + 1, hj => exact absurd hj (by omega), by decide +kernel, by decide +kernel⟩
theorem cl_29 : clD mX11_back 135 1 := ⟨List.mem_of_getElem? (i := 1123) (by decide +kernel), List.mem_of_getElem? (i := 1124) (by decide +kernel), List.mem_of_getElem? (i := 1125) (by decide +kernel), rfl, cw_X11_back⟩
theorem cr_29 : clD mX12_back 138 1 := ⟨List.mem_of_getElem? (i := 1729) (by decide +kernel), List.mem_of_getElem? (i := 1730) (by decide +kernel), List.mem_of_getElem? (i := 1731) (by decide +kernel), rfl, cw_X12_back⟩
theorem cl_3n : clD m0X11_rule 28 0 := cl_3
theorem cl_28n : clD m0X11_image 131 1 := cl_28
