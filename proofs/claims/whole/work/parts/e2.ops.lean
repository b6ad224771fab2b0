/-! The law: its thirty calls -/
theorem op_0 : opD 168 5 13 17 := by
  refine ⟨by decide +kernel, fun j hj => by
    match j, hj with
    | 0, _ => exact ⟨by decide +kernel, by decide +kernel, by decide +kernel, by decide +kernel, by decide +kernel⟩
    | 1, _ => exact ⟨by decide +kernel, by decide +kernel, by decide +kernel, by decide +kernel, by decide +kernel⟩
    | 2, _ => exact ⟨by decide +kernel, by decide +kernel, by decide +kernel, by decide +kernel, by decide +kernel⟩
    | 3, _ => exact ⟨by decide +kernel, by decide +kernel, by decide +kernel, by decide +kernel, by decide +kernel⟩
    | 4, _ => exact ⟨by decide +kernel, by decide +kernel, by decide +kernel, by decide +kernel, by decide +kernel⟩
    | j + 5, hj => exact absurd hj (by omega), by decide +kernel, by decide +kernel, fun j hj => by
    match j, hj with
    | 0, _ => exact ⟨by decide +kernel, by decide +kernel, by decide +kernel, by decide +kernel, by decide +kernel⟩
    | 1, _ => exact ⟨by decide +kernel, by decide +kernel, by decide +kernel, by decide +kernel, by decide +kernel⟩
    | 2, _ => exact ⟨by decide +kernel, by decide +kernel, by decide +kernel, by decide +kernel, by decide +kernel⟩
    | 3, _ => exact ⟨by decide +kernel, by decide +kernel, by decide +kernel, by decide +kernel, by decide +kernel⟩
    | 4, _ => exact ⟨by decide +kernel, by decide +kernel, by decide +kernel, by decide +kernel, by decide +kernel⟩
    | j + 5, hj => exact absurd hj (by omega), by decide +kernel, by decide +kernel⟩
theorem cl_0 : clD mX11_feed 13 5 := ⟨List.mem_of_getElem? (i := 480) (by decide +kernel), List.mem_of_getElem? (i := 481) (by decide +kernel), List.mem_of_getElem? (i := 482) (by decide +kernel), rfl, cw_X11_feed⟩
theorem cr_0 : clD mX12_feed 17 5 := ⟨List.mem_of_getElem? (i := 1303) (by decide +kernel), List.mem_of_getElem? (i := 1304) (by decide +kernel), List.mem_of_getElem? (i := 1305) (by decide +kernel), rfl, cw_X12_feed⟩
theorem op_1 : opD 231 1 18 22 := by
  refine ⟨by decide +kernel, fun j hj => by
    match j, hj with
    | 0, _ => exact ⟨by decide +kernel, by decide +kernel, by decide +kernel, by decide +kernel, by decide +kernel⟩
    | j + 1, hj => exact absurd hj (by omega), by decide +kernel, by decide +kernel, fun j hj => by
    match j, hj with
    | 0, _ => exact ⟨by decide +kernel, by decide +kernel, by decide +kernel, by decide +kernel, by decide +kernel⟩
    | j + 1, hj => exact absurd hj (by omega), by decide +kernel, by decide +kernel⟩
theorem cl_1 : clD mX11_end 18 1 := ⟨List.mem_of_getElem? (i := 488) (by decide +kernel), List.mem_of_getElem? (i := 489) (by decide +kernel), List.mem_of_getElem? (i := 490) (by decide +kernel), rfl, cw_X11_end⟩
theorem cr_1 : clD mX12_end 22 1 := ⟨List.mem_of_getElem? (i := 1311) (by decide +kernel), List.mem_of_getElem? (i := 1312) (by decide +kernel), List.mem_of_getElem? (i := 1313) (by decide +kernel), rfl, cw_X12_end⟩
theorem op_2 : opD 254 0 23 27 := by
  refine ⟨by decide +kernel, fun j hj => absurd hj (Nat.not_lt_zero _), by decide +kernel, by decide +kernel, fun j hj => absurd hj (Nat.not_lt_zero _), by decide +kernel, by decide +kernel⟩
theorem cl_2 : clD mX11_realm 23 0 := ⟨List.mem_of_getElem? (i := 492) (by decide +kernel), List.mem_of_getElem? (i := 493) (by decide +kernel), List.mem_of_getElem? (i := 494) (by decide +kernel), rfl, cw_X11_realm⟩
theorem cr_2 : clD mX12_realm 27 0 := ⟨List.mem_of_getElem? (i := 1315) (by decide +kernel), List.mem_of_getElem? (i := 1316) (by decide +kernel), List.mem_of_getElem? (i := 1317) (by decide +kernel), rfl, cw_X12_realm⟩
theorem op_3 : opD 267 0 28 31 := by
  refine ⟨by decide +kernel, fun j hj => absurd hj (Nat.not_lt_zero _), by decide +kernel, by decide +kernel, fun j hj => absurd hj (Nat.not_lt_zero _), by decide +kernel, by decide +kernel⟩
theorem cl_3 : clD mX11_rule 28 0 := ⟨List.mem_of_getElem? (i := 702) (by decide +kernel), List.mem_of_getElem? (i := 703) (by decide +kernel), List.mem_of_getElem? (i := 704) (by decide +kernel), rfl, cw_X11_rule⟩
theorem cr_3 : clD mX12_rule 31 0 := ⟨List.mem_of_getElem? (i := 1397) (by decide +kernel), List.mem_of_getElem? (i := 1398) (by decide +kernel), List.mem_of_getElem? (i := 1399) (by decide +kernel), rfl, cw_X12_rule⟩
theorem op_4 : opD 280 1 32 35 := by
  refine ⟨by decide +kernel, fun j hj => by
    match j, hj with
    | 0, _ => exact ⟨by decide +kernel, by decide +kernel, by decide +kernel, by decide +kernel, by decide +kernel⟩
    | j + 1, hj => exact absurd hj (by omega), by decide +kernel, by decide +kernel, fun j hj => by
    match j, hj with
    | 0, _ => exact ⟨by decide +kernel, by decide +kernel, by decide +kernel, by decide +kernel, by decide +kernel⟩
    | j + 1, hj => exact absurd hj (by omega), by decide +kernel, by decide +kernel⟩
theorem cl_4 : clD mX11_force 32 1 := ⟨List.mem_of_getElem? (i := 768) (by decide +kernel), List.mem_of_getElem? (i := 769) (by decide +kernel), List.mem_of_getElem? (i := 770) (by decide +kernel), rfl, cw_X11_force⟩
theorem cr_4 : clD mX12_force 35 1 := ⟨List.mem_of_getElem? (i := 1473) (by decide +kernel), List.mem_of_getElem? (i := 1474) (by decide +kernel), List.mem_of_getElem? (i := 1475) (by decide +kernel), rfl, cw_X12_force⟩
theorem op_5 : opD 303 2 36 40 := by
  refine ⟨by decide +kernel, fun j hj => by
    match j, hj with
    | 0, _ => exact ⟨by decide +kernel, by decide +kernel, by decide +kernel, by decide +kernel, by decide +kernel⟩
    | 1, _ => exact ⟨by decide +kernel, by decide +kernel, by decide +kernel, by decide +kernel, by decide +kernel⟩
    | j + 2, hj => exact absurd hj (by omega), by decide +kernel, by decide +kernel, fun j hj => by
    match j, hj with
    | 0, _ => exact ⟨by decide +kernel, by decide +kernel, by decide +kernel, by decide +kernel, by decide +kernel⟩
    | 1, _ => exact ⟨by decide +kernel, by decide +kernel, by decide +kernel, by decide +kernel, by decide +kernel⟩
    | j + 2, hj => exact absurd hj (by omega), by decide +kernel, by decide +kernel⟩
theorem cl_5 : clD mX11_question 36 2 := ⟨List.mem_of_getElem? (i := 776) (by decide +kernel), List.mem_of_getElem? (i := 777) (by decide +kernel), List.mem_of_getElem? (i := 778) (by decide +kernel), rfl, cw_X11_question⟩
theorem cr_5 : clD mX12_question 40 2 := ⟨List.mem_of_getElem? (i := 1478) (by decide +kernel), List.mem_of_getElem? (i := 1479) (by decide +kernel), List.mem_of_getElem? (i := 1480) (by decide +kernel), rfl, cw_X12_question⟩
theorem op_6 : opD 336 0 41 44 := by
  refine ⟨by decide +kernel, fun j hj => absurd hj (Nat.not_lt_zero _), by decide +kernel, by decide +kernel, fun j hj => absurd hj (Nat.not_lt_zero _), by decide +kernel, by decide +kernel⟩
theorem cl_6 : clD mX11_day 41 0 := ⟨List.mem_of_getElem? (i := 807) (by decide +kernel), List.mem_of_getElem? (i := 808) (by decide +kernel), List.mem_of_getElem? (i := 809) (by decide +kernel), rfl, cw_X11_day⟩
theorem cr_6 : clD mX12_day 44 0 := ⟨List.mem_of_getElem? (i := 1517) (by decide +kernel), List.mem_of_getElem? (i := 1518) (by decide +kernel), List.mem_of_getElem? (i := 1519) (by decide +kernel), rfl, cw_X12_day⟩
theorem op_7 : opD 349 1 45 48 := by
  refine ⟨by decide +kernel, fun j hj => by
    match j, hj with
    | 0, _ => exact ⟨by decide +kernel, by decide +kernel, by decide +kernel, by decide +kernel, by decide +kernel⟩
    | j + 1, hj => exact absurd hj (by omega), by decide +kernel, by decide +kernel, fun j hj => by
    match j, hj with
    | 0, _ => exact ⟨by decide +kernel, by decide +kernel, by decide +kernel, by decide +kernel, by decide +kernel⟩
    | j + 1, hj => exact absurd hj (by omega), by decide +kernel, by decide +kernel⟩
theorem cl_7 : clD mX11_use 45 1 := ⟨List.mem_of_getElem? (i := 894) (by decide +kernel), List.mem_of_getElem? (i := 895) (by decide +kernel), List.mem_of_getElem? (i := 896) (by decide +kernel), rfl, cw_X11_use⟩
theorem cr_7 : clD mX12_use 48 1 := ⟨List.mem_of_getElem? (i := 1578) (by decide +kernel), List.mem_of_getElem? (i := 1579) (by decide +kernel), List.mem_of_getElem? (i := 1580) (by decide +kernel), rfl, cw_X12_use⟩
theorem op_8 : opD 372 0 49 52 := by
  refine ⟨by decide +kernel, fun j hj => absurd hj (Nat.not_lt_zero _), by decide +kernel, by decide +kernel, fun j hj => absurd hj (Nat.not_lt_zero _), by decide +kernel, by decide +kernel⟩
theorem cl_8 : clD mX11_egg 49 0 := ⟨List.mem_of_getElem? (i := 899) (by decide +kernel), List.mem_of_getElem? (i := 900) (by decide +kernel), List.mem_of_getElem? (i := 901) (by decide +kernel), rfl, cw_X11_egg⟩
theorem cr_8 : clD mX12_egg 52 0 := ⟨List.mem_of_getElem? (i := 1582) (by decide +kernel), List.mem_of_getElem? (i := 1583) (by decide +kernel), List.mem_of_getElem? (i := 1584) (by decide +kernel), rfl, cw_X12_egg⟩
theorem op_9 : opD 385 2 53 56 := by
  refine ⟨by decide +kernel, fun j hj => by
    match j, hj with
    | 0, _ => exact ⟨by decide +kernel, by decide +kernel, by decide +kernel, by decide +kernel, by decide +kernel⟩
    | 1, _ => exact ⟨by decide +kernel, by decide +kernel, by decide +kernel, by decide +kernel, by decide +kernel⟩
    | j + 2, hj => exact absurd hj (by omega), by decide +kernel, by decide +kernel, fun j hj => by
    match j, hj with
    | 0, _ => exact ⟨by decide +kernel, by decide +kernel, by decide +kernel, by decide +kernel, by decide +kernel⟩
    | 1, _ => exact ⟨by decide +kernel, by decide +kernel, by decide +kernel, by decide +kernel, by decide +kernel⟩
    | j + 2, hj => exact absurd hj (by omega), by decide +kernel, by decide +kernel⟩
theorem cl_9 : clD mX11_tie 53 2 := ⟨List.mem_of_getElem? (i := 903) (by decide +kernel), List.mem_of_getElem? (i := 904) (by decide +kernel), List.mem_of_getElem? (i := 905) (by decide +kernel), rfl, cw_X11_tie⟩
theorem cr_9 : clD mX12_tie 56 2 := ⟨List.mem_of_getElem? (i := 1586) (by decide +kernel), List.mem_of_getElem? (i := 1587) (by decide +kernel), List.mem_of_getElem? (i := 1588) (by decide +kernel), rfl, cw_X12_tie⟩
theorem op_10 : opD 418 2 57 60 := by
  refine ⟨by decide +kernel, fun j hj => by
    match j, hj with
    | 0, _ => exact ⟨by decide +kernel, by decide +kernel, by decide +kernel, by decide +kernel, by decide +kernel⟩
    | 1, _ => exact ⟨by decide +kernel, by decide +kernel, by decide +kernel, by decide +kernel, by decide +kernel⟩
    | j + 2, hj => exact absurd hj (by omega), by decide +kernel, by decide +kernel, fun j hj => by
    match j, hj with
    | 0, _ => exact ⟨by decide +kernel, by decide +kernel, by decide +kernel, by decide +kernel, by decide +kernel⟩
    | 1, _ => exact ⟨by decide +kernel, by decide +kernel, by decide +kernel, by decide +kernel, by decide +kernel⟩
    | j + 2, hj => exact absurd hj (by omega), by decide +kernel, by decide +kernel⟩
theorem cl_10 : clD mX11_grow 57 2 := ⟨List.mem_of_getElem? (i := 915) (by decide +kernel), List.mem_of_getElem? (i := 916) (by decide +kernel), List.mem_of_getElem? (i := 917) (by decide +kernel), rfl, cw_X11_grow⟩
theorem cr_10 : clD mX12_grow 60 2 := ⟨List.mem_of_getElem? (i := 1594) (by decide +kernel), List.mem_of_getElem? (i := 1595) (by decide +kernel), List.mem_of_getElem? (i := 1596) (by decide +kernel), rfl, cw_X12_grow⟩
theorem op_11 : opD 451 0 61 64 := by
  refine ⟨by decide +kernel, fun j hj => absurd hj (Nat.not_lt_zero _), by decide +kernel, by decide +kernel, fun j hj => absurd hj (Nat.not_lt_zero _), by decide +kernel, by decide +kernel⟩
theorem cl_11 : clD mX11_undo 61 0 := ⟨List.mem_of_getElem? (i := 920) (by decide +kernel), List.mem_of_getElem? (i := 921) (by decide +kernel), List.mem_of_getElem? (i := 922) (by decide +kernel), rfl, cw_X11_undo⟩
theorem cr_11 : clD mX12_undo 64 0 := ⟨List.mem_of_getElem? (i := 1501) (by decide +kernel), List.mem_of_getElem? (i := 1502) (by decide +kernel), List.mem_of_getElem? (i := 1503) (by decide +kernel), rfl, cw_X12_undo⟩
theorem op_12 : opD 464 3 65 69 := by
  refine ⟨by decide +kernel, fun j hj => by
    match j, hj with
    | 0, _ => exact ⟨by decide +kernel, by decide +kernel, by decide +kernel, by decide +kernel, by decide +kernel⟩
    | 1, _ => exact ⟨by decide +kernel, by decide +kernel, by decide +kernel, by decide +kernel, by decide +kernel⟩
    | 2, _ => exact ⟨by decide +kernel, by decide +kernel, by decide +kernel, by decide +kernel, by decide +kernel⟩
    | j + 3, hj => exact absurd hj (by omega), by decide +kernel, by decide +kernel, fun j hj => by
    match j, hj with
    | 0, _ => exact ⟨by decide +kernel, by decide +kernel, by decide +kernel, by decide +kernel, by decide +kernel⟩
    | 1, _ => exact ⟨by decide +kernel, by decide +kernel, by decide +kernel, by decide +kernel, by decide +kernel⟩
    | 2, _ => exact ⟨by decide +kernel, by decide +kernel, by decide +kernel, by decide +kernel, by decide +kernel⟩
    | j + 3, hj => exact absurd hj (by omega), by decide +kernel, by decide +kernel⟩
theorem cl_12 : clD mX11_ahead 65 3 := ⟨List.mem_of_getElem? (i := 928) (by decide +kernel), List.mem_of_getElem? (i := 929) (by decide +kernel), List.mem_of_getElem? (i := 930) (by decide +kernel), rfl, cw_X11_ahead⟩
theorem cr_12 : clD mX12_ahead 69 3 := ⟨List.mem_of_getElem? (i := 1599) (by decide +kernel), List.mem_of_getElem? (i := 1600) (by decide +kernel), List.mem_of_getElem? (i := 1601) (by decide +kernel), rfl, cw_X12_ahead⟩
theorem op_13 : opD 507 2 70 73 := by
  refine ⟨by decide +kernel, fun j hj => by
    match j, hj with
    | 0, _ => exact ⟨by decide +kernel, by decide +kernel, by decide +kernel, by decide +kernel, by decide +kernel⟩
    | 1, _ => exact ⟨by decide +kernel, by decide +kernel, by decide +kernel, by decide +kernel, by decide +kernel⟩
    | j + 2, hj => exact absurd hj (by omega), by decide +kernel, by decide +kernel, fun j hj => by
    match j, hj with
    | 0, _ => exact ⟨by decide +kernel, by decide +kernel, by decide +kernel, by decide +kernel, by decide +kernel⟩
    | 1, _ => exact ⟨by decide +kernel, by decide +kernel, by decide +kernel, by decide +kernel, by decide +kernel⟩
    | j + 2, hj => exact absurd hj (by omega), by decide +kernel, by decide +kernel⟩
theorem cl_13 : clD mX11_fate 70 2 := ⟨List.mem_of_getElem? (i := 944) (by decide +kernel), List.mem_of_getElem? (i := 945) (by decide +kernel), List.mem_of_getElem? (i := 946) (by decide +kernel), rfl, cw_X11_fate⟩
theorem cr_13 : clD mX12_fate 73 2 := ⟨List.mem_of_getElem? (i := 1624) (by decide +kernel), List.mem_of_getElem? (i := 1625) (by decide +kernel), List.mem_of_getElem? (i := 1626) (by decide +kernel), rfl, cw_X12_fate⟩
theorem op_14 : opD 540 2 74 77 := by
  refine ⟨by decide +kernel, fun j hj => by
    match j, hj with
    | 0, _ => exact ⟨by decide +kernel, by decide +kernel, by decide +kernel, by decide +kernel, by decide +kernel⟩
    | 1, _ => exact ⟨by decide +kernel, by decide +kernel, by decide +kernel, by decide +kernel, by decide +kernel⟩
    | j + 2, hj => exact absurd hj (by omega), by decide +kernel, by decide +kernel, fun j hj => by
    match j, hj with
    | 0, _ => exact ⟨by decide +kernel, by decide +kernel, by decide +kernel, by decide +kernel, by decide +kernel⟩
    | 1, _ => exact ⟨by decide +kernel, by decide +kernel, by decide +kernel, by decide +kernel, by decide +kernel⟩
    | j + 2, hj => exact absurd hj (by omega), by decide +kernel, by decide +kernel⟩
theorem cl_14 : clD mX11_row 74 2 := ⟨List.mem_of_getElem? (i := 948) (by decide +kernel), List.mem_of_getElem? (i := 949) (by decide +kernel), List.mem_of_getElem? (i := 950) (by decide +kernel), rfl, cw_X11_row⟩
theorem cr_14 : clD mX12_row 77 2 := ⟨List.mem_of_getElem? (i := 1628) (by decide +kernel), List.mem_of_getElem? (i := 1629) (by decide +kernel), List.mem_of_getElem? (i := 1630) (by decide +kernel), rfl, cw_X12_row⟩
theorem op_15 : opD 573 2 78 81 := by
  refine ⟨by decide +kernel, fun j hj => by
    match j, hj with
    | 0, _ => exact ⟨by decide +kernel, by decide +kernel, by decide +kernel, by decide +kernel, by decide +kernel⟩
    | 1, _ => exact ⟨by decide +kernel, by decide +kernel, by decide +kernel, by decide +kernel, by decide +kernel⟩
    | j + 2, hj => exact absurd hj (by omega), by decide +kernel, by decide +kernel, fun j hj => by
    match j, hj with
    | 0, _ => exact ⟨by decide +kernel, by decide +kernel, by decide +kernel, by decide +kernel, by decide +kernel⟩
    | 1, _ => exact ⟨by decide +kernel, by decide +kernel, by decide +kernel, by decide +kernel, by decide +kernel⟩
    | j + 2, hj => exact absurd hj (by omega), by decide +kernel, by decide +kernel⟩
theorem cl_15 : clD mX11_bind 78 2 := ⟨List.mem_of_getElem? (i := 976) (by decide +kernel), List.mem_of_getElem? (i := 977) (by decide +kernel), List.mem_of_getElem? (i := 978) (by decide +kernel), rfl, cw_X11_bind⟩
theorem cr_15 : clD mX12_bind 81 2 := ⟨List.mem_of_getElem? (i := 1642) (by decide +kernel), List.mem_of_getElem? (i := 1643) (by decide +kernel), List.mem_of_getElem? (i := 1644) (by decide +kernel), rfl, cw_X12_bind⟩
theorem op_16 : opD 606 2 82 85 := by
  refine ⟨by decide +kernel, fun j hj => by
    match j, hj with
    | 0, _ => exact ⟨by decide +kernel, by decide +kernel, by decide +kernel, by decide +kernel, by decide +kernel⟩
    | 1, _ => exact ⟨by decide +kernel, by decide +kernel, by decide +kernel, by decide +kernel, by decide +kernel⟩
    | j + 2, hj => exact absurd hj (by omega), by decide +kernel, by decide +kernel, fun j hj => by
    match j, hj with
    | 0, _ => exact ⟨by decide +kernel, by decide +kernel, by decide +kernel, by decide +kernel, by decide +kernel⟩
    | 1, _ => exact ⟨by decide +kernel, by decide +kernel, by decide +kernel, by decide +kernel, by decide +kernel⟩
    | j + 2, hj => exact absurd hj (by omega), by decide +kernel, by decide +kernel⟩
theorem cl_16 : clD mX11_rescue 82 2 := ⟨List.mem_of_getElem? (i := 989) (by decide +kernel), List.mem_of_getElem? (i := 990) (by decide +kernel), List.mem_of_getElem? (i := 991) (by decide +kernel), rfl, cw_X11_rescue⟩
theorem cr_16 : clD mX12_rescue 85 2 := ⟨List.mem_of_getElem? (i := 1652) (by decide +kernel), List.mem_of_getElem? (i := 1653) (by decide +kernel), List.mem_of_getElem? (i := 1654) (by decide +kernel), rfl, cw_X12_rescue⟩
theorem op_17 : opD 639 1 86 89 := by
  refine ⟨by decide +kernel, fun j hj => by
    match j, hj with
    | 0, _ => exact ⟨by decide +kernel, by decide +kernel, by decide +kernel, by decide +kernel, by decide +kernel⟩
    | j + 1, hj => exact absurd hj (by omega), by decide +kernel, by decide +kernel, fun j hj => by
    match j, hj with
    | 0, _ => exact ⟨by decide +kernel, by decide +kernel, by decide +kernel, by decide +kernel, by decide +kernel⟩
    | j + 1, hj => exact absurd hj (by omega), by decide +kernel, by decide +kernel⟩
theorem cl_17 : clD mX11_cover 86 1 := ⟨List.mem_of_getElem? (i := 998) (by decide +kernel), List.mem_of_getElem? (i := 999) (by decide +kernel), List.mem_of_getElem? (i := 1000) (by decide +kernel), rfl, cw_X11_cover⟩
theorem cr_17 : clD mX12_cover 89 1 := ⟨List.mem_of_getElem? (i := 1660) (by decide +kernel), List.mem_of_getElem? (i := 1661) (by decide +kernel), List.mem_of_getElem? (i := 1662) (by decide +kernel), rfl, cw_X12_cover⟩
theorem op_18 : opD 662 1 90 93 := by
  refine ⟨by decide +kernel, fun j hj => by
    match j, hj with
    | 0, _ => exact ⟨by decide +kernel, by decide +kernel, by decide +kernel, by decide +kernel, by decide +kernel⟩
    | j + 1, hj => exact absurd hj (by omega), by decide +kernel, by decide +kernel, fun j hj => by
    match j, hj with
    | 0, _ => exact ⟨by decide +kernel, by decide +kernel, by decide +kernel, by decide +kernel, by decide +kernel⟩
    | j + 1, hj => exact absurd hj (by omega), by decide +kernel, by decide +kernel⟩
theorem cl_18 : clD mX11_today 90 1 := ⟨List.mem_of_getElem? (i := 1006) (by decide +kernel), List.mem_of_getElem? (i := 1007) (by decide +kernel), List.mem_of_getElem? (i := 1008) (by decide +kernel), rfl, cw_X11_today⟩
theorem cr_18 : clD mX12_today 93 1 := ⟨List.mem_of_getElem? (i := 1668) (by decide +kernel), List.mem_of_getElem? (i := 1669) (by decide +kernel), List.mem_of_getElem? (i := 1670) (by decide +kernel), rfl, cw_X12_today⟩
theorem op_19 : opD 685 2 94 97 := by
  refine ⟨by decide +kernel, fun j hj => by
    match j, hj with
    | 0, _ => exact ⟨by decide +kernel, by decide +kernel, by decide +kernel, by decide +kernel, by decide +kernel⟩
    | 1, _ => exact ⟨by decide +kernel, by decide +kernel, by decide +kernel, by decide +kernel, by decide +kernel⟩
    | j + 2, hj => exact absurd hj (by omega), by decide +kernel, by decide +kernel, fun j hj => by
    match j, hj with
    | 0, _ => exact ⟨by decide +kernel, by decide +kernel, by decide +kernel, by decide +kernel, by decide +kernel⟩
    | 1, _ => exact ⟨by decide +kernel, by decide +kernel, by decide +kernel, by decide +kernel, by decide +kernel⟩
    | j + 2, hj => exact absurd hj (by omega), by decide +kernel, by decide +kernel⟩
theorem cl_19 : clD mX11_waste 94 2 := ⟨List.mem_of_getElem? (i := 1014) (by decide +kernel), List.mem_of_getElem? (i := 1015) (by decide +kernel), List.mem_of_getElem? (i := 1016) (by decide +kernel), rfl, cw_X11_waste⟩
theorem cr_19 : clD mX12_waste 97 2 := ⟨List.mem_of_getElem? (i := 1672) (by decide +kernel), List.mem_of_getElem? (i := 1673) (by decide +kernel), List.mem_of_getElem? (i := 1674) (by decide +kernel), rfl, cw_X12_waste⟩
theorem op_20 : opD 718 2 98 101 := by
  refine ⟨by decide +kernel, fun j hj => by
    match j, hj with
    | 0, _ => exact ⟨by decide +kernel, by decide +kernel, by decide +kernel, by decide +kernel, by decide +kernel⟩
    | 1, _ => exact ⟨by decide +kernel, by decide +kernel, by decide +kernel, by decide +kernel, by decide +kernel⟩
    | j + 2, hj => exact absurd hj (by omega), by decide +kernel, by decide +kernel, fun j hj => by
    match j, hj with
    | 0, _ => exact ⟨by decide +kernel, by decide +kernel, by decide +kernel, by decide +kernel, by decide +kernel⟩
    | 1, _ => exact ⟨by decide +kernel, by decide +kernel, by decide +kernel, by decide +kernel, by decide +kernel⟩
    | j + 2, hj => exact absurd hj (by omega), by decide +kernel, by decide +kernel⟩
theorem cl_20 : clD mX11_blame 98 2 := ⟨List.mem_of_getElem? (i := 1018) (by decide +kernel), List.mem_of_getElem? (i := 1019) (by decide +kernel), List.mem_of_getElem? (i := 1020) (by decide +kernel), rfl, cw_X11_blame⟩
theorem cr_20 : clD mX12_blame 101 2 := ⟨List.mem_of_getElem? (i := 1677) (by decide +kernel), List.mem_of_getElem? (i := 1678) (by decide +kernel), List.mem_of_getElem? (i := 1679) (by decide +kernel), rfl, cw_X12_blame⟩
theorem op_21 : opD 751 4 102 106 := by
  refine ⟨by decide +kernel, fun j hj => by
    match j, hj with
    | 0, _ => exact ⟨by decide +kernel, by decide +kernel, by decide +kernel, by decide +kernel, by decide +kernel⟩
    | 1, _ => exact ⟨by decide +kernel, by decide +kernel, by decide +kernel, by decide +kernel, by decide +kernel⟩
    | 2, _ => exact ⟨by decide +kernel, by decide +kernel, by decide +kernel, by decide +kernel, by decide +kernel⟩
    | 3, _ => exact ⟨by decide +kernel, by decide +kernel, by decide +kernel, by decide +kernel, by decide +kernel⟩
    | j + 4, hj => exact absurd hj (by omega), by decide +kernel, by decide +kernel, fun j hj => by
    match j, hj with
    | 0, _ => exact ⟨by decide +kernel, by decide +kernel, by decide +kernel, by decide +kernel, by decide +kernel⟩
    | 1, _ => exact ⟨by decide +kernel, by decide +kernel, by decide +kernel, by decide +kernel, by decide +kernel⟩
    | 2, _ => exact ⟨by decide +kernel, by decide +kernel, by decide +kernel, by decide +kernel, by decide +kernel⟩
    | 3, _ => exact ⟨by decide +kernel, by decide +kernel, by decide +kernel, by decide +kernel, by decide +kernel⟩
    | j + 4, hj => exact absurd hj (by omega), by decide +kernel, by decide +kernel⟩
theorem cl_21 : clD mX11_woke 102 4 := ⟨List.mem_of_getElem? (i := 1032) (by decide +kernel), List.mem_of_getElem? (i := 1033) (by decide +kernel), List.mem_of_getElem? (i := 1034) (by decide +kernel), rfl, cw_X11_woke⟩
theorem cr_21 : clD mX12_woke 106 4 := ⟨List.mem_of_getElem? (i := 1682) (by decide +kernel), List.mem_of_getElem? (i := 1683) (by decide +kernel), List.mem_of_getElem? (i := 1684) (by decide +kernel), rfl, cw_X12_woke⟩
theorem op_22 : opD 804 2 107 110 := by
  refine ⟨by decide +kernel, fun j hj => by
    match j, hj with
    | 0, _ => exact ⟨by decide +kernel, by decide +kernel, by decide +kernel, by decide +kernel, by decide +kernel⟩
    | 1, _ => exact ⟨by decide +kernel, by decide +kernel, by decide +kernel, by decide +kernel, by decide +kernel⟩
    | j + 2, hj => exact absurd hj (by omega), by decide +kernel, by decide +kernel, fun j hj => by
    match j, hj with
    | 0, _ => exact ⟨by decide +kernel, by decide +kernel, by decide +kernel, by decide +kernel, by decide +kernel⟩
    | 1, _ => exact ⟨by decide +kernel, by decide +kernel, by decide +kernel, by decide +kernel, by decide +kernel⟩
    | j + 2, hj => exact absurd hj (by omega), by decide +kernel, by decide +kernel⟩
theorem cl_22 : clD mX11_note 107 2 := ⟨List.mem_of_getElem? (i := 1059) (by decide +kernel), List.mem_of_getElem? (i := 1060) (by decide +kernel), List.mem_of_getElem? (i := 1061) (by decide +kernel), rfl, cw_X11_note⟩
theorem cr_22 : clD mX12_note 110 2 := ⟨List.mem_of_getElem? (i := 1691) (by decide +kernel), List.mem_of_getElem? (i := 1692) (by decide +kernel), List.mem_of_getElem? (i := 1693) (by decide +kernel), rfl, cw_X12_note⟩
theorem op_23 : opD 837 1 111 114 := by
  refine ⟨by decide +kernel, fun j hj => by
    match j, hj with
    | 0, _ => exact ⟨by decide +kernel, by decide +kernel, by decide +kernel, by decide +kernel, by decide +kernel⟩
    | j + 1, hj => exact absurd hj (by omega), by decide +kernel, by decide +kernel, fun j hj => by
    match j, hj with
    | 0, _ => exact ⟨by decide +kernel, by decide +kernel, by decide +kernel, by decide +kernel, by decide +kernel⟩
    | j + 1, hj => exact absurd hj (by omega), by decide +kernel, by decide +kernel⟩
theorem cl_23 : clD mX11_ruled 111 1 := ⟨List.mem_of_getElem? (i := 1071) (by decide +kernel), List.mem_of_getElem? (i := 1072) (by decide +kernel), List.mem_of_getElem? (i := 1073) (by decide +kernel), rfl, cw_X11_ruled⟩
theorem cr_23 : clD mX12_ruled 114 1 := ⟨List.mem_of_getElem? (i := 1695) (by decide +kernel), List.mem_of_getElem? (i := 1696) (by decide +kernel), List.mem_of_getElem? (i := 1697) (by decide +kernel), rfl, cw_X12_ruled⟩
theorem op_24 : opD 860 1 115 118 := by
  refine ⟨by decide +kernel, fun j hj => by
    match j, hj with
    | 0, _ => exact ⟨by decide +kernel, by decide +kernel, by decide +kernel, by decide +kernel, by decide +kernel⟩
    | j + 1, hj => exact absurd hj (by omega), by decide +kernel, by decide +kernel, fun j hj => by
    match j, hj with
    | 0, _ => exact ⟨by decide +kernel, by decide +kernel, by decide +kernel, by decide +kernel, by decide +kernel⟩
    | j + 1, hj => exact absurd hj (by omega), by decide +kernel, by decide +kernel⟩
theorem cl_24 : clD mX11_look 115 1 := ⟨List.mem_of_getElem? (i := 1083) (by decide +kernel), List.mem_of_getElem? (i := 1084) (by decide +kernel), List.mem_of_getElem? (i := 1085) (by decide +kernel), rfl, cw_X11_look⟩
theorem cr_24 : clD mX12_look 118 1 := ⟨List.mem_of_getElem? (i := 1703) (by decide +kernel), List.mem_of_getElem? (i := 1704) (by decide +kernel), List.mem_of_getElem? (i := 1705) (by decide +kernel), rfl, cw_X12_look⟩
theorem op_25 : opD 883 1 119 122 := by
  refine ⟨by decide +kernel, fun j hj => by
    match j, hj with
    | 0, _ => exact ⟨by decide +kernel, by decide +kernel, by decide +kernel, by decide +kernel, by decide +kernel⟩
    | j + 1, hj => exact absurd hj (by omega), by decide +kernel, by decide +kernel, fun j hj => by
    match j, hj with
    | 0, _ => exact ⟨by decide +kernel, by decide +kernel, by decide +kernel, by decide +kernel, by decide +kernel⟩
    | j + 1, hj => exact absurd hj (by omega), by decide +kernel, by decide +kernel⟩
theorem cl_25 : clD mX11_seed 119 1 := ⟨List.mem_of_getElem? (i := 1092) (by decide +kernel), List.mem_of_getElem? (i := 1093) (by decide +kernel), List.mem_of_getElem? (i := 1094) (by decide +kernel), rfl, cw_X11_seed⟩
theorem cr_25 : clD mX12_seed 122 1 := ⟨List.mem_of_getElem? (i := 1711) (by decide +kernel), List.mem_of_getElem? (i := 1712) (by decide +kernel), List.mem_of_getElem? (i := 1713) (by decide +kernel), rfl, cw_X12_seed⟩
theorem op_26 : opD 906 4 123 126 := by
  refine ⟨by decide +kernel, fun j hj => by
    match j, hj with
    | 0, _ => exact ⟨by decide +kernel, by decide +kernel, by decide +kernel, by decide +kernel, by decide +kernel⟩
    | 1, _ => exact ⟨by decide +kernel, by decide +kernel, by decide +kernel, by decide +kernel, by decide +kernel⟩
    | 2, _ => exact ⟨by decide +kernel, by decide +kernel, by decide +kernel, by decide +kernel, by decide +kernel⟩
    | 3, _ => exact ⟨by decide +kernel, by decide +kernel, by decide +kernel, by decide +kernel, by decide +kernel⟩
    | j + 4, hj => exact absurd hj (by omega), by decide +kernel, by decide +kernel, fun j hj => by
    match j, hj with
    | 0, _ => exact ⟨by decide +kernel, by decide +kernel, by decide +kernel, by decide +kernel, by decide +kernel⟩
    | 1, _ => exact ⟨by decide +kernel, by decide +kernel, by decide +kernel, by decide +kernel, by decide +kernel⟩
    | 2, _ => exact ⟨by decide +kernel, by decide +kernel, by decide +kernel, by decide +kernel, by decide +kernel⟩
    | 3, _ => exact ⟨by decide +kernel, by decide +kernel, by decide +kernel, by decide +kernel, by decide +kernel⟩
    | j + 4, hj => exact absurd hj (by omega), by decide +kernel, by decide +kernel⟩
theorem cl_26 : clD mX11_reigns 123 4 := ⟨List.mem_of_getElem? (i := 1096) (by decide +kernel), List.mem_of_getElem? (i := 1097) (by decide +kernel), List.mem_of_getElem? (i := 1098) (by decide +kernel), rfl, cw_X11_reigns⟩
theorem cr_26 : clD mX12_reigns 126 4 := ⟨List.mem_of_getElem? (i := 1715) (by decide +kernel), List.mem_of_getElem? (i := 1716) (by decide +kernel), List.mem_of_getElem? (i := 1717) (by decide +kernel), rfl, cw_X12_reigns⟩
theorem op_27 : opD 959 1 127 130 := by
  refine ⟨by decide +kernel, fun j hj => by
    match j, hj with
    | 0, _ => exact ⟨by decide +kernel, by decide +kernel, by decide +kernel, by decide +kernel, by decide +kernel⟩
    | j + 1, hj => exact absurd hj (by omega), by decide +kernel, by decide +kernel, fun j hj => by
    match j, hj with
    | 0, _ => exact ⟨by decide +kernel, by decide +kernel, by decide +kernel, by decide +kernel, by decide +kernel⟩
    | j + 1, hj => exact absurd hj (by omega), by decide +kernel, by decide +kernel⟩
theorem cl_27 : clD mX11_count 127 1 := ⟨List.mem_of_getElem? (i := 1107) (by decide +kernel), List.mem_of_getElem? (i := 1108) (by decide +kernel), List.mem_of_getElem? (i := 1109) (by decide +kernel), rfl, cw_X11_count⟩
theorem cr_27 : clD mX12_count 130 1 := ⟨List.mem_of_getElem? (i := 1728) (by decide +kernel), List.mem_of_getElem? (i := 1729) (by decide +kernel), List.mem_of_getElem? (i := 1730) (by decide +kernel), rfl, cw_X12_count⟩
theorem op_28 : opD 982 1 131 134 := by
  refine ⟨by decide +kernel, fun j hj => by
    match j, hj with
    | 0, _ => exact ⟨by decide +kernel, by decide +kernel, by decide +kernel, by decide +kernel, by decide +kernel⟩
    | j + 1, hj => exact absurd hj (by omega), by decide +kernel, by decide +kernel, fun j hj => by
    match j, hj with
    | 0, _ => exact ⟨by decide +kernel, by decide +kernel, by decide +kernel, by decide +kernel, by decide +kernel⟩
    | j + 1, hj => exact absurd hj (by omega), by decide +kernel, by decide +kernel⟩
theorem cl_28 : clD mX11_image 131 1 := ⟨List.mem_of_getElem? (i := 1112) (by decide +kernel), List.mem_of_getElem? (i := 1113) (by decide +kernel), List.mem_of_getElem? (i := 1114) (by decide +kernel), rfl, cw_X11_image⟩
theorem cr_28 : clD mX12_image 134 1 := ⟨List.mem_of_getElem? (i := 1732) (by decide +kernel), List.mem_of_getElem? (i := 1733) (by decide +kernel), List.mem_of_getElem? (i := 1734) (by decide +kernel), rfl, cw_X12_image⟩
theorem op_29 : opD 1005 1 135 138 := by
  refine ⟨by decide +kernel, fun j hj => by
    match j, hj with
    | 0, _ => exact ⟨by decide +kernel, by decide +kernel, by decide +kernel, by decide +kernel, by decide +kernel⟩
    | j + 1, hj => exact absurd hj (by omega), by decide +kernel, by decide +kernel, fun j hj => by
    match j, hj with
    | 0, _ => exact ⟨by decide +kernel, by decide +kernel, by decide +kernel, by decide +kernel, by decide +kernel⟩
    | j + 1, hj => exact absurd hj (by omega), by decide +kernel, by decide +kernel⟩
theorem cl_29 : clD mX11_back 135 1 := ⟨List.mem_of_getElem? (i := 1130) (by decide +kernel), List.mem_of_getElem? (i := 1131) (by decide +kernel), List.mem_of_getElem? (i := 1132) (by decide +kernel), rfl, cw_X11_back⟩
theorem cr_29 : clD mX12_back 138 1 := ⟨List.mem_of_getElem? (i := 1736) (by decide +kernel), List.mem_of_getElem? (i := 1737) (by decide +kernel), List.mem_of_getElem? (i := 1738) (by decide +kernel), rfl, cw_X12_back⟩
theorem cl_3n : clD m0X11_rule 28 0 := cl_3
theorem cl_28n : clD m0X11_image 131 1 := cl_28
