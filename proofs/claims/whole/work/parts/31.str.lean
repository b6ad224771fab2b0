/-! The String members that are reached: records, rows (stretches of supported instructions). Printed by wip/tools/gen31.py. -/
def mJ0_coder_7d493 : rm_M := (yJ0_coder_7d493, cJ0_coder_7d493, 1, (some .byte), 0, 0, 99)
set_option maxRecDepth 100000 in
theorem cw_J0_coder_7d493 : rm_cwd mJ0_coder_7d493 0 := ⟨List.mem_filter.mpr ⟨List.mem_of_getElem? (i := 538) rfl, rfl⟩, rm_wd_in (i := 109) (by decide +kernel), ⟨by decide, by decide, by decide +kernel⟩, by decide⟩
theorem rt_J0_coder_7d493 : rm_rt mJ0_coder_7d493 = (some .byte) := rfl
theorem mc_J0_coder_7d493 : rm_mc mJ0_coder_7d493 = 0 := rfl
theorem ms_J0_coder_7d493 : rm_ms mJ0_coder_7d493 = 0 := rfl
theorem ci_J0_coder_7d493 : rm_ci mJ0_coder_7d493 = 99 := rfl
theorem al_J0_coder_7d493 {M : rm_M} {n0 c s : Nat} {H : rm_H} : rm_al M mJ0_coder_7d493 n0 H c s = True := eq_true (al_0 rfl rfl)
def mJ0_isLatin1_aae02 : rm_M := (yJ0_isLatin1_aae02, cJ0_isLatin1_aae02, 1, (some .boolean), 0, 0, 99)
set_option maxRecDepth 100000 in
theorem cw_J0_isLatin1_aae02 : rm_cwd mJ0_isLatin1_aae02 0 := ⟨List.mem_filter.mpr ⟨List.mem_of_getElem? (i := 548) rfl, rfl⟩, rm_wd_in (i := 109) (by decide +kernel), ⟨by decide, by decide, by decide +kernel⟩, by decide⟩
theorem rt_J0_isLatin1_aae02 : rm_rt mJ0_isLatin1_aae02 = (some .boolean) := rfl
theorem mc_J0_isLatin1_aae02 : rm_mc mJ0_isLatin1_aae02 = 0 := rfl
theorem ms_J0_isLatin1_aae02 : rm_ms mJ0_isLatin1_aae02 = 0 := rfl
theorem ci_J0_isLatin1_aae02 : rm_ci mJ0_isLatin1_aae02 = 99 := rfl
theorem al_J0_isLatin1_aae02 {M : rm_M} {n0 c s : Nat} {H : rm_H} : rm_al M mJ0_isLatin1_aae02 n0 H c s = True := eq_true (al_0 rfl rfl)
def mJ1_charAt_3b067 : rm_M := (yJ1_charAt_3b067, cJ1_charAt_3b067, 2, (some .char), 0, 0, 99)
set_option maxRecDepth 100000 in
theorem cw_J1_charAt_3b067 : rm_cwd mJ1_charAt_3b067 2 := ⟨List.mem_filter.mpr ⟨List.mem_of_getElem? (i := 551) rfl, rfl⟩, rm_wd_in (i := 110) (by decide +kernel), ⟨by decide, by decide, by decide +kernel⟩, by decide⟩
theorem rt_J1_charAt_3b067 : rm_rt mJ1_charAt_3b067 = (some .char) := rfl
theorem mc_J1_charAt_3b067 : rm_mc mJ1_charAt_3b067 = 0 := rfl
theorem ms_J1_charAt_3b067 : rm_ms mJ1_charAt_3b067 = 0 := rfl
theorem ci_J1_charAt_3b067 : rm_ci mJ1_charAt_3b067 = 99 := rfl
theorem al_J1_charAt_3b067 {M : rm_M} {n0 c s : Nat} {H : rm_H} : rm_al M mJ1_charAt_3b067 n0 H c s = True := eq_true (al_0 rfl rfl)
def mJ0_checkIndex_df160 : rm_M := (yJ0_checkIndex_df160, cJ0_checkIndex_df160, 2, none, 0, 0, 99)
set_option maxRecDepth 100000 in
theorem cw_J0_checkIndex_df160 : rm_cwd mJ0_checkIndex_df160 2 := ⟨List.mem_filter.mpr ⟨List.mem_of_getElem? (i := 554) rfl, rfl⟩, rm_wd_in (i := 109) (by decide +kernel), ⟨by decide, by decide, by decide +kernel⟩, by decide⟩
theorem rt_J0_checkIndex_df160 : rm_rt mJ0_checkIndex_df160 = none := rfl
theorem mc_J0_checkIndex_df160 : rm_mc mJ0_checkIndex_df160 = 0 := rfl
theorem ms_J0_checkIndex_df160 : rm_ms mJ0_checkIndex_df160 = 0 := rfl
theorem ci_J0_checkIndex_df160 : rm_ci mJ0_checkIndex_df160 = 99 := rfl
theorem al_J0_checkIndex_df160 {M : rm_M} {n0 c s : Nat} {H : rm_H} : rm_al M mJ0_checkIndex_df160 n0 H c s = True := eq_true (al_0 rfl rfl)
def mJ3_checkIndex_8e157 : rm_M := (yJ3_checkIndex_8e157, cJ3_checkIndex_8e157, 3, (some .int), 0, 0, 99)
set_option maxRecDepth 100000 in
theorem cw_J3_checkIndex_8e157 : rm_cwd mJ3_checkIndex_8e157 3 := ⟨List.mem_filter.mpr ⟨List.mem_of_getElem? (i := 559) rfl, rfl⟩, rm_wd_in (i := 111) (by decide +kernel), ⟨by decide, by decide, by decide +kernel⟩, by decide⟩
theorem rt_J3_checkIndex_8e157 : rm_rt mJ3_checkIndex_8e157 = (some .int) := rfl
theorem mc_J3_checkIndex_8e157 : rm_mc mJ3_checkIndex_8e157 = 0 := rfl
theorem ms_J3_checkIndex_8e157 : rm_ms mJ3_checkIndex_8e157 = 0 := rfl
theorem ci_J3_checkIndex_8e157 : rm_ci mJ3_checkIndex_8e157 = 99 := rfl
theorem al_J3_checkIndex_8e157 {M : rm_M} {n0 c s : Nat} {H : rm_H} : rm_al M mJ3_checkIndex_8e157 n0 H c s = True := eq_true (al_0 rfl rfl)
def mJ0_indexOf_7cf53 : rm_M := (yJ0_indexOf_7cf53, cJ0_indexOf_7cf53, 3, (some .int), 0, 0, 99)
set_option maxRecDepth 100000 in
theorem cw_J0_indexOf_7cf53 : rm_cwd mJ0_indexOf_7cf53 2 := ⟨List.mem_filter.mpr ⟨List.mem_of_getElem? (i := 595) rfl, rfl⟩, rm_wd_in (i := 109) (by decide +kernel), ⟨by decide, by decide, by decide +kernel⟩, by decide⟩
theorem rt_J0_indexOf_7cf53 : rm_rt mJ0_indexOf_7cf53 = (some .int) := rfl
theorem mc_J0_indexOf_7cf53 : rm_mc mJ0_indexOf_7cf53 = 0 := rfl
theorem ms_J0_indexOf_7cf53 : rm_ms mJ0_indexOf_7cf53 = 0 := rfl
theorem ci_J0_indexOf_7cf53 : rm_ci mJ0_indexOf_7cf53 = 99 := rfl
theorem al_J0_indexOf_7cf53 {M : rm_M} {n0 c s : Nat} {H : rm_H} : rm_al M mJ0_indexOf_7cf53 n0 H c s = True := eq_true (al_0 rfl rfl)
def mJ1_indexOf_4cfef : rm_M := (yJ1_indexOf_4cfef, cJ1_indexOf_4cfef, 4, (some .int), 0, 0, 99)
set_option maxRecDepth 100000 in
theorem cw_J1_indexOf_4cfef : rm_cwd mJ1_indexOf_4cfef 4 := ⟨List.mem_filter.mpr ⟨List.mem_of_getElem? (i := 599) rfl, rfl⟩, rm_wd_in (i := 110) (by decide +kernel), ⟨by decide, by decide, by decide +kernel⟩, by decide⟩
theorem rt_J1_indexOf_4cfef : rm_rt mJ1_indexOf_4cfef = (some .int) := rfl
theorem mc_J1_indexOf_4cfef : rm_mc mJ1_indexOf_4cfef = 0 := rfl
theorem ms_J1_indexOf_4cfef : rm_ms mJ1_indexOf_4cfef = 0 := rfl
theorem ci_J1_indexOf_4cfef : rm_ci mJ1_indexOf_4cfef = 99 := rfl
theorem al_J1_indexOf_4cfef {M : rm_M} {n0 c s : Nat} {H : rm_H} : rm_al M mJ1_indexOf_4cfef n0 H c s = True := eq_true (al_0 rfl rfl)
def mJ1_canEncode_9a6ad : rm_M := (yJ1_canEncode_9a6ad, cJ1_canEncode_9a6ad, 1, (some .boolean), 0, 0, 99)
set_option maxRecDepth 100000 in
theorem cw_J1_canEncode_9a6ad : rm_cwd mJ1_canEncode_9a6ad 1 := ⟨List.mem_filter.mpr ⟨List.mem_of_getElem? (i := 602) rfl, rfl⟩, rm_wd_in (i := 110) (by decide +kernel), ⟨by decide, by decide, by decide +kernel⟩, by decide⟩
theorem rt_J1_canEncode_9a6ad : rm_rt mJ1_canEncode_9a6ad = (some .boolean) := rfl
theorem mc_J1_canEncode_9a6ad : rm_mc mJ1_canEncode_9a6ad = 0 := rfl
theorem ms_J1_canEncode_9a6ad : rm_ms mJ1_canEncode_9a6ad = 0 := rfl
theorem ci_J1_canEncode_9a6ad : rm_ci mJ1_canEncode_9a6ad = 99 := rfl
theorem al_J1_canEncode_9a6ad {M : rm_M} {n0 c s : Nat} {H : rm_H} : rm_al M mJ1_canEncode_9a6ad n0 H c s = True := eq_true (al_0 rfl rfl)
def mJ1_indexOfChar_4cfef : rm_M := (yJ1_indexOfChar_4cfef, cJ1_indexOfChar_4cfef, 6, (some .int), 0, 0, 99)
set_option maxRecDepth 100000 in
theorem cw_J1_indexOfChar_4cfef : rm_cwd mJ1_indexOfChar_4cfef 4 := ⟨List.mem_filter.mpr ⟨List.mem_of_getElem? (i := 611) rfl, rfl⟩, rm_wd_in (i := 110) (by decide +kernel), ⟨by decide, by decide, by decide +kernel⟩, by decide⟩
theorem rt_J1_indexOfChar_4cfef : rm_rt mJ1_indexOfChar_4cfef = (some .int) := rfl
theorem mc_J1_indexOfChar_4cfef : rm_mc mJ1_indexOfChar_4cfef = 0 := rfl
theorem ms_J1_indexOfChar_4cfef : rm_ms mJ1_indexOfChar_4cfef = 0 := rfl
theorem ci_J1_indexOfChar_4cfef : rm_ci mJ1_indexOfChar_4cfef = 99 := rfl
theorem al_J1_indexOfChar_4cfef {M : rm_M} {n0 c s : Nat} {H : rm_H} : rm_al M mJ1_indexOfChar_4cfef n0 H c s = True := eq_true (al_0 rfl rfl)
def qJ0_length_8abf5_0 : List rm_J := [(.aload 0, .aload_n 0, 1, 0, 0, 0, .null, rm_M0, [])]
theorem okqJ0_length_8abf5_0 : rm_okB mJ0_length_8abf5 qJ0_length_8abf5_0 0 = true := by decide +kernel
theorem clqJ0_length_8abf5_0 : ∀ q ∈ rm_calls qJ0_length_8abf5_0, rm_cwd q.1 q.2 := fun _ h => absurd h List.not_mem_nil
def qJ0_length_8abf5_5 : List rm_J := [(.aload 0, .aload_n 0, 1, 0, 0, 0, .null, rm_M0, []),
  (.invokevirtual 335, .invokevirtual 335, 3, 0, 0, 0, .null, mJ0_coder_7d493, [(0, 535), (0, 536), (0, 537)]),
  (.ishr, .ishr, 1, 0, 0, 0, .null, rm_M0, []),
  (.ireturn, .ireturn, 1, 0, 0, 0, .null, rm_M0, [])]
theorem okqJ0_length_8abf5_5 : rm_okB mJ0_length_8abf5 qJ0_length_8abf5_5 5 = true := by decide +kernel
theorem clqJ0_length_8abf5_5 : ∀ q ∈ rm_calls qJ0_length_8abf5_5, rm_cwd q.1 q.2 := List.forall_mem_cons.mpr ⟨cw_J0_coder_7d493, List.forall_mem_nil _⟩
def qJ0_charAt_5068e_0 : List rm_J := [(.aload 0, .aload_n 0, 1, 0, 0, 0, .null, rm_M0, []),
  (.invokevirtual 492, .invokevirtual 492, 3, 0, 0, 0, .null, mJ0_isLatin1_aae02, [(0, 545), (0, 546), (0, 547)]),
  (.ifCond .eq 12, .ifCond .eq 12, 3, 16, 0, 0, .null, rm_M0, []),
  (.aload 0, .aload_n 0, 1, 0, 0, 0, .null, rm_M0, [])]
theorem okqJ0_charAt_5068e_0 : rm_okB mJ0_charAt_5068e qJ0_charAt_5068e_0 0 = true := by decide +kernel
theorem clqJ0_charAt_5068e_0 : ∀ q ∈ rm_calls qJ0_charAt_5068e_0, rm_cwd q.1 q.2 := List.forall_mem_cons.mpr ⟨cw_J0_isLatin1_aae02, List.forall_mem_nil _⟩
def qJ0_charAt_5068e_11 : List rm_J := [(.iload 1, .iload_n 1, 1, 0, 0, 0, .null, rm_M0, []),
  (.invokestatic 495, .invokestatic 495, 3, 0, 2, 0, .null, mJ1_charAt_3b067, [(0, 549), (0, 550)]),
  (.ireturn, .ireturn, 1, 0, 0, 0, .null, rm_M0, [])]
theorem okqJ0_charAt_5068e_11 : rm_okB mJ0_charAt_5068e qJ0_charAt_5068e_11 11 = true := by decide +kernel
theorem clqJ0_charAt_5068e_11 : ∀ q ∈ rm_calls qJ0_charAt_5068e_11, rm_cwd q.1 q.2 := List.forall_mem_cons.mpr ⟨cw_J1_charAt_3b067, List.forall_mem_nil _⟩
def qJ0_indexOf_0f7a4_0 : List rm_J := [(.aload 0, .aload_n 0, 1, 0, 0, 0, .null, rm_M0, []),
  (.iload 1, .iload_n 1, 1, 0, 0, 0, .null, rm_M0, []),
  (.nop, .iconst 0, 1, 0, 0, 0, .int 0, rm_M0, []),
  (.invokevirtual 633, .invokevirtual 633, 3, 0, 2, 0, .null, mJ0_indexOf_7cf53, [(0, 592), (0, 593), (0, 594)]),
  (.ireturn, .ireturn, 1, 0, 0, 0, .null, rm_M0, [])]
theorem okqJ0_indexOf_0f7a4_0 : rm_okB mJ0_indexOf_0f7a4 qJ0_indexOf_0f7a4_0 0 = true := by decide +kernel
theorem clqJ0_indexOf_0f7a4_0 : ∀ q ∈ rm_calls qJ0_indexOf_0f7a4_0, rm_cwd q.1 q.2 := List.forall_mem_cons.mpr ⟨cw_J0_indexOf_7cf53, List.forall_mem_nil _⟩
def qJ0_coder_7d493_3 : List rm_J := [(.ifCond .eq 10, .ifCond .eq 10, 3, 13, 0, 0, .null, rm_M0, []),
  (.aload 0, .aload_n 0, 1, 0, 0, 0, .null, rm_M0, [])]
theorem okqJ0_coder_7d493_3 : rm_okB mJ0_coder_7d493 qJ0_coder_7d493_3 3 = true := by decide +kernel
theorem clqJ0_coder_7d493_3 : ∀ q ∈ rm_calls qJ0_coder_7d493_3, rm_cwd q.1 q.2 := fun _ h => absurd h List.not_mem_nil
def qJ0_coder_7d493_10 : List rm_J := [(.goto 4, .goto 4, 3, 14, 0, 0, .null, rm_M0, [])]
theorem okqJ0_coder_7d493_10 : rm_okB mJ0_coder_7d493 qJ0_coder_7d493_10 10 = true := by decide +kernel
theorem clqJ0_coder_7d493_10 : ∀ q ∈ rm_calls qJ0_coder_7d493_10, rm_cwd q.1 q.2 := fun _ h => absurd h List.not_mem_nil
def qJ0_coder_7d493_14 : List rm_J := [(.ireturn, .ireturn, 1, 0, 0, 0, .null, rm_M0, [])]
theorem okqJ0_coder_7d493_14 : rm_okB mJ0_coder_7d493 qJ0_coder_7d493_14 14 = true := by decide +kernel
theorem clqJ0_coder_7d493_14 : ∀ q ∈ rm_calls qJ0_coder_7d493_14, rm_cwd q.1 q.2 := fun _ h => absurd h List.not_mem_nil
def qJ0_isLatin1_aae02_3 : List rm_J := [(.ifCond .eq 14, .ifCond .eq 14, 3, 17, 0, 0, .null, rm_M0, []),
  (.aload 0, .aload_n 0, 1, 0, 0, 0, .null, rm_M0, [])]
theorem okqJ0_isLatin1_aae02_3 : rm_okB mJ0_isLatin1_aae02 qJ0_isLatin1_aae02_3 3 = true := by decide +kernel
theorem clqJ0_isLatin1_aae02_3 : ∀ q ∈ rm_calls qJ0_isLatin1_aae02_3, rm_cwd q.1 q.2 := fun _ h => absurd h List.not_mem_nil
def qJ0_isLatin1_aae02_10 : List rm_J := [(.ifCond .ne 7, .ifCond .ne 7, 3, 17, 0, 0, .null, rm_M0, []),
  (.nop, .iconst 1, 1, 0, 0, 0, .int 1, rm_M0, []),
  (.goto 4, .goto 4, 3, 18, 0, 0, .null, rm_M0, [])]
theorem okqJ0_isLatin1_aae02_10 : rm_okB mJ0_isLatin1_aae02 qJ0_isLatin1_aae02_10 10 = true := by decide +kernel
theorem clqJ0_isLatin1_aae02_10 : ∀ q ∈ rm_calls qJ0_isLatin1_aae02_10, rm_cwd q.1 q.2 := fun _ h => absurd h List.not_mem_nil
def qJ0_isLatin1_aae02_18 : List rm_J := [(.ireturn, .ireturn, 1, 0, 0, 0, .null, rm_M0, [])]
theorem okqJ0_isLatin1_aae02_18 : rm_okB mJ0_isLatin1_aae02 qJ0_isLatin1_aae02_18 18 = true := by decide +kernel
theorem clqJ0_isLatin1_aae02_18 : ∀ q ∈ rm_calls qJ0_isLatin1_aae02_18, rm_cwd q.1 q.2 := fun _ h => absurd h List.not_mem_nil
def qJ1_charAt_3b067_0 : List rm_J := [(.iload 1, .iload_n 1, 1, 0, 0, 0, .null, rm_M0, []),
  (.aload 0, .aload_n 0, 1, 0, 0, 0, .null, rm_M0, [])]
theorem okqJ1_charAt_3b067_0 : rm_okB mJ1_charAt_3b067 qJ1_charAt_3b067_0 0 = true := by decide +kernel
theorem clqJ1_charAt_3b067_0 : ∀ q ∈ rm_calls qJ1_charAt_3b067_0, rm_cwd q.1 q.2 := fun _ h => absurd h List.not_mem_nil
def qJ1_charAt_3b067_3 : List rm_J := [(.invokestatic 9, .invokestatic 9, 3, 0, 2, 0, .null, mJ0_checkIndex_df160, [(0, 552), (0, 553)]),
  (.aload 0, .aload_n 0, 1, 0, 0, 0, .null, rm_M0, []),
  (.iload 1, .iload_n 1, 1, 0, 0, 0, .null, rm_M0, [])]
theorem okqJ1_charAt_3b067_3 : rm_okB mJ1_charAt_3b067 qJ1_charAt_3b067_3 3 = true := by decide +kernel
theorem clqJ1_charAt_3b067_3 : ∀ q ∈ rm_calls qJ1_charAt_3b067_3, rm_cwd q.1 q.2 := List.forall_mem_cons.mpr ⟨cw_J0_checkIndex_df160, List.forall_mem_nil _⟩
def qJ1_charAt_3b067_9 : List rm_J := [(.nop, .sipush 255, 3, 0, 0, 0, .int 255, rm_M0, []),
  (.iand, .iand, 1, 0, 0, 0, .null, rm_M0, []),
  (.i2c, .i2c, 1, 0, 0, 0, .null, rm_M0, []),
  (.ireturn, .ireturn, 1, 0, 0, 0, .null, rm_M0, [])]
theorem okqJ1_charAt_3b067_9 : rm_okB mJ1_charAt_3b067 qJ1_charAt_3b067_9 9 = true := by decide +kernel
theorem clqJ1_charAt_3b067_9 : ∀ q ∈ rm_calls qJ1_charAt_3b067_9, rm_cwd q.1 q.2 := fun _ h => absurd h List.not_mem_nil
def qJ0_checkIndex_df160_0 : List rm_J := [(.iload 0, .iload_n 0, 1, 0, 0, 0, .null, rm_M0, []),
  (.iload 1, .iload_n 1, 1, 0, 0, 0, .null, rm_M0, [])]
theorem okqJ0_checkIndex_df160_0 : rm_okB mJ0_checkIndex_df160 qJ0_checkIndex_df160_0 0 = true := by decide +kernel
theorem clqJ0_checkIndex_df160_0 : ∀ q ∈ rm_calls qJ0_checkIndex_df160_0, rm_cwd q.1 q.2 := fun _ h => absurd h List.not_mem_nil
def qJ0_checkIndex_df160_5 : List rm_J := [(.invokestatic 1059, .invokestatic 1059, 3, 0, 3, 0, .null, mJ3_checkIndex_8e157, [(0, 557), (0, 558)]),
  (.pop, .pop, 1, 0, 0, 0, .null, rm_M0, []),
  (.return_, .return_, 1, 0, 0, 0, .null, rm_M0, [])]
theorem okqJ0_checkIndex_df160_5 : rm_okB mJ0_checkIndex_df160 qJ0_checkIndex_df160_5 5 = true := by decide +kernel
theorem clqJ0_checkIndex_df160_5 : ∀ q ∈ rm_calls qJ0_checkIndex_df160_5, rm_cwd q.1 q.2 := List.forall_mem_cons.mpr ⟨cw_J3_checkIndex_8e157, List.forall_mem_nil _⟩
def qJ3_checkIndex_8e157_0 : List rm_J := [(.iload 0, .iload_n 0, 1, 0, 0, 0, .null, rm_M0, []),
  (.ifCond .lt 8, .ifCond .lt 8, 3, 9, 0, 0, .null, rm_M0, []),
  (.iload 0, .iload_n 0, 1, 0, 0, 0, .null, rm_M0, []),
  (.iload 1, .iload_n 1, 1, 0, 0, 0, .null, rm_M0, []),
  (.if_icmp .lt 10, .if_icmp .lt 10, 3, 16, 0, 0, .null, rm_M0, [])]
theorem okqJ3_checkIndex_8e157_0 : rm_okB mJ3_checkIndex_8e157 qJ3_checkIndex_8e157_0 0 = true := by decide +kernel
theorem clqJ3_checkIndex_8e157_0 : ∀ q ∈ rm_calls qJ3_checkIndex_8e157_0, rm_cwd q.1 q.2 := fun _ h => absurd h List.not_mem_nil
def qJ3_checkIndex_8e157_16 : List rm_J := [(.iload 0, .iload_n 0, 1, 0, 0, 0, .null, rm_M0, []),
  (.ireturn, .ireturn, 1, 0, 0, 0, .null, rm_M0, [])]
theorem okqJ3_checkIndex_8e157_16 : rm_okB mJ3_checkIndex_8e157 qJ3_checkIndex_8e157_16 16 = true := by decide +kernel
theorem clqJ3_checkIndex_8e157_16 : ∀ q ∈ rm_calls qJ3_checkIndex_8e157_16, rm_cwd q.1 q.2 := fun _ h => absurd h List.not_mem_nil
def qJ0_indexOf_7cf53_0 : List rm_J := [(.aload 0, .aload_n 0, 1, 0, 0, 0, .null, rm_M0, []),
  (.invokevirtual 492, .invokevirtual 492, 3, 0, 0, 0, .null, mJ0_isLatin1_aae02, [(0, 545), (0, 546), (0, 547)]),
  (.ifCond .eq 19, .ifCond .eq 19, 3, 23, 0, 0, .null, rm_M0, []),
  (.aload 0, .aload_n 0, 1, 0, 0, 0, .null, rm_M0, [])]
theorem okqJ0_indexOf_7cf53_0 : rm_okB mJ0_indexOf_7cf53 qJ0_indexOf_7cf53_0 0 = true := by decide +kernel
theorem clqJ0_indexOf_7cf53_0 : ∀ q ∈ rm_calls qJ0_indexOf_7cf53_0, rm_cwd q.1 q.2 := List.forall_mem_cons.mpr ⟨cw_J0_isLatin1_aae02, List.forall_mem_nil _⟩
def qJ0_indexOf_7cf53_11 : List rm_J := [(.iload 1, .iload_n 1, 1, 0, 0, 0, .null, rm_M0, []),
  (.iload 2, .iload_n 2, 1, 0, 0, 0, .null, rm_M0, []),
  (.aload 0, .aload_n 0, 1, 0, 0, 0, .null, rm_M0, []),
  (.invokevirtual 505, .invokevirtual 505, 3, 0, 0, 0, .null, mJ0_length_8abf5, [(0, 596), (0, 532), (0, 533)]),
  (.invokestatic 637, .invokestatic 637, 3, 0, 4, 0, .null, mJ1_indexOf_4cfef, [(0, 597), (0, 598)]),
  (.goto 16, .goto 16, 3, 36, 0, 0, .null, rm_M0, [])]
theorem okqJ0_indexOf_7cf53_11 : rm_okB mJ0_indexOf_7cf53 qJ0_indexOf_7cf53_11 11 = true := by decide +kernel
theorem clqJ0_indexOf_7cf53_11 : ∀ q ∈ rm_calls qJ0_indexOf_7cf53_11, rm_cwd q.1 q.2 := List.forall_mem_cons.mpr ⟨cw_J0_length_8abf5, List.forall_mem_cons.mpr ⟨cw_J1_indexOf_4cfef, List.forall_mem_nil _⟩⟩
def qJ0_indexOf_7cf53_36 : List rm_J := [(.ireturn, .ireturn, 1, 0, 0, 0, .null, rm_M0, [])]
theorem okqJ0_indexOf_7cf53_36 : rm_okB mJ0_indexOf_7cf53 qJ0_indexOf_7cf53_36 36 = true := by decide +kernel
theorem clqJ0_indexOf_7cf53_36 : ∀ q ∈ rm_calls qJ0_indexOf_7cf53_36, rm_cwd q.1 q.2 := fun _ h => absurd h List.not_mem_nil
def qJ1_indexOf_4cfef_0 : List rm_J := [(.iload 1, .iload_n 1, 1, 0, 0, 0, .null, rm_M0, []),
  (.invokestatic 88, .invokestatic 88, 3, 0, 1, 0, .null, mJ1_canEncode_9a6ad, [(0, 600), (0, 601)]),
  (.ifCond .ne 5, .ifCond .ne 5, 3, 9, 0, 0, .null, rm_M0, [])]
theorem okqJ1_indexOf_4cfef_0 : rm_okB mJ1_indexOf_4cfef qJ1_indexOf_4cfef_0 0 = true := by decide +kernel
theorem clqJ1_indexOf_4cfef_0 : ∀ q ∈ rm_calls qJ1_indexOf_4cfef_0, rm_cwd q.1 q.2 := List.forall_mem_cons.mpr ⟨cw_J1_canEncode_9a6ad, List.forall_mem_nil _⟩
def qJ1_indexOf_4cfef_7 : List rm_J := [(.nop, .iconst (-1), 1, 0, 0, 0, .int (-1), rm_M0, []),
  (.ireturn, .ireturn, 1, 0, 0, 0, .null, rm_M0, [])]
theorem okqJ1_indexOf_4cfef_7 : rm_okB mJ1_indexOf_4cfef qJ1_indexOf_4cfef_7 7 = true := by decide +kernel
theorem clqJ1_indexOf_4cfef_7 : ∀ q ∈ rm_calls qJ1_indexOf_4cfef_7, rm_cwd q.1 q.2 := fun _ h => absurd h List.not_mem_nil
def qJ1_indexOf_4cfef_9 : List rm_J := [(.iload 2, .iload_n 2, 1, 0, 0, 0, .null, rm_M0, []),
  (.nop, .iconst 0, 1, 0, 0, 0, .int 0, rm_M0, []),
  (.monitorexit, .invokestatic 92, 3, 0, 0, 92, .null, rm_M0, [(0, 603), (0, 604), (0, 113), (0, 605)]),
  (.istore 2, .istore_n 2, 1, 0, 0, 0, .null, rm_M0, []),
  (.iload 3, .iload_n 3, 1, 0, 0, 0, .null, rm_M0, []),
  (.aload 0, .aload_n 0, 1, 0, 0, 0, .null, rm_M0, [])]
theorem okqJ1_indexOf_4cfef_9 : rm_okB mJ1_indexOf_4cfef qJ1_indexOf_4cfef_9 9 = true := by decide +kernel
theorem clqJ1_indexOf_4cfef_9 : ∀ q ∈ rm_calls qJ1_indexOf_4cfef_9, rm_cwd q.1 q.2 := fun _ h => absurd h List.not_mem_nil
def qJ1_indexOf_4cfef_18 : List rm_J := [(.monitorenter, .invokestatic 38, 3, 0, 0, 38, .null, rm_M0, [(0, 606), (0, 607), (0, 113), (0, 608)]),
  (.istore 3, .istore_n 3, 1, 0, 0, 0, .null, rm_M0, []),
  (.iload 2, .iload_n 2, 1, 0, 0, 0, .null, rm_M0, []),
  (.iload 3, .iload_n 3, 1, 0, 0, 0, .null, rm_M0, []),
  (.if_icmp .lt 5, .if_icmp .lt 5, 3, 29, 0, 0, .null, rm_M0, []),
  (.nop, .iconst (-1), 1, 0, 0, 0, .int (-1), rm_M0, []),
  (.ireturn, .ireturn, 1, 0, 0, 0, .null, rm_M0, [])]
theorem okqJ1_indexOf_4cfef_18 : rm_okB mJ1_indexOf_4cfef qJ1_indexOf_4cfef_18 18 = true := by decide +kernel
theorem clqJ1_indexOf_4cfef_18 : ∀ q ∈ rm_calls qJ1_indexOf_4cfef_18, rm_cwd q.1 q.2 := fun _ h => absurd h List.not_mem_nil
def qJ1_indexOf_4cfef_29 : List rm_J := [(.aload 0, .aload_n 0, 1, 0, 0, 0, .null, rm_M0, []),
  (.iload 1, .iload_n 1, 1, 0, 0, 0, .null, rm_M0, []),
  (.iload 2, .iload_n 2, 1, 0, 0, 0, .null, rm_M0, []),
  (.iload 3, .iload_n 3, 1, 0, 0, 0, .null, rm_M0, []),
  (.invokestatic 95, .invokestatic 95, 3, 0, 4, 0, .null, mJ1_indexOfChar_4cfef, [(0, 609), (0, 610)]),
  (.ireturn, .ireturn, 1, 0, 0, 0, .null, rm_M0, [])]
theorem okqJ1_indexOf_4cfef_29 : rm_okB mJ1_indexOf_4cfef qJ1_indexOf_4cfef_29 29 = true := by decide +kernel
theorem clqJ1_indexOf_4cfef_29 : ∀ q ∈ rm_calls qJ1_indexOf_4cfef_29, rm_cwd q.1 q.2 := List.forall_mem_cons.mpr ⟨cw_J1_indexOfChar_4cfef, List.forall_mem_nil _⟩
def qJ1_indexOf_4cfef_27 : List rm_J := [(.nop, .iconst (-1), 1, 0, 0, 0, .int (-1), rm_M0, []),
  (.ireturn, .ireturn, 1, 0, 0, 0, .null, rm_M0, [])]
theorem okqJ1_indexOf_4cfef_27 : rm_okB mJ1_indexOf_4cfef qJ1_indexOf_4cfef_27 27 = true := by decide +kernel
theorem clqJ1_indexOf_4cfef_27 : ∀ q ∈ rm_calls qJ1_indexOf_4cfef_27, rm_cwd q.1 q.2 := fun _ h => absurd h List.not_mem_nil
def qJ1_canEncode_9a6ad_0 : List rm_J := [(.iload 0, .iload_n 0, 1, 0, 0, 0, .null, rm_M0, []),
  (.ifCond .lt 14, .ifCond .lt 14, 3, 15, 0, 0, .null, rm_M0, []),
  (.iload 0, .iload_n 0, 1, 0, 0, 0, .null, rm_M0, []),
  (.nop, .sipush 255, 3, 0, 0, 0, .int 255, rm_M0, []),
  (.if_icmp .gt 7, .if_icmp .gt 7, 3, 15, 0, 0, .null, rm_M0, []),
  (.nop, .iconst 1, 1, 0, 0, 0, .int 1, rm_M0, []),
  (.goto 4, .goto 4, 3, 16, 0, 0, .null, rm_M0, [])]
theorem okqJ1_canEncode_9a6ad_0 : rm_okB mJ1_canEncode_9a6ad qJ1_canEncode_9a6ad_0 0 = true := by decide +kernel
theorem clqJ1_canEncode_9a6ad_0 : ∀ q ∈ rm_calls qJ1_canEncode_9a6ad_0, rm_cwd q.1 q.2 := fun _ h => absurd h List.not_mem_nil
def qJ1_canEncode_9a6ad_15 : List rm_J := [(.nop, .iconst 0, 1, 0, 0, 0, .int 0, rm_M0, []),
  (.ireturn, .ireturn, 1, 0, 0, 0, .null, rm_M0, [])]
theorem okqJ1_canEncode_9a6ad_15 : rm_okB mJ1_canEncode_9a6ad qJ1_canEncode_9a6ad_15 15 = true := by decide +kernel
theorem clqJ1_canEncode_9a6ad_15 : ∀ q ∈ rm_calls qJ1_canEncode_9a6ad_15, rm_cwd q.1 q.2 := fun _ h => absurd h List.not_mem_nil
def qJ1_canEncode_9a6ad_16 : List rm_J := [(.ireturn, .ireturn, 1, 0, 0, 0, .null, rm_M0, [])]
theorem okqJ1_canEncode_9a6ad_16 : rm_okB mJ1_canEncode_9a6ad qJ1_canEncode_9a6ad_16 16 = true := by decide +kernel
theorem clqJ1_canEncode_9a6ad_16 : ∀ q ∈ rm_calls qJ1_canEncode_9a6ad_16, rm_cwd q.1 q.2 := fun _ h => absurd h List.not_mem_nil
def qJ1_indexOfChar_4cfef_0 : List rm_J := [(.iload 1, .iload_n 1, 1, 0, 0, 0, .null, rm_M0, []),
  (.i2b, .i2b, 1, 0, 0, 0, .null, rm_M0, []),
  (.istore 4, .istore 4, 2, 0, 0, 0, .null, rm_M0, []),
  (.iload 2, .iload_n 2, 1, 0, 0, 0, .null, rm_M0, []),
  (.istore 5, .istore 5, 2, 0, 0, 0, .null, rm_M0, [])]
theorem okqJ1_indexOfChar_4cfef_0 : rm_okB mJ1_indexOfChar_4cfef qJ1_indexOfChar_4cfef_0 0 = true := by decide +kernel
theorem clqJ1_indexOfChar_4cfef_0 : ∀ q ∈ rm_calls qJ1_indexOfChar_4cfef_0, rm_cwd q.1 q.2 := fun _ h => absurd h List.not_mem_nil
def qJ1_indexOfChar_4cfef_7 : List rm_J := [(.iload 5, .iload 5, 2, 0, 0, 0, .null, rm_M0, []),
  (.iload 3, .iload_n 3, 1, 0, 0, 0, .null, rm_M0, []),
  (.if_icmp .ge 21, .if_icmp .ge 21, 3, 31, 0, 0, .null, rm_M0, []),
  (.aload 0, .aload_n 0, 1, 0, 0, 0, .null, rm_M0, []),
  (.iload 5, .iload 5, 2, 0, 0, 0, .null, rm_M0, [])]
theorem okqJ1_indexOfChar_4cfef_7 : rm_okB mJ1_indexOfChar_4cfef qJ1_indexOfChar_4cfef_7 7 = true := by decide +kernel
theorem clqJ1_indexOfChar_4cfef_7 : ∀ q ∈ rm_calls qJ1_indexOfChar_4cfef_7, rm_cwd q.1 q.2 := fun _ h => absurd h List.not_mem_nil
def qJ1_indexOfChar_4cfef_17 : List rm_J := [(.iload 4, .iload 4, 2, 0, 0, 0, .null, rm_M0, []),
  (.if_icmp .ne 6, .if_icmp .ne 6, 3, 25, 0, 0, .null, rm_M0, []),
  (.iload 5, .iload 5, 2, 0, 0, 0, .null, rm_M0, []),
  (.ireturn, .ireturn, 1, 0, 0, 0, .null, rm_M0, [])]
theorem okqJ1_indexOfChar_4cfef_17 : rm_okB mJ1_indexOfChar_4cfef qJ1_indexOfChar_4cfef_17 17 = true := by decide +kernel
theorem clqJ1_indexOfChar_4cfef_17 : ∀ q ∈ rm_calls qJ1_indexOfChar_4cfef_17, rm_cwd q.1 q.2 := fun _ h => absurd h List.not_mem_nil
def qJ1_indexOfChar_4cfef_25 : List rm_J := [(.iinc 5 1, .iinc 5 1, 3, 0, 0, 0, .int 1, rm_M0, []),
  (.goto (-21), .goto (-21), 3, 7, 0, 0, .null, rm_M0, [])]
theorem okqJ1_indexOfChar_4cfef_25 : rm_okB mJ1_indexOfChar_4cfef qJ1_indexOfChar_4cfef_25 25 = true := by decide +kernel
theorem clqJ1_indexOfChar_4cfef_25 : ∀ q ∈ rm_calls qJ1_indexOfChar_4cfef_25, rm_cwd q.1 q.2 := fun _ h => absurd h List.not_mem_nil
def qJ1_indexOfChar_4cfef_31 : List rm_J := [(.nop, .iconst (-1), 1, 0, 0, 0, .int (-1), rm_M0, []),
  (.ireturn, .ireturn, 1, 0, 0, 0, .null, rm_M0, [])]
theorem okqJ1_indexOfChar_4cfef_31 : rm_okB mJ1_indexOfChar_4cfef qJ1_indexOfChar_4cfef_31 31 = true := by decide +kernel
theorem clqJ1_indexOfChar_4cfef_31 : ∀ q ∈ rm_calls qJ1_indexOfChar_4cfef_31, rm_cwd q.1 q.2 := fun _ h => absurd h List.not_mem_nil
