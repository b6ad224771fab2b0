/-! The law: what stays so of the start -/
def tmS (i : Nat) : Term := Term.string (rm_str.getD i ("", 0, "")).1 (rm_str.getD i ("", 0, "")).2.1
def gvC : List Cond := flatC (Jvm.Cond.and given_1 narrow_1)
def i_ex : List Nat := [48, 164, 180, 191, 206, 219, 233, 246, 262, 278, 295, 313, 334, 356, 377, 399, 424, 448, 475, 500, 525, 552, 580]
def i_co : List Nat := [49, 165, 181, 192, 207, 220, 234, 247, 263, 279, 296, 314, 335, 357, 378, 400, 425, 449, 476, 501, 526, 553, 581]
def i_ar : List Nat := [50, 166, 182, 193, 208, 221, 235, 248, 264, 280, 297, 315, 336, 358, 379, 401, 426, 450, 477, 502, 527, 554, 582]
def i_le : List Nat := [51, 167, 183, 194, 209, 222, 236, 249, 265, 281, 298, 316, 337, 359, 380, 402, 427, 451, 478, 503, 528, 555, 583]
def i_el : List (List Nat) := [[52, 53, 54, 55, 56, 57, 58, 59, 60, 61, 62, 63, 64, 65, 66, 67, 68, 69, 70, 71, 72, 73, 74, 75, 76, 77, 78, 79, 80, 81, 82, 83, 84, 85, 86, 87, 88, 89, 90, 91, 92, 93, 94, 95, 96, 97, 98, 99, 100, 101, 102, 103, 104, 105, 106, 107, 108, 109, 110, 111, 112, 113, 114, 115, 116, 117, 118, 119, 120, 121, 122, 123, 124, 125, 126, 127, 128, 129, 130, 131, 132, 133, 134, 135, 136, 137, 138, 139, 140, 141, 142, 143, 144, 145, 146, 147, 148, 149, 150, 151, 152, 153, 154, 155, 156, 157, 158, 159, 160, 161, 162, 163], [168, 169, 170, 171, 172, 173, 174, 175, 176, 177, 178], [184, 185, 186, 187, 188], [195, 196, 197, 198, 199, 200, 201, 202], [210, 211, 212, 213, 214], [223, 224, 225, 226, 227], [237, 238, 239], [250, 251, 252, 253, 254], [266, 267, 268, 269], [282, 283, 284, 285], [299, 300, 301, 302], [317, 318, 319, 320, 321, 322], [338, 339, 340, 341, 342, 343], [360, 361, 362, 363], [381, 382, 383, 384], [403, 404, 405, 406, 407, 408], [428, 429, 430, 431], [452, 453, 454, 455, 456, 457], [479, 480, 481], [504, 505], [529, 530, 531], [556, 557, 558], [584, 585]]
def i_ne : List (List Nat) := [[0, 179, 189, 203, 215, 228, 240, 255, 270, 286, 303, 323, 344, 364, 385, 409, 432, 458, 482, 506, 532, 559, 586], [179, 0, 190, 204, 216, 229, 241, 256, 271, 287, 304, 324, 345, 365, 386, 410, 433, 459, 483, 507, 533, 560, 587], [189, 190, 0, 205, 217, 230, 242, 257, 272, 288, 305, 325, 346, 366, 387, 411, 434, 460, 484, 508, 534, 561, 588], [203, 204, 205, 0, 218, 231, 243, 258, 273, 289, 306, 326, 347, 367, 388, 412, 435, 461, 485, 509, 535, 562, 589], [215, 216, 217, 218, 0, 232, 244, 259, 274, 290, 307, 327, 348, 368, 389, 413, 436, 462, 486, 510, 536, 563, 590], [228, 229, 230, 231, 232, 0, 245, 260, 275, 291, 308, 328, 349, 369, 390, 414, 437, 463, 487, 511, 537, 564, 591], [240, 241, 242, 243, 244, 245, 0, 261, 276, 292, 309, 329, 350, 370, 391, 415, 438, 464, 488, 512, 538, 565, 592], [255, 256, 257, 258, 259, 260, 261, 0, 277, 293, 310, 330, 351, 371, 392, 416, 439, 465, 489, 513, 539, 566, 593], [270, 271, 272, 273, 274, 275, 276, 277, 0, 294, 311, 331, 352, 372, 393, 417, 440, 466, 490, 514, 540, 567, 594], [286, 287, 288, 289, 290, 291, 292, 293, 294, 0, 312, 332, 353, 373, 394, 418, 441, 467, 491, 515, 541, 568, 595], [303, 304, 305, 306, 307, 308, 309, 310, 311, 312, 0, 333, 354, 374, 395, 419, 442, 468, 492, 516, 542, 569, 596], [323, 324, 325, 326, 327, 328, 329, 330, 331, 332, 333, 0, 355, 375, 396, 420, 443, 469, 493, 517, 543, 570, 597], [344, 345, 346, 347, 348, 349, 350, 351, 352, 353, 354, 355, 0, 376, 397, 421, 444, 470, 494, 518, 544, 571, 598], [364, 365, 366, 367, 368, 369, 370, 371, 372, 373, 374, 375, 376, 0, 398, 422, 445, 471, 495, 519, 545, 572, 599], [385, 386, 387, 388, 389, 390, 391, 392, 393, 394, 395, 396, 397, 398, 0, 423, 446, 472, 496, 520, 546, 573, 600], [409, 410, 411, 412, 413, 414, 415, 416, 417, 418, 419, 420, 421, 422, 423, 0, 447, 473, 497, 521, 547, 574, 601], [432, 433, 434, 435, 436, 437, 438, 439, 440, 441, 442, 443, 444, 445, 446, 447, 0, 474, 498, 522, 548, 575, 602], [458, 459, 460, 461, 462, 463, 464, 465, 466, 467, 468, 469, 470, 471, 472, 473, 474, 0, 499, 523, 549, 576, 603], [482, 483, 484, 485, 486, 487, 488, 489, 490, 491, 492, 493, 494, 495, 496, 497, 498, 499, 0, 524, 550, 577, 604], [506, 507, 508, 509, 510, 511, 512, 513, 514, 515, 516, 517, 518, 519, 520, 521, 522, 523, 524, 0, 551, 578, 605], [532, 533, 534, 535, 536, 537, 538, 539, 540, 541, 542, 543, 544, 545, 546, 547, 548, 549, 550, 551, 0, 579, 606], [559, 560, 561, 562, 563, 564, 565, 566, 567, 568, 569, 570, 571, 572, 573, 574, 575, 576, 577, 578, 579, 0, 607], [586, 587, 588, 589, 590, 591, 592, 593, 594, 595, 596, 597, 598, 599, 600, 601, 602, 603, 604, 605, 606, 607, 0]]
theorem g_ex : ∀ i : Fin 23, gvC[i_ex.getD i.val 0]? = some (Cond.exactly (tmS i.val) "java/lang/String") := by decide +kernel
theorem g_co : ∀ i : Fin 23, gvC[i_co.getD i.val 0]? = some (Cond.eq ((tmS i.val).field "java/lang/String" "coder" "B") (Term.int 0)) := by decide +kernel
theorem g_ar : ∀ i : Fin 23, gvC[i_ar.getD i.val 0]? = some (Cond.arrayOf ((tmS i.val).field "java/lang/String" "value" "[B") FieldType.byte) := by decide +kernel
theorem g_le : ∀ i : Fin 23, gvC[i_le.getD i.val 0]? = some (Cond.eq ((tmS i.val).field "java/lang/String" "value" "[B").length (Term.int (Int32.ofNat (rm_slen.getD i.val 0)))) := by decide +kernel
theorem g_el : ∀ i : Fin 23, ∀ j, j < rm_slen.getD i.val 0 → gvC[(i_el.getD i.val []).getD j 0]? = some (Cond.eq (((tmS i.val).field "java/lang/String" "value" "[B").elem (Term.int (Int32.ofNat j))) (Term.int ((rm_sbyt.getD i.val []).getD j 0))) := by decide +kernel
theorem g_ne : ∀ i : Fin 23, ∀ j : Fin 23, i.val < j.val → gvC[(i_ne.getD i.val []).getD j.val 0]? = some (Cond.eq (tmS i.val) (tmS j.val)).not := by decide +kernel
theorem g_len : ∀ i : Fin 23, rm_slen.getD i.val 0 < 2 ^ 31 := by decide +kernel
theorem t_sr : ∀ i : Fin 23, Cond.stringRef (rm_str.getD i.val ("", 0, "")).1 (rm_str.getD i.val ("", 0, "")).2.1 (rm_str.getD i.val ("", 0, "")).2.2 ∈ lw_tbl := by decide +kernel
theorem g_cs : gvC[4]? = some (Cond.eq (Term.static "java/lang/String" "COMPACT_STRINGS" "Z") (Term.int 1)) := by decide +kernel
theorem g_fo : gvC[5]? = some (Cond.isRef (Term.static "jdk/internal/util/Preconditions" "SIOOBE_FORMATTER" "Ljava/util/function/BiFunction;")) := by decide +kernel
theorem t_ao : Cond.arrayOver (.object "OneDecision$Rule") ∈ lw_tbl ∧ Cond.arrayOver (.object "OneDecision$Image") ∈ lw_tbl ∧ Cond.arrayOver (.object "OneDecision$State") ∈ lw_tbl := by decide +kernel
theorem t_st : Cond.laysStatic "java/lang/String" "COMPACT_STRINGS" "Z" ∈ lw_tbl ∧ Cond.initialized "java/lang/String" ∈ lw_tbl ∧ Cond.laysStatic "jdk/internal/util/Preconditions" "SIOOBE_FORMATTER" "Ljava/util/function/BiFunction;" ∈ lw_tbl ∧ Cond.initialized "jdk/internal/util/Preconditions" ∈ lw_tbl := by decide +kernel
/-- the addresses: first what is made, then the words and their bytes, then the formatter -/
def adZ (sz : Nat) (adK adV : Nat → Nat) (fo : Nat) (i : Nat) : Nat := if i < 600000 then sz + i else if i < rm_SB + 23 then adK (i - rm_SB) else if i < rm_SB + 46 then adV (i - (rm_SB + 23)) else fo
theorem adZ_0 {sz fo : Nat} {adK adV : Nat → Nat} {i : Nat} (h : i < 600000) : adZ sz adK adV fo i = sz + i := if_pos h
theorem adZ_K {sz fo : Nat} {adK adV : Nat → Nat} {i : Nat} (h : i < 23) : adZ sz adK adV fo (rm_SB + i) = adK i := by
  unfold adZ
  have e : rm_SB = 1000000000 := rfl
  rw [if_neg (by omega), if_pos (by omega), Nat.add_sub_cancel_left]
theorem adZ_V {sz fo : Nat} {adK adV : Nat → Nat} {i : Nat} (h : i < 23) : adZ sz adK adV fo (rm_SB + 23 + i) = adV i := by
  unfold adZ
  have e : rm_SB = 1000000000 := rfl
  rw [if_neg (by omega), if_neg (by omega), if_pos (by omega), Nat.add_sub_cancel_left]
theorem adZ_F {sz fo : Nat} {adK adV : Nat → Nat} : adZ sz adK adV fo (rm_SB + 46) = fo := by
  unfold adZ
  have e : rm_SB = 1000000000 := rfl
  rw [if_neg (by omega), if_neg (by omega), if_neg (by omega)]
theorem lw_E {args : Array Value} {s : State} (hts : ∀ w ∈ lw_tbl, w.before args s = true) (hgv : (Jvm.Cond.and given_1 narrow_1).before args s = true) : ∃ ad : Nat → Nat, (∀ j, j < 600000 → ad j = s.heap.size + j) ∧ rm_E ad (fun q => s.heap.size ≤ q) s s.heap := by
  have hg : ∀ {k : Nat} {c : Cond}, gvC[k]? = some c → c.before args s = true := fun h => flat_of_before _ hgv _ (List.mem_of_getElem? h)
  have hA : ∀ a : Nat, a < s.heap.size → ¬ s.heap.size ≤ a := fun a h => Nat.not_le.mpr h
  obtain ⟨adK, adV, hS, hev⟩ := vk_Sof (args := args) (s := s) (N := 23) (tm := tmS) (len := rm_slen) (byt := rm_sbyt) (A := fun q => s.heap.size ≤ q) (fun i hi => g_len ⟨i, hi⟩) (fun i hi => hg (g_ex ⟨i, hi⟩)) (fun i hi => hg (g_co ⟨i, hi⟩)) (fun i hi => hg (g_ar ⟨i, hi⟩)) (fun i hi => hg (g_le ⟨i, hi⟩)) (fun i hi j hj => hg (g_el ⟨i, hi⟩ j hj)) (fun i j hi hj hne => by
    rcases Nat.lt_or_gt_of_ne hne with h | h
    · exact Or.inl (hg (g_ne ⟨i, hi⟩ ⟨j, hj⟩ h))
    · exact Or.inr (hg (g_ne ⟨j, hj⟩ ⟨i, hi⟩ h))) hA
  obtain ⟨fo, hfo⟩ : ∃ fo : Nat, va_Z "jdk/internal/util/Preconditions" "SIOOBE_FORMATTER" "Ljava/util/function/BiFunction;" .null (fun q => s.heap.size ≤ q) s s.heap ∨ va_Z "jdk/internal/util/Preconditions" "SIOOBE_FORMATTER" "Ljava/util/function/BiFunction;" (.ref fo) (fun q => s.heap.size ≤ q) s s.heap := by
    rcases va_Zqof (A := fun q => s.heap.size ≤ q) (hts _ t_st.2.2.1) (hts _ t_st.2.2.2) (hg g_fo) hA with h | ⟨t, h⟩
    · exact ⟨0, Or.inl h⟩
    · exact ⟨t, Or.inr h⟩
  refine ⟨adZ s.heap.size adK adV fo, fun j hj => adZ_0 hj, fun w hw hn => ?_, fun t C ht => ?_, fun j q hj => ?_, ?_, ?_, ?_⟩
  · have h := hts w hw
    cases w with
    | methodLinkNest a i x hh => exact va_Nw.of rfl h
    | _ => simp [rm_isN] at hn
  · match t, ht with
    | 0, ht => cases ht
    | 1, ht => cases ht
    | 2, ht => cases ht
    | 3, ht => cases ht
    | 4, ht => cases ht; exact va_AO.of (hts _ t_ao.1)
    | 5, ht => cases ht; exact va_AO.of (hts _ t_ao.2.1)
    | 6, ht => cases ht; exact va_AO.of (hts _ t_ao.2.2)
    | t + 7, ht => simp [rm_tyc] at ht
  · have hlen : rm_str.length = 23 := rfl
    have hj23 : j < 23 := by
      rw [← hlen]
      exact (List.getElem?_eq_some_iff.mp hj).1
    have eq : rm_str.getD j ("", 0, "") = q := by rw [List.getD_eq_getElem?_getD, hj]; rfl
    rw [adZ_K hj23]
    have h1 := t_sr ⟨j, hj23⟩
    have h2 := hev j hj23
    unfold tmS at h2
    rw [eq] at h2
    have h1' : Cond.stringRef (rm_str.getD j ("", 0, "")).1 (rm_str.getD j ("", 0, "")).2.1 (rm_str.getD j ("", 0, "")).2.2 ∈ lw_tbl := h1
    rw [eq] at h1'
    exact vk_R.of (hts _ h1') h2
  · obtain ⟨h1, h2⟩ := hS
    refine ⟨fun i hi => ?_, fun i j hi hj e => ?_⟩
    · show va_O "java/lang/String" (adZ s.heap.size adK adV fo (rm_SB + i)) _ _ _ ∧ va_OF "java/lang/String" "coder" "B" (Value.int 0) (adZ s.heap.size adK adV fo (rm_SB + i)) _ _ _ ∧ va_OF "java/lang/String" "value" "[B" (Value.ref (adZ s.heap.size adK adV fo (rm_SB + 23 + i))) (adZ s.heap.size adK adV fo (rm_SB + i)) _ _ _ ∧ va_T FieldType.byte (adZ s.heap.size adK adV fo (rm_SB + 23 + i)) _ _ _ _ _
      rw [adZ_K hi, adZ_V hi]
      exact h1 i hi
    · have e' : adZ s.heap.size adK adV fo (rm_SB + i) = adZ s.heap.size adK adV fo (rm_SB + j) := e
      rw [adZ_K hi, adZ_K hj] at e'
      exact h2 i j hi hj e'
  · exact va_Zof (hts _ t_st.1) (hts _ t_st.2.1) (va_eqi (hg g_cs)) hA
  · rw [adZ_F]
    exact hfo
