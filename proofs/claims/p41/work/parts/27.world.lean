/-! the world that the law finds -/
def zGv : List Cond := flatC (Jvm.Cond.and given_1 narrow_1)
def zFL0 : Term := .static "NineHeaps" "FIRST_LAW" "[I"
def zFS0 : Term := .static "NineHeaps" "FIRST_LAW_STARTS" "[I"
def zDO0 : Term := .static "java/lang/Integer" "DigitOnes" "[B"
def zTm (i : Nat) : Term := .string (zSow i) (zSix.getD i 0)
abbrev zgm {l : List Cond} {c : Cond} (i : Nat) (h : l[i]? = some c) : c ∈ l := List.mem_of_getElem? h
set_option maxRecDepth 100000 in
theorem zg_L1 : Cond.arrayOf zFL0 .int ∈ zGv := zgm 5 (by decide +kernel)
set_option maxRecDepth 100000 in
theorem zg_L2 : Cond.eq (.length zFL0) (.int (Int32.ofNat 3)) ∈ zGv := zgm 6 (by decide +kernel)
set_option maxRecDepth 100000 in
theorem zg_L3 : ∀ j, j < 3 → Cond.eq (.elem zFL0 (.int (Int32.ofNat j))) (.int (zFl j)) ∈ zGv := fun j h => zgm ([7, 8, 9].getD j 0) ((by decide +kernel : ∀ j, j < 3 → zGv[[7, 8, 9].getD j 0]? = some (Cond.eq (.elem zFL0 (.int (Int32.ofNat j))) (.int (zFl j)))) j h)
set_option maxRecDepth 100000 in
theorem zg_L4 : Cond.exactly zFL0 "[I" ∈ zGv := zgm 570 (by decide +kernel)
set_option maxRecDepth 100000 in
theorem zg_S1 : Cond.arrayOf zFS0 .int ∈ zGv := zgm 11 (by decide +kernel)
set_option maxRecDepth 100000 in
theorem zg_S2 : Cond.eq (.length zFS0) (.int (Int32.ofNat 4)) ∈ zGv := zgm 12 (by decide +kernel)
set_option maxRecDepth 100000 in
theorem zg_S3 : ∀ j, j < 4 → Cond.eq (.elem zFS0 (.int (Int32.ofNat j))) (.int (zFs j)) ∈ zGv := fun j h => zgm ([13, 14, 15, 16].getD j 0) ((by decide +kernel : ∀ j, j < 4 → zGv[[13, 14, 15, 16].getD j 0]? = some (Cond.eq (.elem zFS0 (.int (Int32.ofNat j))) (.int (zFs j)))) j h)
set_option maxRecDepth 100000 in
theorem zg_S4 : Cond.exactly zFS0 "[I" ∈ zGv := zgm 571 (by decide +kernel)
set_option maxRecDepth 100000 in
theorem zg_D1 : Cond.arrayOf zDO0 .byte ∈ zGv := zgm 23 (by decide +kernel)
set_option maxRecDepth 100000 in
theorem zg_D2 : Cond.eq (.length zDO0) (.int (Int32.ofNat 100)) ∈ zGv := zgm 24 (by decide +kernel)
set_option maxRecDepth 100000 in
theorem zg_D3 : ∀ j, j < 100 → Cond.eq (.elem zDO0 (.int (Int32.ofNat j))) (.int (zDo j)) ∈ zGv := fun j h => zgm (25 + j) ((by decide +kernel : ∀ j, j < 100 → zGv[25 + j]? = some (Cond.eq (.elem zDO0 (.int (Int32.ofNat j))) (.int (zDo j)))) j h)
set_option maxRecDepth 100000 in
theorem zg_C : Cond.eq (.static "java/lang/String" "COMPACT_STRINGS" "Z") (.int 1) ∈ zGv := zgm 17 (by decide +kernel)
set_option maxRecDepth 100000 in
theorem zg_Q : Cond.isRef (.static "jdk/internal/util/Preconditions" "SIOOBE_FORMATTER" "Ljava/util/function/BiFunction;") ∈ zGv := zgm 18 (by decide +kernel)
set_option maxRecDepth 100000 in
theorem zg_T0 : ∀ i, i < 16 → Cond.exactly (zTm i) "java/lang/String" ∈ zGv := fun i h => zgm ([357, 370, 384, 399, 412, 427, 443, 461, 482, 502, 523, 545, 275, 292, 321, 349].getD i 0) ((by decide +kernel : ∀ i, i < 16 → zGv[[357, 370, 384, 399, 412, 427, 443, 461, 482, 502, 523, 545, 275, 292, 321, 349].getD i 0]? = some (Cond.exactly (zTm i) "java/lang/String")) i h)
set_option maxRecDepth 100000 in
theorem zg_T1 : ∀ i, i < 16 → Cond.eq (.field (zTm i) "java/lang/String" "coder" "B") (.int 0) ∈ zGv := fun i h => zgm ([358, 371, 385, 400, 413, 428, 444, 462, 483, 503, 524, 546, 276, 293, 322, 350].getD i 0) ((by decide +kernel : ∀ i, i < 16 → zGv[[358, 371, 385, 400, 413, 428, 444, 462, 483, 503, 524, 546, 276, 293, 322, 350].getD i 0]? = some (Cond.eq (.field (zTm i) "java/lang/String" "coder" "B") (.int 0))) i h)
set_option maxRecDepth 100000 in
theorem zg_T2 : ∀ i, i < 16 → Cond.arrayOf (.field (zTm i) "java/lang/String" "value" "[B") .byte ∈ zGv := fun i h => zgm ([359, 372, 386, 401, 414, 429, 445, 463, 484, 504, 525, 547, 277, 294, 323, 351].getD i 0) ((by decide +kernel : ∀ i, i < 16 → zGv[[359, 372, 386, 401, 414, 429, 445, 463, 484, 504, 525, 547, 277, 294, 323, 351].getD i 0]? = some (Cond.arrayOf (.field (zTm i) "java/lang/String" "value" "[B") .byte)) i h)
set_option maxRecDepth 100000 in
theorem zg_T3 : ∀ i, i < 16 → Cond.eq (.length (.field (zTm i) "java/lang/String" "value" "[B")) (.int (Int32.ofNat (zSlen.getD i 0))) ∈ zGv := fun i h => zgm ([360, 373, 387, 402, 415, 430, 446, 464, 485, 505, 526, 548, 278, 295, 324, 352].getD i 0) ((by decide +kernel : ∀ i, i < 16 → zGv[[360, 373, 387, 402, 415, 430, 446, 464, 485, 505, 526, 548, 278, 295, 324, 352].getD i 0]? = some (Cond.eq (.length (.field (zTm i) "java/lang/String" "value" "[B")) (.int (Int32.ofNat (zSlen.getD i 0))))) i h)
set_option maxRecDepth 100000 in
theorem zg_T4 : ∀ i, i < 16 → ∀ j, j < zSlen.getD i 0 → Cond.eq (.elem (.field (zTm i) "java/lang/String" "value" "[B") (.int (Int32.ofNat j))) (.int ((zSbyt.getD i []).getD j 0)) ∈ zGv := fun i h j hj => zgm (([[361, 362, 363, 364, 365], [374, 375, 376, 377, 378], [388, 389, 390, 391, 392], [403, 404], [416, 417, 418], [431, 432, 433], [447, 448, 449, 450], [465, 466, 467, 468, 469, 470], [486, 487, 488, 489], [506, 507, 508, 509], [527, 528, 529, 530], [549, 550, 551, 552], [279, 280, 281, 282, 283, 284, 285, 286, 287, 288, 289, 290, 291], [296, 297, 298, 299, 300, 301, 302, 303, 304, 305, 306, 307, 308, 309, 310, 311, 312, 313, 314, 315, 316, 317, 318, 319], [325, 326, 327, 328, 329, 330, 331, 332, 333, 334, 335, 336, 337, 338, 339, 340, 341, 342, 343, 344, 345, 346], [353]].getD i []).getD j 0) ((by decide +kernel : ∀ i, i < 16 → ∀ j, j < zSlen.getD i 0 → zGv[([[361, 362, 363, 364, 365], [374, 375, 376, 377, 378], [388, 389, 390, 391, 392], [403, 404], [416, 417, 418], [431, 432, 433], [447, 448, 449, 450], [465, 466, 467, 468, 469, 470], [486, 487, 488, 489], [506, 507, 508, 509], [527, 528, 529, 530], [549, 550, 551, 552], [279, 280, 281, 282, 283, 284, 285, 286, 287, 288, 289, 290, 291], [296, 297, 298, 299, 300, 301, 302, 303, 304, 305, 306, 307, 308, 309, 310, 311, 312, 313, 314, 315, 316, 317, 318, 319], [325, 326, 327, 328, 329, 330, 331, 332, 333, 334, 335, 336, 337, 338, 339, 340, 341, 342, 343, 344, 345, 346], [353]].getD i []).getD j 0]? = some (Cond.eq (.elem (.field (zTm i) "java/lang/String" "value" "[B") (.int (Int32.ofNat j))) (.int ((zSbyt.getD i []).getD j 0)))) i h j hj)
set_option maxRecDepth 100000 in
theorem zg_T5 : ∀ i, i < 16 → ∀ j, j < 16 → i ≠ j → Cond.not (Cond.eq (zTm i) (zTm j)) ∈ zGv ∨ Cond.not (Cond.eq (zTm j) (zTm i)) ∈ zGv := fun i h j hj hn => ((by decide +kernel : ∀ i, i < 16 → ∀ j, j < 16 → i ≠ j → zGv[([[0, 383, 397, 409, 423, 438, 455, 475, 494, 514, 535, 557, 366, 367, 368, 369], [383, 0, 398, 410, 424, 439, 456, 476, 495, 515, 536, 558, 379, 380, 381, 382], [397, 398, 0, 411, 425, 440, 457, 477, 496, 516, 537, 559, 393, 394, 395, 396], [409, 410, 411, 0, 426, 441, 458, 478, 497, 517, 538, 560, 405, 406, 407, 408], [423, 424, 425, 426, 0, 442, 459, 479, 498, 518, 539, 561, 419, 420, 421, 422], [438, 439, 440, 441, 442, 0, 460, 480, 499, 519, 540, 562, 434, 435, 436, 437], [455, 456, 457, 458, 459, 460, 0, 481, 500, 520, 541, 563, 451, 452, 453, 454], [475, 476, 477, 478, 479, 480, 481, 0, 501, 521, 542, 564, 471, 472, 473, 474], [494, 495, 496, 497, 498, 499, 500, 501, 0, 522, 543, 565, 490, 491, 492, 493], [514, 515, 516, 517, 518, 519, 520, 521, 522, 0, 544, 566, 510, 511, 512, 513], [535, 536, 537, 538, 539, 540, 541, 542, 543, 544, 0, 567, 531, 532, 533, 534], [557, 558, 559, 560, 561, 562, 563, 564, 565, 566, 567, 0, 553, 554, 555, 556], [366, 379, 393, 405, 419, 434, 451, 471, 490, 510, 531, 553, 0, 320, 347, 354], [367, 380, 394, 406, 420, 435, 452, 472, 491, 511, 532, 554, 320, 0, 348, 355], [368, 381, 395, 407, 421, 436, 453, 473, 492, 512, 533, 555, 347, 348, 0, 356], [369, 382, 396, 408, 422, 437, 454, 474, 493, 513, 534, 556, 354, 355, 356, 0]].getD i []).getD j 0]? = some (Cond.not (Cond.eq (zTm i) (zTm j))) ∨ zGv[([[0, 383, 397, 409, 423, 438, 455, 475, 494, 514, 535, 557, 366, 367, 368, 369], [383, 0, 398, 410, 424, 439, 456, 476, 495, 515, 536, 558, 379, 380, 381, 382], [397, 398, 0, 411, 425, 440, 457, 477, 496, 516, 537, 559, 393, 394, 395, 396], [409, 410, 411, 0, 426, 441, 458, 478, 497, 517, 538, 560, 405, 406, 407, 408], [423, 424, 425, 426, 0, 442, 459, 479, 498, 518, 539, 561, 419, 420, 421, 422], [438, 439, 440, 441, 442, 0, 460, 480, 499, 519, 540, 562, 434, 435, 436, 437], [455, 456, 457, 458, 459, 460, 0, 481, 500, 520, 541, 563, 451, 452, 453, 454], [475, 476, 477, 478, 479, 480, 481, 0, 501, 521, 542, 564, 471, 472, 473, 474], [494, 495, 496, 497, 498, 499, 500, 501, 0, 522, 543, 565, 490, 491, 492, 493], [514, 515, 516, 517, 518, 519, 520, 521, 522, 0, 544, 566, 510, 511, 512, 513], [535, 536, 537, 538, 539, 540, 541, 542, 543, 544, 0, 567, 531, 532, 533, 534], [557, 558, 559, 560, 561, 562, 563, 564, 565, 566, 567, 0, 553, 554, 555, 556], [366, 379, 393, 405, 419, 434, 451, 471, 490, 510, 531, 553, 0, 320, 347, 354], [367, 380, 394, 406, 420, 435, 452, 472, 491, 511, 532, 554, 320, 0, 348, 355], [368, 381, 395, 407, 421, 436, 453, 473, 492, 512, 533, 555, 347, 348, 0, 356], [369, 382, 396, 408, 422, 437, 454, 474, 493, 513, 534, 556, 354, 355, 356, 0]].getD i []).getD j 0]? = some (Cond.not (Cond.eq (zTm j) (zTm i)))) i h j hj hn).imp (zgm _) (zgm _)
set_option maxRecDepth 100000 in
theorem zg_tS : ∀ i, i < 16 → Cond.stringRef (zSow i) (zSix.getD i 0) (zStx.getD i "") ∈ tables_1 := fun i h => zgm ([1047, 1054, 1055, 1056, 1057, 1058, 1059, 1060, 1061, 1062, 1063, 1064, 782, 922, 923, 924].getD i 0) ((by decide +kernel : ∀ i, i < 16 → tables_1[[1047, 1054, 1055, 1056, 1057, 1058, 1059, 1060, 1061, 1062, 1063, 1064, 782, 922, 923, 924].getD i 0]? = some (Cond.stringRef (zSow i) (zSix.getD i 0) (zStx.getD i ""))) i h)
set_option maxRecDepth 100000 in
theorem zg_tN : ∀ v ∈ zNw, v ∈ tables_1 ∧ v.onTables = true := fun v hv => by
  have h : ([182, 1184, 1185, 1186, 1187, 1188, 39, 210].map fun i => tables_1[i]?) = zNw.map some ∧ zNw.all Cond.onTables = true := by decide +kernel
  refine ⟨?_, List.all_eq_true.mp h.2 v hv⟩
  have h1 : some v ∈ ([182, 1184, 1185, 1186, 1187, 1188, 39, 210].map fun i => tables_1[i]?) := by rw [h.1]; exact List.mem_map_of_mem hv
  obtain ⟨i, -, hi⟩ := List.mem_map.mp h1
  exact zgm i hi
set_option maxRecDepth 100000 in
theorem zg_tA0 : Cond.arrayOver (.object RX10) ∈ tables_1 := zgm 34 (by decide +kernel)
set_option maxRecDepth 100000 in
theorem zg_tA1 : Cond.arrayOver (.object RX3) ∈ tables_1 := zgm 36 (by decide +kernel)
set_option maxRecDepth 100000 in
theorem zg_tA2 : Cond.arrayOver (.object RX6) ∈ tables_1 := zgm 77 (by decide +kernel)
set_option maxRecDepth 100000 in
theorem zg_tA3 : Cond.arrayOver (.object RX2) ∈ tables_1 := zgm 85 (by decide +kernel)
set_option maxRecDepth 100000 in
theorem zg_tAA : Cond.arrayOver (.array .int) ∈ tables_1 := zgm 164 (by decide +kernel)
set_option maxRecDepth 100000 in
theorem zg_tAC : Cond.arrayClass .int ∈ tables_1 := zgm 75 (by decide +kernel)
set_option maxRecDepth 100000 in
theorem zg_tACb : Cond.arrayClass .byte ∈ tables_1 := zgm 781 (by decide +kernel)
set_option maxRecDepth 100000 in
theorem zg_tACl : Cond.arrayClass .long ∈ tables_1 := zgm 1174 (by decide +kernel)
set_option maxRecDepth 100000 in
theorem zg_tL : Cond.laysStatic "NineHeaps" "FIRST_LAW" "[I" ∈ tables_1 := zgm 170 (by decide +kernel)
set_option maxRecDepth 100000 in
theorem zg_tLS : Cond.laysStatic "NineHeaps" "FIRST_LAW_STARTS" "[I" ∈ tables_1 := zgm 172 (by decide +kernel)
set_option maxRecDepth 100000 in
theorem zg_tLC : Cond.laysStatic "java/lang/String" "COMPACT_STRINGS" "Z" ∈ tables_1 := zgm 760 (by decide +kernel)
set_option maxRecDepth 100000 in
theorem zg_tLQ : Cond.laysStatic "jdk/internal/util/Preconditions" "SIOOBE_FORMATTER" "Ljava/util/function/BiFunction;" ∈ tables_1 := zgm 841 (by decide +kernel)
set_option maxRecDepth 100000 in
theorem zg_tLD : Cond.laysStatic "java/lang/Integer" "DigitOnes" "[B" ∈ tables_1 := zgm 911 (by decide +kernel)
set_option maxRecDepth 100000 in
theorem zg_tI1 : Cond.initialized "NineHeaps" ∈ tables_1 := zgm 1 (by decide +kernel)
set_option maxRecDepth 100000 in
theorem zg_tI2 : Cond.initialized "java/lang/String" ∈ tables_1 := zgm 17 (by decide +kernel)
set_option maxRecDepth 100000 in
theorem zg_tI3 : Cond.initialized "jdk/internal/util/Preconditions" ∈ tables_1 := zgm 21 (by decide +kernel)
set_option maxRecDepth 100000 in
theorem zg_tI4 : Cond.initialized "java/lang/Integer" ∈ tables_1 := zgm 24 (by decide +kernel)
theorem zg_inst : ∀ c, c < 14 → Cond.instantiable (zRf c) (zNf c) ∈ zGT := fun c h => by
  match c, h with
  | 0, _ => exact zj0
  | 1, _ => exact zj1
  | 2, _ => exact zj2
  | 3, _ => exact zj3
  | 4, _ => exact zj4
  | 5, _ => exact zj5
  | 6, _ => exact zj6
  | 7, _ => exact zj7
  | 8, _ => exact zj8
  | 9, _ => exact zj9
  | 10, _ => exact zj10
  | 11, _ => exact zj11
  | 12, _ => exact zj12
  | 13, _ => exact zj13
set_option maxRecDepth 100000 in
theorem zg_xP : ∀ i, i < 4 → ∃ y, zXw[i]? = some (Cond.selects RJ4 y y) ∧ y.cls = RJ5 ∧ Cond.privateMethod y ∈ tables_1 ∧ Cond.instanceMethod y ∈ tables_1 := fun i h => by
  match i, h with
  | 0, _ => exact ⟨yJ5_ensureCapacityInternal_d00df, rfl, rfl, zgm 795 (by decide +kernel), zgm 796 (by decide +kernel)⟩
  | 1, _ => exact ⟨yJ5_newCapacity_0f7a4, rfl, rfl, zgm 799 (by decide +kernel), zgm 800 (by decide +kernel)⟩
  | 2, _ => exact ⟨yJ5_putStringAt_47b60, rfl, rfl, zgm 864 (by decide +kernel), zgm 865 (by decide +kernel)⟩
  | 3, _ => exact ⟨yJ5_inflateIfNeededFor_a7421, rfl, rfl, zgm 868 (by decide +kernel), zgm 869 (by decide +kernel)⟩
set_option maxRecDepth 100000 in
theorem zg_xS : Cond.selects RJ4 yJ5_isLatin1_aae02 yJ5_isLatin1_aae02 ∈ tables_1 := zgm 826 (by decide +kernel)
