/-! the world that the law finds -/
def zGv : List Cond := flatC (Jvm.Cond.and given_1 narrow_1)
def zFL0 : Term := .static "NineHeaps" "FIRST_LAW" "[I"
def zFS0 : Term := .static "NineHeaps" "FIRST_LAW_STARTS" "[I"
def zTm (i : Nat) : Term := .string "NineHeaps$Tape" (zSix.getD i 0)
abbrev zgm {l : List Cond} {c : Cond} (i : Nat) (h : l[i]? = some c) : c ∈ l := List.mem_of_getElem? h
set_option maxRecDepth 100000 in
theorem zg_L1 : Cond.arrayOf zFL0 .int ∈ zGv := zgm 5 (by decide +kernel)
set_option maxRecDepth 100000 in
theorem zg_L2 : Cond.eq (.length zFL0) (.int (Int32.ofNat 3)) ∈ zGv := zgm 6 (by decide +kernel)
set_option maxRecDepth 100000 in
theorem zg_L3 : ∀ j, j < 3 → Cond.eq (.elem zFL0 (.int (Int32.ofNat j))) (.int (zFl j)) ∈ zGv := fun j h => zgm ([7, 8, 9].getD j 0) ((by decide +kernel : ∀ j, j < 3 → zGv[[7, 8, 9].getD j 0]? = some (Cond.eq (.elem zFL0 (.int (Int32.ofNat j))) (.int (zFl j)))) j h)
set_option maxRecDepth 100000 in
theorem zg_L4 : Cond.exactly zFL0 "[I" ∈ zGv := zgm 234 (by decide +kernel)
set_option maxRecDepth 100000 in
theorem zg_S1 : Cond.arrayOf zFS0 .int ∈ zGv := zgm 11 (by decide +kernel)
set_option maxRecDepth 100000 in
theorem zg_S2 : Cond.eq (.length zFS0) (.int (Int32.ofNat 4)) ∈ zGv := zgm 12 (by decide +kernel)
set_option maxRecDepth 100000 in
theorem zg_S3 : ∀ j, j < 4 → Cond.eq (.elem zFS0 (.int (Int32.ofNat j))) (.int (zFs j)) ∈ zGv := fun j h => zgm ([13, 14, 15, 16].getD j 0) ((by decide +kernel : ∀ j, j < 4 → zGv[[13, 14, 15, 16].getD j 0]? = some (Cond.eq (.elem zFS0 (.int (Int32.ofNat j))) (.int (zFs j)))) j h)
set_option maxRecDepth 100000 in
theorem zg_S4 : Cond.exactly zFS0 "[I" ∈ zGv := zgm 235 (by decide +kernel)
set_option maxRecDepth 100000 in
theorem zg_C : Cond.eq (.static "java/lang/String" "COMPACT_STRINGS" "Z") (.int 1) ∈ zGv := zgm 17 (by decide +kernel)
set_option maxRecDepth 100000 in
theorem zg_Q : Cond.isRef (.static "jdk/internal/util/Preconditions" "SIOOBE_FORMATTER" "Ljava/util/function/BiFunction;") ∈ zGv := zgm 18 (by decide +kernel)
set_option maxRecDepth 100000 in
theorem zg_T0 : ∀ i, i < 12 → Cond.exactly (zTm i) "java/lang/String" ∈ zGv := fun i h => zgm ([69, 78, 88, 99, 108, 119, 131, 145, 162, 178, 195, 213].getD i 0) ((by decide +kernel : ∀ i, i < 12 → zGv[[69, 78, 88, 99, 108, 119, 131, 145, 162, 178, 195, 213].getD i 0]? = some (Cond.exactly (zTm i) "java/lang/String")) i h)
set_option maxRecDepth 100000 in
theorem zg_T1 : ∀ i, i < 12 → Cond.eq (.field (zTm i) "java/lang/String" "coder" "B") (.int 0) ∈ zGv := fun i h => zgm ([70, 79, 89, 100, 109, 120, 132, 146, 163, 179, 196, 214].getD i 0) ((by decide +kernel : ∀ i, i < 12 → zGv[[70, 79, 89, 100, 109, 120, 132, 146, 163, 179, 196, 214].getD i 0]? = some (Cond.eq (.field (zTm i) "java/lang/String" "coder" "B") (.int 0))) i h)
set_option maxRecDepth 100000 in
theorem zg_T2 : ∀ i, i < 12 → Cond.arrayOf (.field (zTm i) "java/lang/String" "value" "[B") .byte ∈ zGv := fun i h => zgm ([71, 80, 90, 101, 110, 121, 133, 147, 164, 180, 197, 215].getD i 0) ((by decide +kernel : ∀ i, i < 12 → zGv[[71, 80, 90, 101, 110, 121, 133, 147, 164, 180, 197, 215].getD i 0]? = some (Cond.arrayOf (.field (zTm i) "java/lang/String" "value" "[B") .byte)) i h)
set_option maxRecDepth 100000 in
theorem zg_T3 : ∀ i, i < 12 → Cond.eq (.length (.field (zTm i) "java/lang/String" "value" "[B")) (.int (Int32.ofNat (zSlen.getD i 0))) ∈ zGv := fun i h => zgm ([72, 81, 91, 102, 111, 122, 134, 148, 165, 181, 198, 216].getD i 0) ((by decide +kernel : ∀ i, i < 12 → zGv[[72, 81, 91, 102, 111, 122, 134, 148, 165, 181, 198, 216].getD i 0]? = some (Cond.eq (.length (.field (zTm i) "java/lang/String" "value" "[B")) (.int (Int32.ofNat (zSlen.getD i 0))))) i h)
set_option maxRecDepth 100000 in
theorem zg_T4 : ∀ i, i < 12 → ∀ j, j < zSlen.getD i 0 → Cond.eq (.elem (.field (zTm i) "java/lang/String" "value" "[B") (.int (Int32.ofNat j))) (.int ((zSbyt.getD i []).getD j 0)) ∈ zGv := fun i h j hj => zgm (([[73, 74, 75, 76, 77], [82, 83, 84, 85, 86], [92, 93, 94, 95, 96], [103, 104], [112, 113, 114], [123, 124, 125], [135, 136, 137, 138], [149, 150, 151, 152, 153, 154], [166, 167, 168, 169], [182, 183, 184, 185], [199, 200, 201, 202], [217, 218, 219, 220]].getD i []).getD j 0) ((by decide +kernel : ∀ i, i < 12 → ∀ j, j < zSlen.getD i 0 → zGv[([[73, 74, 75, 76, 77], [82, 83, 84, 85, 86], [92, 93, 94, 95, 96], [103, 104], [112, 113, 114], [123, 124, 125], [135, 136, 137, 138], [149, 150, 151, 152, 153, 154], [166, 167, 168, 169], [182, 183, 184, 185], [199, 200, 201, 202], [217, 218, 219, 220]].getD i []).getD j 0]? = some (Cond.eq (.elem (.field (zTm i) "java/lang/String" "value" "[B") (.int (Int32.ofNat j))) (.int ((zSbyt.getD i []).getD j 0)))) i h j hj)
set_option maxRecDepth 100000 in
theorem zg_T5 : ∀ i, i < 12 → ∀ j, j < 12 → i ≠ j → Cond.not (Cond.eq (zTm i) (zTm j)) ∈ zGv ∨ Cond.not (Cond.eq (zTm j) (zTm i)) ∈ zGv := fun i h j hj hn => ((by decide +kernel : ∀ i, i < 12 → ∀ j, j < 12 → i ≠ j → zGv[([[0, 87, 97, 105, 115, 126, 139, 155, 170, 186, 203, 221], [87, 0, 98, 106, 116, 127, 140, 156, 171, 187, 204, 222], [97, 98, 0, 107, 117, 128, 141, 157, 172, 188, 205, 223], [105, 106, 107, 0, 118, 129, 142, 158, 173, 189, 206, 224], [115, 116, 117, 118, 0, 130, 143, 159, 174, 190, 207, 225], [126, 127, 128, 129, 130, 0, 144, 160, 175, 191, 208, 226], [139, 140, 141, 142, 143, 144, 0, 161, 176, 192, 209, 227], [155, 156, 157, 158, 159, 160, 161, 0, 177, 193, 210, 228], [170, 171, 172, 173, 174, 175, 176, 177, 0, 194, 211, 229], [186, 187, 188, 189, 190, 191, 192, 193, 194, 0, 212, 230], [203, 204, 205, 206, 207, 208, 209, 210, 211, 212, 0, 231], [221, 222, 223, 224, 225, 226, 227, 228, 229, 230, 231, 0]].getD i []).getD j 0]? = some (Cond.not (Cond.eq (zTm i) (zTm j))) ∨ zGv[([[0, 87, 97, 105, 115, 126, 139, 155, 170, 186, 203, 221], [87, 0, 98, 106, 116, 127, 140, 156, 171, 187, 204, 222], [97, 98, 0, 107, 117, 128, 141, 157, 172, 188, 205, 223], [105, 106, 107, 0, 118, 129, 142, 158, 173, 189, 206, 224], [115, 116, 117, 118, 0, 130, 143, 159, 174, 190, 207, 225], [126, 127, 128, 129, 130, 0, 144, 160, 175, 191, 208, 226], [139, 140, 141, 142, 143, 144, 0, 161, 176, 192, 209, 227], [155, 156, 157, 158, 159, 160, 161, 0, 177, 193, 210, 228], [170, 171, 172, 173, 174, 175, 176, 177, 0, 194, 211, 229], [186, 187, 188, 189, 190, 191, 192, 193, 194, 0, 212, 230], [203, 204, 205, 206, 207, 208, 209, 210, 211, 212, 0, 231], [221, 222, 223, 224, 225, 226, 227, 228, 229, 230, 231, 0]].getD i []).getD j 0]? = some (Cond.not (Cond.eq (zTm j) (zTm i)))) i h j hj hn).imp (zgm _) (zgm _)
set_option maxRecDepth 100000 in
theorem zg_tS : ∀ i, i < 12 → Cond.stringRef "NineHeaps$Tape" (zSix.getD i 0) (zStx.getD i "") ∈ tables_1 := fun i h => zgm ([342, 395, 396, 397, 398, 399, 400, 401, 402, 403, 404, 405].getD i 0) ((by decide +kernel : ∀ i, i < 12 → tables_1[[342, 395, 396, 397, 398, 399, 400, 401, 402, 403, 404, 405].getD i 0]? = some (Cond.stringRef "NineHeaps$Tape" (zSix.getD i 0) (zStx.getD i ""))) i h)
set_option maxRecDepth 100000 in
theorem zg_tN : ∀ v ∈ zNw, v ∈ tables_1 ∧ v.onTables = true := fun v hv => by
  have h : ([183, 1603, 1604, 1605, 1606, 1607, 35, 211].map fun i => tables_1[i]?) = zNw.map some ∧ zNw.all Cond.onTables = true := by decide +kernel
  refine ⟨?_, List.all_eq_true.mp h.2 v hv⟩
  have h1 : some v ∈ ([183, 1603, 1604, 1605, 1606, 1607, 35, 211].map fun i => tables_1[i]?) := by rw [h.1]; exact List.mem_map_of_mem hv
  obtain ⟨i, -, hi⟩ := List.mem_map.mp h1
  exact zgm i hi
set_option maxRecDepth 100000 in
theorem zg_tA0 : Cond.arrayOver (.object RX10) ∈ tables_1 := zgm 30 (by decide +kernel)
set_option maxRecDepth 100000 in
theorem zg_tA1 : Cond.arrayOver (.object RX3) ∈ tables_1 := zgm 32 (by decide +kernel)
set_option maxRecDepth 100000 in
theorem zg_tA2 : Cond.arrayOver (.object RX6) ∈ tables_1 := zgm 73 (by decide +kernel)
set_option maxRecDepth 100000 in
theorem zg_tA3 : Cond.arrayOver (.object RX2) ∈ tables_1 := zgm 81 (by decide +kernel)
set_option maxRecDepth 100000 in
theorem zg_tAA : Cond.arrayOver (.array .int) ∈ tables_1 := zgm 165 (by decide +kernel)
set_option maxRecDepth 100000 in
theorem zg_tAC : Cond.arrayClass .int ∈ tables_1 := zgm 71 (by decide +kernel)
set_option maxRecDepth 100000 in
theorem zg_tL : Cond.laysStatic "NineHeaps" "FIRST_LAW" "[I" ∈ tables_1 := zgm 171 (by decide +kernel)
set_option maxRecDepth 100000 in
theorem zg_tLS : Cond.laysStatic "NineHeaps" "FIRST_LAW_STARTS" "[I" ∈ tables_1 := zgm 173 (by decide +kernel)
set_option maxRecDepth 100000 in
theorem zg_tLC : Cond.laysStatic "java/lang/String" "COMPACT_STRINGS" "Z" ∈ tables_1 := zgm 356 (by decide +kernel)
set_option maxRecDepth 100000 in
theorem zg_tLQ : Cond.laysStatic "jdk/internal/util/Preconditions" "SIOOBE_FORMATTER" "Ljava/util/function/BiFunction;" ∈ tables_1 := zgm 372 (by decide +kernel)
set_option maxRecDepth 100000 in
theorem zg_tI1 : Cond.initialized "NineHeaps" ∈ tables_1 := zgm 1 (by decide +kernel)
set_option maxRecDepth 100000 in
theorem zg_tI2 : Cond.initialized "java/lang/String" ∈ tables_1 := zgm 10 (by decide +kernel)
set_option maxRecDepth 100000 in
theorem zg_tI3 : Cond.initialized "jdk/internal/util/Preconditions" ∈ tables_1 := zgm 12 (by decide +kernel)
theorem zg_inst : ∀ c, c < 13 → Cond.instantiable (zRf c) (zNf c) ∈ zGT := fun c h => by
  match c, h with
  | 0, _ => exact zj0
  | 1, _ => exact zj1
  | 2, _ => exact zj2
  | 3, _ => exact zj3
  | 4, _ => exact zj4
  | 5, _ => exact zj5
  | 6, _ => exact zj6
  | 7, _ => exact zj7
  | 8, _ => exact zj8
  | 9, _ => exact zj9
  | 10, _ => exact zj10
  | 11, _ => exact zj11
  | 12, _ => exact zj12
