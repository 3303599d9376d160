/-! EV, and its rows for instructions that touch no cell -/
/-- an old array of ints, exactly so long -/
def zTc (w : zW) (i N : Nat) (f : Nat → Int32) : Prop := ∃ cell : Cell, (zs0 w).heap[zca w i]? = some cell ∧ cell.cls = zcA w 0 ∧ cell.vm ≠ .unknown ∧ (∀ k, cell.vm ≠ .statics k) ∧ cell.slots.size = N ∧ (∀ j : Nat, j < N → cell.slots[j]? = some (.int (f j)))
def zxl (w : zW) : Nat := w.2.2.2.2.2.2.1
def zxs (w : zW) : Nat → Int32 := w.2.2.2.2.2.2.2.1
def zFl : Nat → Int32 := fun j => match j with | 0 => 2 | _ => 1
def zFs : Nat → Int32 := fun j => nI j
def zSlen : List Nat := [5, 5, 5, 2, 3, 3, 4, 6, 4, 4, 4, 4, 13, 24, 22, 1]
def zSbyt : List (List Int32) := [[116, 97, 107, 101, 115], [115, 116, 101, 112, 115], [109, 105, 110, 100, 115], [111, 114], [97, 110, 100], [110, 111, 116], [104, 101, 97, 112], [119, 97, 108, 107, 101, 114], [109, 111, 114, 101], [108, 101, 102, 116], [100, 111, 110, 101], [109, 97, 110, 121], [116, 97, 107, 101, 115, 32, 49, 43, 104, 101, 97, 112, 42], [43, 100, 111, 110, 101, 59, 115, 116, 101, 112, 115, 32, 109, 97, 110, 121, 43, 119, 97, 108, 107, 101, 114, 42], [45, 108, 101, 102, 116, 59, 109, 105, 110, 100, 115, 32, 100, 111, 110, 101, 43, 109, 111, 114, 101, 42], [59]]
def zStx : List String := ["takes", "steps", "minds", "or", "and", "not", "heap", "walker", "more", "left", "done", "many", "takes 1+heap*", "+done;steps many+walker*", "-left;minds done+more*", ";"]
def zSix : List Nat := [121, 127, 129, 131, 133, 135, 137, 139, 141, 143, 145, 147, 63, 75, 77, 79]
/-- whose texts they are; where they and their bytes stand -/
def zSow (i : Nat) : String := if i < 12 then "NineHeaps$Tape" else "NineHeapsLaw"
def zSa (i : Nat) : Nat := if i < 12 then 2 + i else 69 + i
def zVa (i : Nat) : Nat := if i < 12 then 14 + i else 73 + i
/-- Integer.DigitOnes -/
def zDo : Nat → Int32 := fun j => Int32.ofNat (48 + j % 10)
/-- words that aren't the tables' alone -/
def zNw : List Cond := [.castable "[I" "java/lang/Cloneable", .castable RX5 RX10, .castable RX8 RX10, .castable RX4 RX10, .castable RX1 RX10, .castable RX9 RX10, .methodLinkNest RX11 34 yX7_init RX11, .methodLinkNest RX11 93 yX6_init RX11]
def zAO2 (U : State) : Prop := (Cond.arrayOver (.array .int)).before #[] U = true
/-- a static of the machine's of which only 'a reference or null' is known -/
def zsio (w : zW) : Option Nat := if zca w 28 = 0 then none else some 27
/-- what holds of the world's constants -/
def zGF (w : zW) : Prop :=
  zb0 w = (zs0 w).heap.size ∧ va_K (zD w) vwCl (zT w) (zs0 w) ∧ (va_X (zca w 26) (zxl w) (zxs w) (zs0 w) (zs0 w).heap ∧ zca w 26 < zb0 w) ∧
  (va_Z "NineHeaps" "FIRST_LAW" "[I" (.ref (zca w 0)) (zAq w) (zs0 w) (zs0 w).heap ∧ zTc w 0 3 zFl) ∧ (va_Z "NineHeaps" "FIRST_LAW_STARTS" "[I" (.ref (zca w 1)) (zAq w) (zs0 w) (zs0 w).heap ∧ zTc w 1 4 zFs) ∧
  va_Z "java/lang/String" "COMPACT_STRINGS" "Z" (.int 1) (zAq w) (zs0 w) (zs0 w).heap ∧
  vk_S 16 zSlen zSbyt (fun i => zca w (zSa i)) (fun i => zca w (zVa i)) (zAq w) (zs0 w) (zs0 w).heap ∧
  (∀ C ∈ [RX10, RX3, RX6, RX2], va_AO C (zs0 w)) ∧ zAO2 (zs0 w) ∧
  va_Z "jdk/internal/util/Preconditions" "SIOOBE_FORMATTER" "Ljava/util/function/BiFunction;" (va_rf ((zsio w).map (zca w))) (zAq w) (zs0 w) (zs0 w).heap ∧
  (va_Z "java/lang/Integer" "DigitOnes" "[B" (.ref (zca w 89)) (zAq w) (zs0 w) (zs0 w).heap ∧ va_T .byte (zca w 89) 100 (fun j => .int (zDo j)) (zAq w) (zs0 w) (zs0 w).heap)
/-- what holds in a method's frame -/
def zFr (w : zW) (s : State) : Prop := (zs0 w).vm.Alike s.vm ∧ zb0 w ≤ s.heap.size ∧ (∀ q : Nat, q < zb0 w → s.heap[q]? = (zs0 w).heap[q]?) ∧ (∀ i : Nat, i < 16 → vk_R (zSow i) (zSix.getD i 0) (zStx.getD i "") (zca w (zSa i)) s) ∧ ∀ v ∈ zNw, va_Nw v s
def zCtx (w : zW) (y : zY) (p : Program) (s : State) (m : MethodId) (args : Array Value) (meth : Method) (c : Code) : Prop :=
  p.tables.exec = Jvm.exec ∧ c.code = y.2.1 ∧ c.maxLocals = y.2.2.1 ∧ s.vm.findClass y.1.cls = some m.cls ∧ (∀ v ∈ zGT, v.before args s = true) ∧ meth.sig.returnType = y.2.2.2 ∧ meth.locks = false ∧ meth.name = y.1.name ∧ zFr w s
/-- no cells at all: nothing is told -/
def zNm (w : zW) (μ : zM) (H : Heap) : Prop := zn μ ≠ 0 → zvn (zn μ) ∧ H.size = zb0 w + zsz (zn μ) ∧ va_P (zD w) vwCl (zWs w μ) H
/-- the heap holds the memory -/
def zRp (w : zW) (s : State) (μ : zM) (H : Heap) (locs : List Loc) : Prop := zNm w μ H ∧ va_S (zAq w) s.heap H locs
/-- a method's end at pc with v -/
def zRet (y : zY) (pc : Nat) (v : Option Value) : Prop :=
  (∃ x : Int32, v = some (.int x) ∧ decode y.2.1 pc = .ok (.ireturn, 1) ∧ ∃ ty, y.2.2.2 = some ty ∧ narrow ty (.int x) = .int x) ∨
  (∃ x : Int64, v = some (.long x) ∧ decode y.2.1 pc = .ok (.lreturn, 1) ∧ y.2.2.2 = some .long) ∨
  (∃ r : Value, v = some r ∧ (r = .null ∨ ∃ a, r = .ref a) ∧ decode y.2.1 pc = .ok (.areturn, 1) ∧ ∃ rt, y.2.2.2 = some rt ∧ ((∃ n, rt = .object n) ∨ ∃ t, rt = .array t)) ∨
  (v = none ∧ decode y.2.1 pc = .ok (.return_, 1) ∧ y.2.2.2 = none)
/-- THE JUDGEMENT: at depth d, with kc cells and ks slots to spend, from pc of y with locals L, stack st, memory μ, the method ends with an answer and a memory of which Q holds -/
def EV (w : zW) (d kc ks : Nat) (y : zY) (pc : Nat) (L : List (Option Value)) (st : List Value) (μ : zM) (Q : Option Value → zM → Prop) : Prop :=
  ∀ (p : Program) (l : Launch) (e : Env) (R : Room) (s : State) (m : MethodId) (args : Array Value) (below : List Frame) (meth : Method) (c : Code) (H : Heap) (locs : List Loc) (cells slots : Nat) (Qf : State → Prop) (ls : Array Slot),
    zGF w → zCtx w y p s m args meth c → zL w y.2.2.1 ls L → zRp w s μ H locs → d ≤ R.frames → 64 * d ≤ R.locals → cells + kc ≤ R.cells → slots + ks ≤ R.slots →
    (∀ (v : Option Value) (μ' : zM) (H' : Heap) (locs' : List Loc) (cells' slots' pc' : Nat) (ls' : Array Slot), Q v μ' → zRp w s μ' H' locs' → cells' ≤ cells + kc → slots' ≤ slots + ks → zRet y pc' v →
      W p l e R s m args below meth c H' locs' cells' slots' Qf (F0 m pc' ls' (v.map (zva w)).toList)) →
    W p l e R s m args below meth c H locs cells slots Qf (F0 m pc ls (st.map (zva w)))
section EVR
variable {w : zW} {d kc ks : Nat} {y : zY} {pc : Nat} {L : List (Option Value)} {st : List Value} {μ : zM} {Q Q' : Option Value → zM → Prop}
theorem EV.mono (h : EV w d kc ks y pc L st μ Q) (hQ : ∀ v μ', Q v μ' → Q' v μ') : EV w d kc ks y pc L st μ Q' := by
  intro p l e R s m args below meth c H locs cells slots Qf ls hG hC hL hP h1 h2 h3 h4 k
  exact h p l e R s m args below meth c H locs cells slots Qf ls hG hC hL hP h1 h2 h3 h4 (fun v μ' H' locs' cells' slots' pc' ls' q => k v μ' H' locs' cells' slots' pc' ls' (hQ v μ' q))
theorem EV.more {d' kc' ks' : Nat} (h : EV w d kc ks y pc L st μ Q) (hd : d ≤ d') (hc : kc ≤ kc') (hs : ks ≤ ks') : EV w d' kc' ks' y pc L st μ Q := by
  intro p l e R s m args below meth c H locs cells slots Qf ls hG hC hL hP h1 h2 h3 h4 k
  exact h p l e R s m args below meth c H locs cells slots Qf ls hG hC hL hP (Nat.le_trans hd h1) (Nat.le_trans (Nat.mul_le_mul_left 64 hd) h2) (by omega) (by omega) (fun v μ' H' locs' cells' slots' pc' ls' q r a b t => k v μ' H' locs' cells' slots' pc' ls' q r (by omega) (by omega) t)
/-- the locals may be spoken of less -/
theorem EV.less {L' : List (Option Value)} (h : EV w d kc ks y pc L' st μ Q) (hl : ∀ (j : Nat) (v : Value), L'[j]? = some (some v) → L[j]? = some (some v)) : EV w d kc ks y pc L st μ Q := by
  intro p l e R s m args below meth c H locs cells slots Qf ls hG hC hL hP h1 h2 h3 h4 k
  refine h p l e R s m args below meth c H locs cells slots Qf ls hG hC (zL_sub hL fun j v hj => (zLv_mem w L 0 _).mpr ⟨j, v, hl j v hj, by simp⟩) hP h1 h2 h3 h4 k
theorem ev_end_i {x : Int32} {ty : FieldType} (hd : decode y.2.1 pc = .ok (.ireturn, 1)) (ht : y.2.2.2 = some ty) (hn : narrow ty (.int x) = .int x) (hQ : Q (some (.int x)) μ) : EV w d kc ks y pc L [.int x] μ Q := by
  intro p l e R s m args below meth c H locs cells slots Qf ls hG hC hL hP h1 h2 h3 h4 k
  exact k (some (.int x)) μ H locs cells slots pc ls hQ hP (Nat.le_add_right _ _) (Nat.le_add_right _ _) (Or.inl ⟨x, rfl, hd, ty, ht, hn⟩)
theorem ev_end_l {x : Int64} (hd : decode y.2.1 pc = .ok (.lreturn, 1)) (ht : y.2.2.2 = some .long) (hQ : Q (some (.long x)) μ) : EV w d kc ks y pc L [.long x] μ Q := by
  intro p l e R s m args below meth c H locs cells slots Qf ls hG hC hL hP h1 h2 h3 h4 k
  exact k (some (.long x)) μ H locs cells slots pc ls hQ hP (Nat.le_add_right _ _) (Nat.le_add_right _ _) (Or.inr (Or.inl ⟨x, rfl, hd, ht⟩))
theorem ev_end_r {a : Nat} {rt : FieldType} (hd : decode y.2.1 pc = .ok (.areturn, 1)) (ht : y.2.2.2 = some rt) (hn : (∃ n, rt = .object n) ∨ ∃ t, rt = .array t) (hQ : Q (some (.ref a)) μ) : EV w d kc ks y pc L [.ref a] μ Q := by
  intro p l e R s m args below meth c H locs cells slots Qf ls hG hC hL hP h1 h2 h3 h4 k
  exact k (some (.ref a)) μ H locs cells slots pc ls hQ hP (Nat.le_add_right _ _) (Nat.le_add_right _ _) (Or.inr (Or.inr (Or.inl ⟨_, rfl, Or.inr ⟨a, rfl⟩, hd, rt, ht, hn⟩)))
theorem ev_end_n {rt : FieldType} (hd : decode y.2.1 pc = .ok (.areturn, 1)) (ht : y.2.2.2 = some rt) (hn : (∃ n, rt = .object n) ∨ ∃ t, rt = .array t) (hQ : Q (some .null) μ) : EV w d kc ks y pc L [.null] μ Q := by
  intro p l e R s m args below meth c H locs cells slots Qf ls hG hC hL hP h1 h2 h3 h4 k
  exact k (some .null) μ H locs cells slots pc ls hQ hP (Nat.le_add_right _ _) (Nat.le_add_right _ _) (Or.inr (Or.inr (Or.inl ⟨_, rfl, Or.inl rfl, hd, rt, ht, hn⟩)))
theorem ev_end_v (hd : decode y.2.1 pc = .ok (.return_, 1)) (ht : y.2.2.2 = none) (hQ : Q none μ) : EV w d kc ks y pc L [] μ Q := by
  intro p l e R s m args below meth c H locs cells slots Qf ls hG hC hL hP h1 h2 h3 h4 k
  exact k none μ H locs cells slots pc ls hQ hP (Nat.le_add_right _ _) (Nat.le_add_right _ _) (Or.inr (Or.inr (Or.inr ⟨rfl, hd, ht⟩)))
theorem ev_iconst {n : Int} {v : Int32} (hd : decode y.2.1 pc = .ok (.iconst n, 1)) (hv : Int32.ofInt n = v) (k : EV w d kc ks y (pc + 1) L (.int v :: st) μ Q) : EV w d kc ks y pc L (st) μ Q := by
  intro p l e R s m args below meth c H locs cells slots Qf ls hG hC hL hP h1 h2 h3 h4 hQ
  exact lv_iconst hC.1 hC.2.1 hd hv (k p l e R s m args below meth c H locs cells slots Qf ls hG hC hL hP h1 h2 h3 h4 hQ)
theorem ev_bipush {n : Int} {v : Int32} (hd : decode y.2.1 pc = .ok (.bipush n, 2)) (hv : (Int8.ofInt n).toInt32 = v) (k : EV w d kc ks y (pc + 2) L (.int v :: st) μ Q) : EV w d kc ks y pc L (st) μ Q := by
  intro p l e R s m args below meth c H locs cells slots Qf ls hG hC hL hP h1 h2 h3 h4 hQ
  exact lv_bipush hC.1 hC.2.1 hd hv (k p l e R s m args below meth c H locs cells slots Qf ls hG hC hL hP h1 h2 h3 h4 hQ)
theorem ev_sipush {n : Int} {v : Int32} (hd : decode y.2.1 pc = .ok (.sipush n, 3)) (hv : (Int16.ofInt n).toInt32 = v) (k : EV w d kc ks y (pc + 3) L (.int v :: st) μ Q) : EV w d kc ks y pc L (st) μ Q := by
  intro p l e R s m args below meth c H locs cells slots Qf ls hG hC hL hP h1 h2 h3 h4 hQ
  exact lv_sipush hC.1 hC.2.1 hd hv (k p l e R s m args below meth c H locs cells slots Qf ls hG hC hL hP h1 h2 h3 h4 hQ)
theorem ev_lconst {n : Fin 2} {v : Int64} (hd : decode y.2.1 pc = .ok (.lconst n, 1)) (hv : Int64.ofNat (n : Nat) = v) (k : EV w d kc ks y (pc + 1) L (.long v :: st) μ Q) : EV w d kc ks y pc L (st) μ Q := by
  intro p l e R s m args below meth c H locs cells slots Qf ls hG hC hL hP h1 h2 h3 h4 hQ
  exact lv_lconst hC.1 hC.2.1 hd hv (k p l e R s m args below meth c H locs cells slots Qf ls hG hC hL hP h1 h2 h3 h4 hQ)
theorem ev_null  (hd : decode y.2.1 pc = .ok (.aconst_null, 1))  (k : EV w d kc ks y (pc + 1) L (.null :: st) μ Q) : EV w d kc ks y pc L (st) μ Q := by
  intro p l e R s m args below meth c H locs cells slots Qf ls hG hC hL hP h1 h2 h3 h4 hQ
  exact lv_null hC.1 hC.2.1 hd (k p l e R s m args below meth c H locs cells slots Qf ls hG hC hL hP h1 h2 h3 h4 hQ)
theorem ev_iload_n {i : Fin 4} {j : Nat} {x : Int32} (hd : decode y.2.1 pc = .ok (.iload_n i, 1)) (hi : (i : Nat) = j) (hl : L[j]? = some (some (.int x))) (k : EV w d kc ks y (pc + 1) L (.int x :: st) μ Q) : EV w d kc ks y pc L (st) μ Q := by
  intro p l e R s m args below meth c H locs cells slots Qf ls hG hC hL hP h1 h2 h3 h4 hQ
  exact lv_iload_n hC.1 hC.2.1 hd hi (zL_get hL hl) (k p l e R s m args below meth c H locs cells slots Qf ls hG hC hL hP h1 h2 h3 h4 hQ)
theorem ev_iload {j : Nat} {x : Int32} (hd : decode y.2.1 pc = .ok (.iload j, 2)) (hl : L[j]? = some (some (.int x))) (k : EV w d kc ks y (pc + 2) L (.int x :: st) μ Q) : EV w d kc ks y pc L (st) μ Q := by
  intro p l e R s m args below meth c H locs cells slots Qf ls hG hC hL hP h1 h2 h3 h4 hQ
  exact lv_iload hC.1 hC.2.1 hd (zL_get hL hl) (k p l e R s m args below meth c H locs cells slots Qf ls hG hC hL hP h1 h2 h3 h4 hQ)
theorem ev_lload_n {i : Fin 4} {j : Nat} {x : Int64} (hd : decode y.2.1 pc = .ok (.lload_n i, 1)) (hi : (i : Nat) = j) (hl : L[j]? = some (some (.long x))) (k : EV w d kc ks y (pc + 1) L (.long x :: st) μ Q) : EV w d kc ks y pc L (st) μ Q := by
  intro p l e R s m args below meth c H locs cells slots Qf ls hG hC hL hP h1 h2 h3 h4 hQ
  exact lv_lload_n hC.1 hC.2.1 hd hi (zL_get hL hl) (k p l e R s m args below meth c H locs cells slots Qf ls hG hC hL hP h1 h2 h3 h4 hQ)
theorem ev_lload {j : Nat} {x : Int64} (hd : decode y.2.1 pc = .ok (.lload j, 2)) (hl : L[j]? = some (some (.long x))) (k : EV w d kc ks y (pc + 2) L (.long x :: st) μ Q) : EV w d kc ks y pc L (st) μ Q := by
  intro p l e R s m args below meth c H locs cells slots Qf ls hG hC hL hP h1 h2 h3 h4 hQ
  exact lv_lload hC.1 hC.2.1 hd (zL_get hL hl) (k p l e R s m args below meth c H locs cells slots Qf ls hG hC hL hP h1 h2 h3 h4 hQ)
theorem ev_aload_n {i : Fin 4} {j : Nat} {x : Nat} (hd : decode y.2.1 pc = .ok (.aload_n i, 1)) (hi : (i : Nat) = j) (hl : L[j]? = some (some (.ref x))) (k : EV w d kc ks y (pc + 1) L (.ref x :: st) μ Q) : EV w d kc ks y pc L (st) μ Q := by
  intro p l e R s m args below meth c H locs cells slots Qf ls hG hC hL hP h1 h2 h3 h4 hQ
  exact lv_aload_n hC.1 hC.2.1 hd hi (zL_get hL hl) (k p l e R s m args below meth c H locs cells slots Qf ls hG hC hL hP h1 h2 h3 h4 hQ)
theorem ev_aload {j : Nat} {x : Nat} (hd : decode y.2.1 pc = .ok (.aload j, 2)) (hl : L[j]? = some (some (.ref x))) (k : EV w d kc ks y (pc + 2) L (.ref x :: st) μ Q) : EV w d kc ks y pc L (st) μ Q := by
  intro p l e R s m args below meth c H locs cells slots Qf ls hG hC hL hP h1 h2 h3 h4 hQ
  exact lv_aload hC.1 hC.2.1 hd (zL_get hL hl) (k p l e R s m args below meth c H locs cells slots Qf ls hG hC hL hP h1 h2 h3 h4 hQ)
theorem ev_aload_nN {i : Fin 4} {j : Nat} (hd : decode y.2.1 pc = .ok (.aload_n i, 1)) (hi : (i : Nat) = j) (hl : L[j]? = some (some .null)) (k : EV w d kc ks y (pc + 1) L (.null :: st) μ Q) : EV w d kc ks y pc L (st) μ Q := by
  intro p l e R s m args below meth c H locs cells slots Qf ls hG hC hL hP h1 h2 h3 h4 hQ
  exact lv_aload_nN hC.1 hC.2.1 hd hi (zL_get hL hl) (k p l e R s m args below meth c H locs cells slots Qf ls hG hC hL hP h1 h2 h3 h4 hQ)
theorem ev_aloadN {j : Nat} (hd : decode y.2.1 pc = .ok (.aload j, 2)) (hl : L[j]? = some (some .null)) (k : EV w d kc ks y (pc + 2) L (.null :: st) μ Q) : EV w d kc ks y pc L (st) μ Q := by
  intro p l e R s m args below meth c H locs cells slots Qf ls hG hC hL hP h1 h2 h3 h4 hQ
  exact lv_aloadN hC.1 hC.2.1 hd (zL_get hL hl) (k p l e R s m args below meth c H locs cells slots Qf ls hG hC hL hP h1 h2 h3 h4 hQ)
theorem ev_istore_n {i : Fin 4} {j : Nat} {x : Int32} (hd : decode y.2.1 pc = .ok (.istore_n i, 1)) (hi : (i : Nat) = j) (hn : j < y.2.2.1) (hno : zno2 L j = true) (k : EV w d kc ks y (pc + 1) (L.set j (some (.int x))) st μ Q) : EV w d kc ks y pc L (.int x :: st) μ Q := by
  intro p l e R s m args below meth c H locs cells slots Qf ls hG hC hL hP h1 h2 h3 h4 hQ
  exact lv_istore_n hC.1 hC.2.1 hd hi hL hn rfl (fun ls' hl => k p l e R s m args below meth c H locs cells slots Qf ls' hG hC (zL_st1 hno hl) hP h1 h2 h3 h4 hQ)
theorem ev_istore {j : Nat} {x : Int32} (hd : decode y.2.1 pc = .ok (.istore j, 2))  (hn : j < y.2.2.1) (hno : zno2 L j = true) (k : EV w d kc ks y (pc + 2) (L.set j (some (.int x))) st μ Q) : EV w d kc ks y pc L (.int x :: st) μ Q := by
  intro p l e R s m args below meth c H locs cells slots Qf ls hG hC hL hP h1 h2 h3 h4 hQ
  exact lv_istore hC.1 hC.2.1 hd hL hn rfl (fun ls' hl => k p l e R s m args below meth c H locs cells slots Qf ls' hG hC (zL_st1 hno hl) hP h1 h2 h3 h4 hQ)
theorem ev_astore_n {i : Fin 4} {j : Nat} {x : Nat} (hd : decode y.2.1 pc = .ok (.astore_n i, 1)) (hi : (i : Nat) = j) (hn : j < y.2.2.1) (hno : zno2 L j = true) (k : EV w d kc ks y (pc + 1) (L.set j (some (.ref x))) st μ Q) : EV w d kc ks y pc L (.ref x :: st) μ Q := by
  intro p l e R s m args below meth c H locs cells slots Qf ls hG hC hL hP h1 h2 h3 h4 hQ
  exact lv_astore_n hC.1 hC.2.1 hd hi hL hn rfl (fun ls' hl => k p l e R s m args below meth c H locs cells slots Qf ls' hG hC (zL_st1 hno hl) hP h1 h2 h3 h4 hQ)
theorem ev_astore {j : Nat} {x : Nat} (hd : decode y.2.1 pc = .ok (.astore j, 2))  (hn : j < y.2.2.1) (hno : zno2 L j = true) (k : EV w d kc ks y (pc + 2) (L.set j (some (.ref x))) st μ Q) : EV w d kc ks y pc L (.ref x :: st) μ Q := by
  intro p l e R s m args below meth c H locs cells slots Qf ls hG hC hL hP h1 h2 h3 h4 hQ
  exact lv_astore hC.1 hC.2.1 hd hL hn rfl (fun ls' hl => k p l e R s m args below meth c H locs cells slots Qf ls' hG hC (zL_st1 hno hl) hP h1 h2 h3 h4 hQ)
theorem ev_astore_nN {i : Fin 4} {j : Nat} (hd : decode y.2.1 pc = .ok (.astore_n i, 1)) (hi : (i : Nat) = j) (hn : j < y.2.2.1) (hno : zno2 L j = true) (k : EV w d kc ks y (pc + 1) (L.set j (some .null)) st μ Q) : EV w d kc ks y pc L (.null :: st) μ Q := by
  intro p l e R s m args below meth c H locs cells slots Qf ls hG hC hL hP h1 h2 h3 h4 hQ
  exact lv_astore_nN hC.1 hC.2.1 hd hi hL hn rfl (fun ls' hl => k p l e R s m args below meth c H locs cells slots Qf ls' hG hC (zL_st1 hno hl) hP h1 h2 h3 h4 hQ)
theorem ev_astoreN {j : Nat} (hd : decode y.2.1 pc = .ok (.astore j, 2))  (hn : j < y.2.2.1) (hno : zno2 L j = true) (k : EV w d kc ks y (pc + 2) (L.set j (some .null)) st μ Q) : EV w d kc ks y pc L (.null :: st) μ Q := by
  intro p l e R s m args below meth c H locs cells slots Qf ls hG hC hL hP h1 h2 h3 h4 hQ
  exact lv_astoreN hC.1 hC.2.1 hd hL hn rfl (fun ls' hl => k p l e R s m args below meth c H locs cells slots Qf ls' hG hC (zL_st1 hno hl) hP h1 h2 h3 h4 hQ)
theorem ev_lstore_n {i : Fin 4} {j : Nat} {x : Int64} (hd : decode y.2.1 pc = .ok (.lstore_n i, 1)) (hi : (i : Nat) = j) (hn : j + 1 < y.2.2.1) (hno : zno2 L j = true) (k : EV w d kc ks y (pc + 1) ((L.set j (some (.long x))).set (j + 1) none) st μ Q) : EV w d kc ks y pc L (.long x :: st) μ Q := by
  intro p l e R s m args below meth c H locs cells slots Qf ls hG hC hL hP h1 h2 h3 h4 hQ
  exact lv_lstore_n hC.1 hC.2.1 hd hi hL hn rfl (fun ls' hl => k p l e R s m args below meth c H locs cells slots Qf ls' hG hC (zL_st2 hno hl) hP h1 h2 h3 h4 hQ)
theorem ev_lstore {j : Nat} {x : Int64} (hd : decode y.2.1 pc = .ok (.lstore j, 2))  (hn : j + 1 < y.2.2.1) (hno : zno2 L j = true) (k : EV w d kc ks y (pc + 2) ((L.set j (some (.long x))).set (j + 1) none) st μ Q) : EV w d kc ks y pc L (.long x :: st) μ Q := by
  intro p l e R s m args below meth c H locs cells slots Qf ls hG hC hL hP h1 h2 h3 h4 hQ
  exact lv_lstore hC.1 hC.2.1 hd hL hn rfl (fun ls' hl => k p l e R s m args below meth c H locs cells slots Qf ls' hG hC (zL_st2 hno hl) hP h1 h2 h3 h4 hQ)
theorem ev_iinc {j : Nat} {n : Int} {x v : Int32} (hd : decode y.2.1 pc = .ok (.iinc j n, 3)) (hx : L[j]? = some (some (.int x))) (hv : x + Int32.ofInt n = v) (hn : j < y.2.2.1) (hno : zno2 L j = true) (k : EV w d kc ks y (pc + 3) (L.set j (some (.int v))) st μ Q) : EV w d kc ks y pc L st μ Q := by
  intro p l e R s m args below meth c H locs cells slots Qf ls hG hC hL hP h1 h2 h3 h4 hQ
  obtain ⟨q, hq⟩ := List.getElem?_of_mem ((zLv_mem w L 0 (j, .int x)).mpr ⟨j, .int x, hx, by simp [zva]⟩)
  exact lv_iinc hC.1 hC.2.1 hd hL hq hv hn rfl (fun ls' hl => k p l e R s m args below meth c H locs cells slots Qf ls' hG hC (zL_st1 hno hl) hP h1 h2 h3 h4 hQ)
theorem ev_iadd {a b v : Int32} (hd : decode y.2.1 pc = .ok (.iadd, 1)) (hv : a + b = v) (k : EV w d kc ks y (pc + 1) L (.int v :: st) μ Q) : EV w d kc ks y pc L (.int b :: .int a :: st) μ Q := by
  intro p l e R s m args below meth c H locs cells slots Qf ls hG hC hL hP h1 h2 h3 h4 hQ
  exact lv_iadd hC.1 hC.2.1 hd (by rw [hv]; exact (k p l e R s m args below meth c H locs cells slots Qf ls hG hC hL hP h1 h2 h3 h4 hQ))
theorem ev_isub {a b v : Int32} (hd : decode y.2.1 pc = .ok (.isub, 1)) (hv : a - b = v) (k : EV w d kc ks y (pc + 1) L (.int v :: st) μ Q) : EV w d kc ks y pc L (.int b :: .int a :: st) μ Q := by
  intro p l e R s m args below meth c H locs cells slots Qf ls hG hC hL hP h1 h2 h3 h4 hQ
  exact lv_isub hC.1 hC.2.1 hd (by rw [hv]; exact (k p l e R s m args below meth c H locs cells slots Qf ls hG hC hL hP h1 h2 h3 h4 hQ))
theorem ev_imul {a b v : Int32} (hd : decode y.2.1 pc = .ok (.imul, 1)) (hv : a * b = v) (k : EV w d kc ks y (pc + 1) L (.int v :: st) μ Q) : EV w d kc ks y pc L (.int b :: .int a :: st) μ Q := by
  intro p l e R s m args below meth c H locs cells slots Qf ls hG hC hL hP h1 h2 h3 h4 hQ
  exact lv_imul hC.1 hC.2.1 hd (by rw [hv]; exact (k p l e R s m args below meth c H locs cells slots Qf ls hG hC hL hP h1 h2 h3 h4 hQ))
theorem ev_iand {a b v : Int32} (hd : decode y.2.1 pc = .ok (.iand, 1)) (hv : a &&& b = v) (k : EV w d kc ks y (pc + 1) L (.int v :: st) μ Q) : EV w d kc ks y pc L (.int b :: .int a :: st) μ Q := by
  intro p l e R s m args below meth c H locs cells slots Qf ls hG hC hL hP h1 h2 h3 h4 hQ
  exact lv_iand hC.1 hC.2.1 hd (by rw [hv]; exact (k p l e R s m args below meth c H locs cells slots Qf ls hG hC hL hP h1 h2 h3 h4 hQ))
theorem ev_ior {a b v : Int32} (hd : decode y.2.1 pc = .ok (.ior, 1)) (hv : a ||| b = v) (k : EV w d kc ks y (pc + 1) L (.int v :: st) μ Q) : EV w d kc ks y pc L (.int b :: .int a :: st) μ Q := by
  intro p l e R s m args below meth c H locs cells slots Qf ls hG hC hL hP h1 h2 h3 h4 hQ
  exact lv_ior hC.1 hC.2.1 hd (by rw [hv]; exact (k p l e R s m args below meth c H locs cells slots Qf ls hG hC hL hP h1 h2 h3 h4 hQ))
theorem ev_ixor {a b v : Int32} (hd : decode y.2.1 pc = .ok (.ixor, 1)) (hv : a ^^^ b = v) (k : EV w d kc ks y (pc + 1) L (.int v :: st) μ Q) : EV w d kc ks y pc L (.int b :: .int a :: st) μ Q := by
  intro p l e R s m args below meth c H locs cells slots Qf ls hG hC hL hP h1 h2 h3 h4 hQ
  exact lv_ixor hC.1 hC.2.1 hd (by rw [hv]; exact (k p l e R s m args below meth c H locs cells slots Qf ls hG hC hL hP h1 h2 h3 h4 hQ))
theorem ev_ishl {a b v : Int32} (hd : decode y.2.1 pc = .ok (.ishl, 1)) (hv : a <<< (b &&& 31) = v) (k : EV w d kc ks y (pc + 1) L (.int v :: st) μ Q) : EV w d kc ks y pc L (.int b :: .int a :: st) μ Q := by
  intro p l e R s m args below meth c H locs cells slots Qf ls hG hC hL hP h1 h2 h3 h4 hQ
  exact lv_ishl hC.1 hC.2.1 hd (by rw [hv]; exact (k p l e R s m args below meth c H locs cells slots Qf ls hG hC hL hP h1 h2 h3 h4 hQ))
theorem ev_ishr {a b v : Int32} (hd : decode y.2.1 pc = .ok (.ishr, 1)) (hv : a >>> (b &&& 31) = v) (k : EV w d kc ks y (pc + 1) L (.int v :: st) μ Q) : EV w d kc ks y pc L (.int b :: .int a :: st) μ Q := by
  intro p l e R s m args below meth c H locs cells slots Qf ls hG hC hL hP h1 h2 h3 h4 hQ
  exact lv_ishr hC.1 hC.2.1 hd (by rw [hv]; exact (k p l e R s m args below meth c H locs cells slots Qf ls hG hC hL hP h1 h2 h3 h4 hQ))
theorem ev_idiv {a b v : Int32} (hd : decode y.2.1 pc = .ok (.idiv, 1)) (hne : ¬ b = 0) (hv : a / b = v) (k : EV w d kc ks y (pc + 1) L (.int v :: st) μ Q) : EV w d kc ks y pc L (.int b :: .int a :: st) μ Q := by
  intro p l e R s m args below meth c H locs cells slots Qf ls hG hC hL hP h1 h2 h3 h4 hQ
  exact lv_idiv hC.1 hC.2.1 hd hne (by rw [hv]; exact (k p l e R s m args below meth c H locs cells slots Qf ls hG hC hL hP h1 h2 h3 h4 hQ))
theorem ev_irem {a b v : Int32} (hd : decode y.2.1 pc = .ok (.irem, 1)) (hne : ¬ b = 0) (hv : a - a / b * b = v) (k : EV w d kc ks y (pc + 1) L (.int v :: st) μ Q) : EV w d kc ks y pc L (.int b :: .int a :: st) μ Q := by
  intro p l e R s m args below meth c H locs cells slots Qf ls hG hC hL hP h1 h2 h3 h4 hQ
  exact lv_irem hC.1 hC.2.1 hd hne (by rw [hv]; exact (k p l e R s m args below meth c H locs cells slots Qf ls hG hC hL hP h1 h2 h3 h4 hQ))
theorem ev_ineg {a v : Int32} (hd : decode y.2.1 pc = .ok (.ineg, 1)) (hv : -a = v) (k : EV w d kc ks y (pc + 1) L (.int v :: st) μ Q) : EV w d kc ks y pc L (.int a :: st) μ Q := by
  intro p l e R s m args below meth c H locs cells slots Qf ls hG hC hL hP h1 h2 h3 h4 hQ
  exact lv_ineg hC.1 hC.2.1 hd (by rw [hv]; exact (k p l e R s m args below meth c H locs cells slots Qf ls hG hC hL hP h1 h2 h3 h4 hQ))
theorem ev_ladd {a b v : Int64} (hd : decode y.2.1 pc = .ok (.ladd, 1)) (hv : a + b = v) (k : EV w d kc ks y (pc + 1) L (.long v :: st) μ Q) : EV w d kc ks y pc L (.long b :: .long a :: st) μ Q := by
  intro p l e R s m args below meth c H locs cells slots Qf ls hG hC hL hP h1 h2 h3 h4 hQ
  exact lv_ladd hC.1 hC.2.1 hd (by rw [hv]; exact (k p l e R s m args below meth c H locs cells slots Qf ls hG hC hL hP h1 h2 h3 h4 hQ))
theorem ev_lsub {a b v : Int64} (hd : decode y.2.1 pc = .ok (.lsub, 1)) (hv : a - b = v) (k : EV w d kc ks y (pc + 1) L (.long v :: st) μ Q) : EV w d kc ks y pc L (.long b :: .long a :: st) μ Q := by
  intro p l e R s m args below meth c H locs cells slots Qf ls hG hC hL hP h1 h2 h3 h4 hQ
  exact lv_lsub hC.1 hC.2.1 hd (by rw [hv]; exact (k p l e R s m args below meth c H locs cells slots Qf ls hG hC hL hP h1 h2 h3 h4 hQ))
theorem ev_lor {a b v : Int64} (hd : decode y.2.1 pc = .ok (.lor, 1)) (hv : a ||| b = v) (k : EV w d kc ks y (pc + 1) L (.long v :: st) μ Q) : EV w d kc ks y pc L (.long b :: .long a :: st) μ Q := by
  intro p l e R s m args below meth c H locs cells slots Qf ls hG hC hL hP h1 h2 h3 h4 hQ
  exact lv_lor hC.1 hC.2.1 hd (by rw [hv]; exact (k p l e R s m args below meth c H locs cells slots Qf ls hG hC hL hP h1 h2 h3 h4 hQ))
theorem ev_lshl {a v : Int64} {b : Int32} (hd : decode y.2.1 pc = .ok (.lshl, 1)) (hv : a <<< (b.toInt64 &&& 63) = v) (k : EV w d kc ks y (pc + 1) L (.long v :: st) μ Q) : EV w d kc ks y pc L (.int b :: .long a :: st) μ Q := by
  intro p l e R s m args below meth c H locs cells slots Qf ls hG hC hL hP h1 h2 h3 h4 hQ
  exact lv_lshl hC.1 hC.2.1 hd hv (k p l e R s m args below meth c H locs cells slots Qf ls hG hC hL hP h1 h2 h3 h4 hQ)
theorem ev_lmul {a b v : Int64} (hd : decode y.2.1 pc = .ok (.lmul, 1)) (hv : a * b = v) (k : EV w d kc ks y (pc + 1) L (.long v :: st) μ Q) : EV w d kc ks y pc L (.long b :: .long a :: st) μ Q := by
  intro p l e R s m args below meth c H locs cells slots Qf ls hG hC hL hP h1 h2 h3 h4 hQ
  exact lv_lmul hC.1 hC.2.1 hd (by rw [hv]; exact (k p l e R s m args below meth c H locs cells slots Qf ls hG hC hL hP h1 h2 h3 h4 hQ))
theorem ev_ldiv {a b v : Int64} (hd : decode y.2.1 pc = .ok (.ldiv, 1)) (hne : ¬ b = 0) (hv : a / b = v) (k : EV w d kc ks y (pc + 1) L (.long v :: st) μ Q) : EV w d kc ks y pc L (.long b :: .long a :: st) μ Q := by
  intro p l e R s m args below meth c H locs cells slots Qf ls hG hC hL hP h1 h2 h3 h4 hQ
  exact lv_ldiv hC.1 hC.2.1 hd hne (by rw [hv]; exact (k p l e R s m args below meth c H locs cells slots Qf ls hG hC hL hP h1 h2 h3 h4 hQ))
theorem ev_lrem {a b v : Int64} (hd : decode y.2.1 pc = .ok (.lrem, 1)) (hne : ¬ b = 0) (hv : a - a / b * b = v) (k : EV w d kc ks y (pc + 1) L (.long v :: st) μ Q) : EV w d kc ks y pc L (.long b :: .long a :: st) μ Q := by
  intro p l e R s m args below meth c H locs cells slots Qf ls hG hC hL hP h1 h2 h3 h4 hQ
  exact lv_lrem hC.1 hC.2.1 hd hne (by rw [hv]; exact (k p l e R s m args below meth c H locs cells slots Qf ls hG hC hL hP h1 h2 h3 h4 hQ))
theorem ev_lcmp {a b : Int64} {v : Int32} (hd : decode y.2.1 pc = .ok (.lcmp, 1)) (hv : lg_cmp a b = v) (k : EV w d kc ks y (pc + 1) L (.int v :: st) μ Q) : EV w d kc ks y pc L (.long b :: .long a :: st) μ Q := by
  intro p l e R s m args below meth c H locs cells slots Qf ls hG hC hL hP h1 h2 h3 h4 hQ
  exact W.lcmp hC.1 hC.2.1 hd (by rw [hv]; exact (k p l e R s m args below meth c H locs cells slots Qf ls hG hC hL hP h1 h2 h3 h4 hQ))
theorem ev_i2l {a : Int32} {v : Int64} (hd : decode y.2.1 pc = .ok (.i2l, 1)) (hv : a.toInt64 = v) (k : EV w d kc ks y (pc + 1) L (.long v :: st) μ Q) : EV w d kc ks y pc L (.int a :: st) μ Q := by
  intro p l e R s m args below meth c H locs cells slots Qf ls hG hC hL hP h1 h2 h3 h4 hQ
  exact lv_i2l hC.1 hC.2.1 hd hv (k p l e R s m args below meth c H locs cells slots Qf ls hG hC hL hP h1 h2 h3 h4 hQ)
theorem ev_l2i {a : Int64} {v : Int32} (hd : decode y.2.1 pc = .ok (.l2i, 1)) (hv : a.toInt32 = v) (k : EV w d kc ks y (pc + 1) L (.int v :: st) μ Q) : EV w d kc ks y pc L (.long a :: st) μ Q := by
  intro p l e R s m args below meth c H locs cells slots Qf ls hG hC hL hP h1 h2 h3 h4 hQ
  exact lv_l2i hC.1 hC.2.1 hd hv (k p l e R s m args below meth c H locs cells slots Qf ls hG hC hL hP h1 h2 h3 h4 hQ)
theorem ev_i2b {a : Int32} {v : Int32} (hd : decode y.2.1 pc = .ok (.i2b, 1)) (hv : a.toInt8.toInt32 = v) (k : EV w d kc ks y (pc + 1) L (.int v :: st) μ Q) : EV w d kc ks y pc L (.int a :: st) μ Q := by
  intro p l e R s m args below meth c H locs cells slots Qf ls hG hC hL hP h1 h2 h3 h4 hQ
  exact lv_i2b hC.1 hC.2.1 hd hv (k p l e R s m args below meth c H locs cells slots Qf ls hG hC hL hP h1 h2 h3 h4 hQ)
theorem ev_i2s {a : Int32} {v : Int32} (hd : decode y.2.1 pc = .ok (.i2s, 1)) (hv : a.toInt16.toInt32 = v) (k : EV w d kc ks y (pc + 1) L (.int v :: st) μ Q) : EV w d kc ks y pc L (.int a :: st) μ Q := by
  intro p l e R s m args below meth c H locs cells slots Qf ls hG hC hL hP h1 h2 h3 h4 hQ
  exact lv_i2s hC.1 hC.2.1 hd hv (k p l e R s m args below meth c H locs cells slots Qf ls hG hC hL hP h1 h2 h3 h4 hQ)
theorem ev_dup {v : Value} (hd : decode y.2.1 pc = .ok (.dup, 1)) (hc : v.category = 1) (k : EV w d kc ks y (pc + 1) L (v :: v :: st) μ Q) : EV w d kc ks y pc L (v :: st) μ Q := by
  intro p l e R s m args below meth c H locs cells slots Qf ls hG hC hL hP h1 h2 h3 h4 hQ
  exact lv_dup hC.1 hC.2.1 hd (by rw [zva_cat]; exact hc) (k p l e R s m args below meth c H locs cells slots Qf ls hG hC hL hP h1 h2 h3 h4 hQ)
theorem ev_pop {v : Value} (hd : decode y.2.1 pc = .ok (.pop, 1)) (hc : v.category = 1) (k : EV w d kc ks y (pc + 1) L (st) μ Q) : EV w d kc ks y pc L (v :: st) μ Q := by
  intro p l e R s m args below meth c H locs cells slots Qf ls hG hC hL hP h1 h2 h3 h4 hQ
  exact lv_pop hC.1 hC.2.1 hd (by rw [zva_cat]; exact hc) (k p l e R s m args below meth c H locs cells slots Qf ls hG hC hL hP h1 h2 h3 h4 hQ)
theorem ev_dup2 {u v : Value} (hd : decode y.2.1 pc = .ok (.dup2, 1)) (hu : u.category = 1) (hc : v.category = 1) (k : EV w d kc ks y (pc + 1) L (u :: v :: u :: v :: st) μ Q) : EV w d kc ks y pc L (u :: v :: st) μ Q := by
  intro p l e R s m args below meth c H locs cells slots Qf ls hG hC hL hP h1 h2 h3 h4 hQ
  exact lv_dup2_11 hC.1 hC.2.1 hd (by rw [zva_cat]; exact hu) (by rw [zva_cat]; exact hc) (k p l e R s m args below meth c H locs cells slots Qf ls hG hC hL hP h1 h2 h3 h4 hQ)
theorem ev_icmp_eq {a b : Int32} {off : Int} {tgt : Nat} (hd : decode y.2.1 pc = .ok (.if_icmp .eq off, 3)) (ht : (pc : Int) + off = (tgt : Int)) (kt : (a = b) → EV w d kc ks y tgt L st μ Q) (kf : ¬ (a = b) → EV w d kc ks y (pc + 3) L st μ Q) : EV w d kc ks y pc L (.int b :: .int a :: st) μ Q := by
  intro p l e R s m args below meth c H locs cells slots Qf ls hG hC hL hP h1 h2 h3 h4 hQ
  exact lv_icmp_eq hC.1 hC.2.1 hd ht (fun z => (kt z p l e R s m args below meth c H locs cells slots Qf ls hG hC hL hP h1 h2 h3 h4 hQ)) (fun z => (kf z p l e R s m args below meth c H locs cells slots Qf ls hG hC hL hP h1 h2 h3 h4 hQ))
theorem ev_icmp_eq_t {a b : Int32} {off : Int} {tgt : Nat} (hd : decode y.2.1 pc = .ok (.if_icmp .eq off, 3)) (ht : (pc : Int) + off = (tgt : Int)) (h : (a = b)) (kt : EV w d kc ks y tgt L st μ Q) : EV w d kc ks y pc L (.int b :: .int a :: st) μ Q := ev_icmp_eq hd ht (fun _ => kt) (fun z => absurd h z)
theorem ev_icmp_eq_f {a b : Int32} {off : Int} {tgt : Nat} (hd : decode y.2.1 pc = .ok (.if_icmp .eq off, 3)) (ht : (pc : Int) + off = (tgt : Int)) (h : ¬ (a = b)) (kf : EV w d kc ks y (pc + 3) L st μ Q) : EV w d kc ks y pc L (.int b :: .int a :: st) μ Q := ev_icmp_eq hd ht (fun z => absurd z h) (fun _ => kf)
theorem ev_if_eq {a : Int32} {off : Int} {tgt : Nat} (hd : decode y.2.1 pc = .ok (.ifCond .eq off, 3)) (ht : (pc : Int) + off = (tgt : Int)) (kt : (a = 0) → EV w d kc ks y tgt L st μ Q) (kf : ¬ (a = 0) → EV w d kc ks y (pc + 3) L st μ Q) : EV w d kc ks y pc L (.int a :: st) μ Q := by
  intro p l e R s m args below meth c H locs cells slots Qf ls hG hC hL hP h1 h2 h3 h4 hQ
  exact lv_if_eq hC.1 hC.2.1 hd ht (fun z => (kt z p l e R s m args below meth c H locs cells slots Qf ls hG hC hL hP h1 h2 h3 h4 hQ)) (fun z => (kf z p l e R s m args below meth c H locs cells slots Qf ls hG hC hL hP h1 h2 h3 h4 hQ))
theorem ev_if_eq_t {a : Int32} {off : Int} {tgt : Nat} (hd : decode y.2.1 pc = .ok (.ifCond .eq off, 3)) (ht : (pc : Int) + off = (tgt : Int)) (h : (a = 0)) (kt : EV w d kc ks y tgt L st μ Q) : EV w d kc ks y pc L (.int a :: st) μ Q := ev_if_eq hd ht (fun _ => kt) (fun z => absurd h z)
theorem ev_if_eq_f {a : Int32} {off : Int} {tgt : Nat} (hd : decode y.2.1 pc = .ok (.ifCond .eq off, 3)) (ht : (pc : Int) + off = (tgt : Int)) (h : ¬ (a = 0)) (kf : EV w d kc ks y (pc + 3) L st μ Q) : EV w d kc ks y pc L (.int a :: st) μ Q := ev_if_eq hd ht (fun z => absurd z h) (fun _ => kf)
theorem ev_icmp_ne {a b : Int32} {off : Int} {tgt : Nat} (hd : decode y.2.1 pc = .ok (.if_icmp .ne off, 3)) (ht : (pc : Int) + off = (tgt : Int)) (kt : (¬ a = b) → EV w d kc ks y tgt L st μ Q) (kf : a = b → EV w d kc ks y (pc + 3) L st μ Q) : EV w d kc ks y pc L (.int b :: .int a :: st) μ Q := by
  intro p l e R s m args below meth c H locs cells slots Qf ls hG hC hL hP h1 h2 h3 h4 hQ
  exact lv_icmp_ne hC.1 hC.2.1 hd ht (fun z => (kt z p l e R s m args below meth c H locs cells slots Qf ls hG hC hL hP h1 h2 h3 h4 hQ)) (fun z => (kf z p l e R s m args below meth c H locs cells slots Qf ls hG hC hL hP h1 h2 h3 h4 hQ))
theorem ev_icmp_ne_t {a b : Int32} {off : Int} {tgt : Nat} (hd : decode y.2.1 pc = .ok (.if_icmp .ne off, 3)) (ht : (pc : Int) + off = (tgt : Int)) (h : (¬ a = b)) (kt : EV w d kc ks y tgt L st μ Q) : EV w d kc ks y pc L (.int b :: .int a :: st) μ Q := ev_icmp_ne hd ht (fun _ => kt) (fun z => absurd z h)
theorem ev_icmp_ne_f {a b : Int32} {off : Int} {tgt : Nat} (hd : decode y.2.1 pc = .ok (.if_icmp .ne off, 3)) (ht : (pc : Int) + off = (tgt : Int)) (h : a = b) (kf : EV w d kc ks y (pc + 3) L st μ Q) : EV w d kc ks y pc L (.int b :: .int a :: st) μ Q := ev_icmp_ne hd ht (fun z => absurd h z) (fun _ => kf)
theorem ev_if_ne {a : Int32} {off : Int} {tgt : Nat} (hd : decode y.2.1 pc = .ok (.ifCond .ne off, 3)) (ht : (pc : Int) + off = (tgt : Int)) (kt : (¬ a = 0) → EV w d kc ks y tgt L st μ Q) (kf : a = 0 → EV w d kc ks y (pc + 3) L st μ Q) : EV w d kc ks y pc L (.int a :: st) μ Q := by
  intro p l e R s m args below meth c H locs cells slots Qf ls hG hC hL hP h1 h2 h3 h4 hQ
  exact lv_if_ne hC.1 hC.2.1 hd ht (fun z => (kt z p l e R s m args below meth c H locs cells slots Qf ls hG hC hL hP h1 h2 h3 h4 hQ)) (fun z => (kf z p l e R s m args below meth c H locs cells slots Qf ls hG hC hL hP h1 h2 h3 h4 hQ))
theorem ev_if_ne_t {a : Int32} {off : Int} {tgt : Nat} (hd : decode y.2.1 pc = .ok (.ifCond .ne off, 3)) (ht : (pc : Int) + off = (tgt : Int)) (h : (¬ a = 0)) (kt : EV w d kc ks y tgt L st μ Q) : EV w d kc ks y pc L (.int a :: st) μ Q := ev_if_ne hd ht (fun _ => kt) (fun z => absurd z h)
theorem ev_if_ne_f {a : Int32} {off : Int} {tgt : Nat} (hd : decode y.2.1 pc = .ok (.ifCond .ne off, 3)) (ht : (pc : Int) + off = (tgt : Int)) (h : a = 0) (kf : EV w d kc ks y (pc + 3) L st μ Q) : EV w d kc ks y pc L (.int a :: st) μ Q := ev_if_ne hd ht (fun z => absurd h z) (fun _ => kf)
theorem ev_icmp_lt {a b : Int32} {off : Int} {tgt : Nat} (hd : decode y.2.1 pc = .ok (.if_icmp .lt off, 3)) (ht : (pc : Int) + off = (tgt : Int)) (kt : (a < b) → EV w d kc ks y tgt L st μ Q) (kf : ¬ (a < b) → EV w d kc ks y (pc + 3) L st μ Q) : EV w d kc ks y pc L (.int b :: .int a :: st) μ Q := by
  intro p l e R s m args below meth c H locs cells slots Qf ls hG hC hL hP h1 h2 h3 h4 hQ
  exact lv_icmp_lt hC.1 hC.2.1 hd ht (fun z => (kt z p l e R s m args below meth c H locs cells slots Qf ls hG hC hL hP h1 h2 h3 h4 hQ)) (fun z => (kf z p l e R s m args below meth c H locs cells slots Qf ls hG hC hL hP h1 h2 h3 h4 hQ))
theorem ev_icmp_lt_t {a b : Int32} {off : Int} {tgt : Nat} (hd : decode y.2.1 pc = .ok (.if_icmp .lt off, 3)) (ht : (pc : Int) + off = (tgt : Int)) (h : (a < b)) (kt : EV w d kc ks y tgt L st μ Q) : EV w d kc ks y pc L (.int b :: .int a :: st) μ Q := ev_icmp_lt hd ht (fun _ => kt) (fun z => absurd h z)
theorem ev_icmp_lt_f {a b : Int32} {off : Int} {tgt : Nat} (hd : decode y.2.1 pc = .ok (.if_icmp .lt off, 3)) (ht : (pc : Int) + off = (tgt : Int)) (h : ¬ (a < b)) (kf : EV w d kc ks y (pc + 3) L st μ Q) : EV w d kc ks y pc L (.int b :: .int a :: st) μ Q := ev_icmp_lt hd ht (fun z => absurd z h) (fun _ => kf)
theorem ev_if_lt {a : Int32} {off : Int} {tgt : Nat} (hd : decode y.2.1 pc = .ok (.ifCond .lt off, 3)) (ht : (pc : Int) + off = (tgt : Int)) (kt : (a < 0) → EV w d kc ks y tgt L st μ Q) (kf : ¬ (a < 0) → EV w d kc ks y (pc + 3) L st μ Q) : EV w d kc ks y pc L (.int a :: st) μ Q := by
  intro p l e R s m args below meth c H locs cells slots Qf ls hG hC hL hP h1 h2 h3 h4 hQ
  exact lv_if_lt hC.1 hC.2.1 hd ht (fun z => (kt z p l e R s m args below meth c H locs cells slots Qf ls hG hC hL hP h1 h2 h3 h4 hQ)) (fun z => (kf z p l e R s m args below meth c H locs cells slots Qf ls hG hC hL hP h1 h2 h3 h4 hQ))
theorem ev_if_lt_t {a : Int32} {off : Int} {tgt : Nat} (hd : decode y.2.1 pc = .ok (.ifCond .lt off, 3)) (ht : (pc : Int) + off = (tgt : Int)) (h : (a < 0)) (kt : EV w d kc ks y tgt L st μ Q) : EV w d kc ks y pc L (.int a :: st) μ Q := ev_if_lt hd ht (fun _ => kt) (fun z => absurd h z)
theorem ev_if_lt_f {a : Int32} {off : Int} {tgt : Nat} (hd : decode y.2.1 pc = .ok (.ifCond .lt off, 3)) (ht : (pc : Int) + off = (tgt : Int)) (h : ¬ (a < 0)) (kf : EV w d kc ks y (pc + 3) L st μ Q) : EV w d kc ks y pc L (.int a :: st) μ Q := ev_if_lt hd ht (fun z => absurd z h) (fun _ => kf)
theorem ev_icmp_ge {a b : Int32} {off : Int} {tgt : Nat} (hd : decode y.2.1 pc = .ok (.if_icmp .ge off, 3)) (ht : (pc : Int) + off = (tgt : Int)) (kt : (b ≤ a) → EV w d kc ks y tgt L st μ Q) (kf : ¬ (b ≤ a) → EV w d kc ks y (pc + 3) L st μ Q) : EV w d kc ks y pc L (.int b :: .int a :: st) μ Q := by
  intro p l e R s m args below meth c H locs cells slots Qf ls hG hC hL hP h1 h2 h3 h4 hQ
  exact lv_icmp_ge hC.1 hC.2.1 hd ht (fun z => (kt z p l e R s m args below meth c H locs cells slots Qf ls hG hC hL hP h1 h2 h3 h4 hQ)) (fun z => (kf z p l e R s m args below meth c H locs cells slots Qf ls hG hC hL hP h1 h2 h3 h4 hQ))
theorem ev_icmp_ge_t {a b : Int32} {off : Int} {tgt : Nat} (hd : decode y.2.1 pc = .ok (.if_icmp .ge off, 3)) (ht : (pc : Int) + off = (tgt : Int)) (h : (b ≤ a)) (kt : EV w d kc ks y tgt L st μ Q) : EV w d kc ks y pc L (.int b :: .int a :: st) μ Q := ev_icmp_ge hd ht (fun _ => kt) (fun z => absurd h z)
theorem ev_icmp_ge_f {a b : Int32} {off : Int} {tgt : Nat} (hd : decode y.2.1 pc = .ok (.if_icmp .ge off, 3)) (ht : (pc : Int) + off = (tgt : Int)) (h : ¬ (b ≤ a)) (kf : EV w d kc ks y (pc + 3) L st μ Q) : EV w d kc ks y pc L (.int b :: .int a :: st) μ Q := ev_icmp_ge hd ht (fun z => absurd z h) (fun _ => kf)
theorem ev_if_ge {a : Int32} {off : Int} {tgt : Nat} (hd : decode y.2.1 pc = .ok (.ifCond .ge off, 3)) (ht : (pc : Int) + off = (tgt : Int)) (kt : (0 ≤ a) → EV w d kc ks y tgt L st μ Q) (kf : ¬ (0 ≤ a) → EV w d kc ks y (pc + 3) L st μ Q) : EV w d kc ks y pc L (.int a :: st) μ Q := by
  intro p l e R s m args below meth c H locs cells slots Qf ls hG hC hL hP h1 h2 h3 h4 hQ
  exact lv_if_ge hC.1 hC.2.1 hd ht (fun z => (kt z p l e R s m args below meth c H locs cells slots Qf ls hG hC hL hP h1 h2 h3 h4 hQ)) (fun z => (kf z p l e R s m args below meth c H locs cells slots Qf ls hG hC hL hP h1 h2 h3 h4 hQ))
theorem ev_if_ge_t {a : Int32} {off : Int} {tgt : Nat} (hd : decode y.2.1 pc = .ok (.ifCond .ge off, 3)) (ht : (pc : Int) + off = (tgt : Int)) (h : (0 ≤ a)) (kt : EV w d kc ks y tgt L st μ Q) : EV w d kc ks y pc L (.int a :: st) μ Q := ev_if_ge hd ht (fun _ => kt) (fun z => absurd h z)
theorem ev_if_ge_f {a : Int32} {off : Int} {tgt : Nat} (hd : decode y.2.1 pc = .ok (.ifCond .ge off, 3)) (ht : (pc : Int) + off = (tgt : Int)) (h : ¬ (0 ≤ a)) (kf : EV w d kc ks y (pc + 3) L st μ Q) : EV w d kc ks y pc L (.int a :: st) μ Q := ev_if_ge hd ht (fun z => absurd z h) (fun _ => kf)
theorem ev_icmp_gt {a b : Int32} {off : Int} {tgt : Nat} (hd : decode y.2.1 pc = .ok (.if_icmp .gt off, 3)) (ht : (pc : Int) + off = (tgt : Int)) (kt : (b < a) → EV w d kc ks y tgt L st μ Q) (kf : ¬ (b < a) → EV w d kc ks y (pc + 3) L st μ Q) : EV w d kc ks y pc L (.int b :: .int a :: st) μ Q := by
  intro p l e R s m args below meth c H locs cells slots Qf ls hG hC hL hP h1 h2 h3 h4 hQ
  exact lv_icmp_gt hC.1 hC.2.1 hd ht (fun z => (kt z p l e R s m args below meth c H locs cells slots Qf ls hG hC hL hP h1 h2 h3 h4 hQ)) (fun z => (kf z p l e R s m args below meth c H locs cells slots Qf ls hG hC hL hP h1 h2 h3 h4 hQ))
theorem ev_icmp_gt_t {a b : Int32} {off : Int} {tgt : Nat} (hd : decode y.2.1 pc = .ok (.if_icmp .gt off, 3)) (ht : (pc : Int) + off = (tgt : Int)) (h : (b < a)) (kt : EV w d kc ks y tgt L st μ Q) : EV w d kc ks y pc L (.int b :: .int a :: st) μ Q := ev_icmp_gt hd ht (fun _ => kt) (fun z => absurd h z)
theorem ev_icmp_gt_f {a b : Int32} {off : Int} {tgt : Nat} (hd : decode y.2.1 pc = .ok (.if_icmp .gt off, 3)) (ht : (pc : Int) + off = (tgt : Int)) (h : ¬ (b < a)) (kf : EV w d kc ks y (pc + 3) L st μ Q) : EV w d kc ks y pc L (.int b :: .int a :: st) μ Q := ev_icmp_gt hd ht (fun z => absurd z h) (fun _ => kf)
theorem ev_if_gt {a : Int32} {off : Int} {tgt : Nat} (hd : decode y.2.1 pc = .ok (.ifCond .gt off, 3)) (ht : (pc : Int) + off = (tgt : Int)) (kt : (0 < a) → EV w d kc ks y tgt L st μ Q) (kf : ¬ (0 < a) → EV w d kc ks y (pc + 3) L st μ Q) : EV w d kc ks y pc L (.int a :: st) μ Q := by
  intro p l e R s m args below meth c H locs cells slots Qf ls hG hC hL hP h1 h2 h3 h4 hQ
  exact lv_if_gt hC.1 hC.2.1 hd ht (fun z => (kt z p l e R s m args below meth c H locs cells slots Qf ls hG hC hL hP h1 h2 h3 h4 hQ)) (fun z => (kf z p l e R s m args below meth c H locs cells slots Qf ls hG hC hL hP h1 h2 h3 h4 hQ))
theorem ev_if_gt_t {a : Int32} {off : Int} {tgt : Nat} (hd : decode y.2.1 pc = .ok (.ifCond .gt off, 3)) (ht : (pc : Int) + off = (tgt : Int)) (h : (0 < a)) (kt : EV w d kc ks y tgt L st μ Q) : EV w d kc ks y pc L (.int a :: st) μ Q := ev_if_gt hd ht (fun _ => kt) (fun z => absurd h z)
theorem ev_if_gt_f {a : Int32} {off : Int} {tgt : Nat} (hd : decode y.2.1 pc = .ok (.ifCond .gt off, 3)) (ht : (pc : Int) + off = (tgt : Int)) (h : ¬ (0 < a)) (kf : EV w d kc ks y (pc + 3) L st μ Q) : EV w d kc ks y pc L (.int a :: st) μ Q := ev_if_gt hd ht (fun z => absurd z h) (fun _ => kf)
theorem ev_icmp_le {a b : Int32} {off : Int} {tgt : Nat} (hd : decode y.2.1 pc = .ok (.if_icmp .le off, 3)) (ht : (pc : Int) + off = (tgt : Int)) (kt : (a ≤ b) → EV w d kc ks y tgt L st μ Q) (kf : ¬ (a ≤ b) → EV w d kc ks y (pc + 3) L st μ Q) : EV w d kc ks y pc L (.int b :: .int a :: st) μ Q := by
  intro p l e R s m args below meth c H locs cells slots Qf ls hG hC hL hP h1 h2 h3 h4 hQ
  exact lv_icmp_le hC.1 hC.2.1 hd ht (fun z => (kt z p l e R s m args below meth c H locs cells slots Qf ls hG hC hL hP h1 h2 h3 h4 hQ)) (fun z => (kf z p l e R s m args below meth c H locs cells slots Qf ls hG hC hL hP h1 h2 h3 h4 hQ))
theorem ev_icmp_le_t {a b : Int32} {off : Int} {tgt : Nat} (hd : decode y.2.1 pc = .ok (.if_icmp .le off, 3)) (ht : (pc : Int) + off = (tgt : Int)) (h : (a ≤ b)) (kt : EV w d kc ks y tgt L st μ Q) : EV w d kc ks y pc L (.int b :: .int a :: st) μ Q := ev_icmp_le hd ht (fun _ => kt) (fun z => absurd h z)
theorem ev_icmp_le_f {a b : Int32} {off : Int} {tgt : Nat} (hd : decode y.2.1 pc = .ok (.if_icmp .le off, 3)) (ht : (pc : Int) + off = (tgt : Int)) (h : ¬ (a ≤ b)) (kf : EV w d kc ks y (pc + 3) L st μ Q) : EV w d kc ks y pc L (.int b :: .int a :: st) μ Q := ev_icmp_le hd ht (fun z => absurd z h) (fun _ => kf)
theorem ev_if_le {a : Int32} {off : Int} {tgt : Nat} (hd : decode y.2.1 pc = .ok (.ifCond .le off, 3)) (ht : (pc : Int) + off = (tgt : Int)) (kt : (a ≤ 0) → EV w d kc ks y tgt L st μ Q) (kf : ¬ (a ≤ 0) → EV w d kc ks y (pc + 3) L st μ Q) : EV w d kc ks y pc L (.int a :: st) μ Q := by
  intro p l e R s m args below meth c H locs cells slots Qf ls hG hC hL hP h1 h2 h3 h4 hQ
  exact lv_if_le hC.1 hC.2.1 hd ht (fun z => (kt z p l e R s m args below meth c H locs cells slots Qf ls hG hC hL hP h1 h2 h3 h4 hQ)) (fun z => (kf z p l e R s m args below meth c H locs cells slots Qf ls hG hC hL hP h1 h2 h3 h4 hQ))
theorem ev_if_le_t {a : Int32} {off : Int} {tgt : Nat} (hd : decode y.2.1 pc = .ok (.ifCond .le off, 3)) (ht : (pc : Int) + off = (tgt : Int)) (h : (a ≤ 0)) (kt : EV w d kc ks y tgt L st μ Q) : EV w d kc ks y pc L (.int a :: st) μ Q := ev_if_le hd ht (fun _ => kt) (fun z => absurd h z)
theorem ev_if_le_f {a : Int32} {off : Int} {tgt : Nat} (hd : decode y.2.1 pc = .ok (.ifCond .le off, 3)) (ht : (pc : Int) + off = (tgt : Int)) (h : ¬ (a ≤ 0)) (kf : EV w d kc ks y (pc + 3) L st μ Q) : EV w d kc ks y pc L (.int a :: st) μ Q := ev_if_le hd ht (fun z => absurd z h) (fun _ => kf)
theorem ev_goto {off : Int} {tgt : Nat} (hd : decode y.2.1 pc = .ok (.goto off, 3)) (ht : (pc : Int) + off = (tgt : Int)) (k : EV w d kc ks y tgt L st μ Q) : EV w d kc ks y pc L st μ Q := by
  intro p l e R s m args below meth c H locs cells slots Qf ls hG hC hL hP h1 h2 h3 h4 hQ
  exact lv_goto hC.1 hC.2.1 hd ht (k p l e R s m args below meth c H locs cells slots Qf ls hG hC hL hP h1 h2 h3 h4 hQ)
theorem ev_ifnull_n {off : Int} {tgt : Nat} (hd : decode y.2.1 pc = .ok (.ifnull off, 3)) (ht : (pc : Int) + off = (tgt : Int)) (k : EV w d kc ks y tgt L st μ Q) : EV w d kc ks y pc L (.null :: st) μ Q := by
  intro p l e R s m args below meth c H locs cells slots Qf ls hG hC hL hP h1 h2 h3 h4 hQ
  exact lv_ifnullN hC.1 hC.2.1 hd ht (k p l e R s m args below meth c H locs cells slots Qf ls hG hC hL hP h1 h2 h3 h4 hQ)
theorem ev_ifnull_r {off : Int} {a : Nat} (hd : decode y.2.1 pc = .ok (.ifnull off, 3)) (k : EV w d kc ks y (pc + 3) L st μ Q) : EV w d kc ks y pc L (.ref a :: st) μ Q := by
  intro p l e R s m args below meth c H locs cells slots Qf ls hG hC hL hP h1 h2 h3 h4 hQ
  exact lv_ifnull hC.1 hC.2.1 hd (k p l e R s m args below meth c H locs cells slots Qf ls hG hC hL hP h1 h2 h3 h4 hQ)
theorem ev_ifnonnull_r {off : Int} {a tgt : Nat} (hd : decode y.2.1 pc = .ok (.ifnonnull off, 3)) (ht : (pc : Int) + off = (tgt : Int)) (k : EV w d kc ks y tgt L st μ Q) : EV w d kc ks y pc L (.ref a :: st) μ Q := by
  intro p l e R s m args below meth c H locs cells slots Qf ls hG hC hL hP h1 h2 h3 h4 hQ
  exact lv_ifnonnull hC.1 hC.2.1 hd ht (k p l e R s m args below meth c H locs cells slots Qf ls hG hC hL hP h1 h2 h3 h4 hQ)
theorem ev_ifnonnull_n {off : Int} (hd : decode y.2.1 pc = .ok (.ifnonnull off, 3)) (k : EV w d kc ks y (pc + 3) L st μ Q) : EV w d kc ks y pc L (.null :: st) μ Q := by
  intro p l e R s m args below meth c H locs cells slots Qf ls hG hC hL hP h1 h2 h3 h4 hQ
  exact lv_ifnonnullN hC.1 hC.2.1 hd (k p l e R s m args below meth c H locs cells slots Qf ls hG hC hL hP h1 h2 h3 h4 hQ)
theorem ev_lookup {dflt : Int} {ps : Array (Int × Int)} {len : Nat} {x : Int32} {off : Int} {tgt : Nat} (hd : decode y.2.1 pc = .ok (.lookupswitch dflt ps, len)) (hp : (ps.toList.zip (ps.toList.drop 1)).all (fun (a, next) => a.1 < next.1) = true) (ho : Op.lookupswitch.offset ps.toList dflt x.toInt = off) (ht : (pc : Int) + off = (tgt : Int)) (k : EV w d kc ks y tgt L st μ Q) : EV w d kc ks y pc L (.int x :: st) μ Q := by
  intro p l e R s m args below meth c H locs cells slots Qf ls hG hC hL hP h1 h2 h3 h4 hQ
  exact lv_lookup hC.1 hC.2.1 hd hp ho ht (k p l e R s m args below meth c H locs cells slots Qf ls hG hC hL hP h1 h2 h3 h4 hQ)
theorem ev_tableOut {dflt lo hi : Int} {offs : Array Int} {len : Nat} {x : Int32} {tgt : Nat} (hd : decode y.2.1 pc = .ok (.tableswitch dflt lo hi offs, len)) (h : x.toInt < lo ∨ hi < x.toInt) (ht : (pc : Int) + dflt = (tgt : Int)) (k : EV w d kc ks y tgt L st μ Q) : EV w d kc ks y pc L (.int x :: st) μ Q := by
  intro p l e R s m args below meth c H locs cells slots Qf ls hG hC hL hP h1 h2 h3 h4 hQ
  exact lv_tableOut hC.1 hC.2.1 hd h ht (k p l e R s m args below meth c H locs cells slots Qf ls hG hC hL hP h1 h2 h3 h4 hQ)
theorem ev_tableIn {dflt lo hi : Int} {offs : Array Int} {len : Nat} {x : Int32} {off : Int} {tgt : Nat} (hd : decode y.2.1 pc = .ok (.tableswitch dflt lo hi offs, len)) (hl : ¬ x.toInt < lo) (hh : ¬ hi < x.toInt) (ho : offs[(x.toInt - lo).toNat]? = some off) (ht : (pc : Int) + off = (tgt : Int)) (k : EV w d kc ks y tgt L st μ Q) : EV w d kc ks y pc L (.int x :: st) μ Q := by
  intro p l e R s m args below meth c H locs cells slots Qf ls hG hC hL hP h1 h2 h3 h4 hQ
  exact lv_tableIn hC.1 hC.2.1 hd hl hh ho ht (k p l e R s m args below meth c H locs cells slots Qf ls hG hC hL hP h1 h2 h3 h4 hQ)
theorem ev_ldc {i : Nat} {v : Int32} (hd : decode y.2.1 pc = .ok (.ldc i, 2)) (hc : Cond.constant y.1.cls i v ∈ zGT) (k : EV w d kc ks y (pc + 2) L (.int v :: st) μ Q) : EV w d kc ks y pc L (st) μ Q := by
  intro p l e R s m args below meth c H locs cells slots Qf ls hG hC hL hP h1 h2 h3 h4 hQ
  exact lv_ldc hC.1 hC.2.1 hC.2.2.2.1 (hC.2.2.2.2.1 _ hc) hd (k p l e R s m args below meth c H locs cells slots Qf ls hG hC hL hP h1 h2 h3 h4 hQ)
theorem ev_ldc2 {i : Nat} {v : Int64} (hd : decode y.2.1 pc = .ok (.ldc2_w i, 3)) (hc : Cond.constantLong y.1.cls i v ∈ zGT) (k : EV w d kc ks y (pc + 3) L (.long v :: st) μ Q) : EV w d kc ks y pc L (st) μ Q := by
  intro p l e R s m args below meth c H locs cells slots Qf ls hG hC hL hP h1 h2 h3 h4 hQ
  exact lv_ldc2 hC.1 hC.2.1 hC.2.2.2.1 (hC.2.2.2.2.1 _ hc) hd (k p l e R s m args below meth c H locs cells slots Qf ls hG hC hL hP h1 h2 h3 h4 hQ)
end EVR
