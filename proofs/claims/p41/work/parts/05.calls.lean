/-! a method's EV is its contract; calls -/
def zfa (As : List Value) : List (Option Value) := As.flatMap (fun v => if v.category = 2 then [some v, none] else [some v])
def zL0 (As : List Value) (n : Nat) : List (Option Value) := zfa As ++ List.replicate (n - (zfa As).length) none
theorem zfa_args (w : zW) : ∀ (As : List Value) (i j : Nat) (v : Value), (zfa As)[j]? = some (some v) → (i + j, zva w v) ∈ lv_args i (As.map (zva w))
  | [], i, j, v, h => by simp [zfa] at h
  | u :: As, i, j, v, h => by
    show _ ∈ (i, zva w u) :: lv_args (if (zva w u).category = 2 then i + 2 else i + 1) (As.map (zva w))
    rw [zva_cat]
    have e : zfa (u :: As) = (if u.category = 2 then [some u, none] else [some u]) ++ zfa As := rfl
    rw [e] at h
    by_cases hc : u.category = 2
    · rw [if_pos hc] at h
      rw [if_pos hc]
      match j, h with
      | 0, h =>
        simp at h
        subst h
        exact List.mem_cons_self
      | 1, h => simp at h
      | j + 2, h =>
        have := zfa_args w As (i + 2) j v (by simpa using h)
        rw [show i + (j + 2) = i + 2 + j by omega]
        exact List.mem_cons_of_mem _ this
    · rw [if_neg hc] at h
      rw [if_neg hc]
      match j, h with
      | 0, h =>
        simp at h
        subst h
        exact List.mem_cons_self
      | j + 1, h =>
        have := zfa_args w As (i + 1) j v (by simpa using h)
        rw [show i + (j + 1) = i + 1 + j by omega]
        exact List.mem_cons_of_mem _ this
theorem zfa_len (w : zW) : ∀ (As : List Value), (lg_sl (As.map (zva w))).length = (zfa As).length
  | [] => rfl
  | u :: As => by
    have e1 : lg_sl ((u :: As).map (zva w)) = (if (zva w u).category = 2 then [.val (zva w u), .second] else [.val (zva w u)]) ++ lg_sl (As.map (zva w)) := rfl
    have e2 : zfa (u :: As) = (if u.category = 2 then [some u, none] else [some u]) ++ zfa As := rfl
    rw [e1, e2, List.length_append, List.length_append, zfa_len w As, zva_cat]
    by_cases h : u.category = 2
    · rw [if_pos h, if_pos h]
      rfl
    · rw [if_neg h, if_neg h]
      rfl
theorem zL_entry (w : zW) {As : List Value} {n : Nat} (h : (zfa As).length ≤ n) : zL w n ((lg_sl (As.map (zva w)) ++ List.replicate (n - (lg_sl (As.map (zva w))).length) Slot.unset).toArray) (zL0 As n) := by
  refine zL_sub (lv_entry (As.map (zva w)) (by rw [zfa_len]; exact h)) fun j v hj => ?_
  unfold zL0 at hj
  by_cases hl : j < (zfa As).length
  · rw [List.getElem?_append_left hl] at hj
    have := zfa_args w As 0 j v hj
    rwa [Nat.zero_add] at this
  · rw [List.getElem?_append_right (by omega)] at hj
    have := List.mem_of_getElem? hj
    rw [List.mem_replicate] at this
    cases this.2
def zPc (w : zW) (As : List Value) (μ : zM) : Array Value → State → Prop := fun a U => a = (As.map (zva w)).toArray ∧ zFr w U ∧ zNm w μ U.heap
def zQc (w : zW) (Q : Option Value → zM → Prop) : Array Value → State → Outcome → State → Prop := fun _ st oc t => (∃ (v : Option Value) (μ' : zM), oc = .returned (v.map (zva w)) ∧ Q v μ' ∧ zNm w μ' t.heap) ∧ va_F (zAq w) st t
def zrm (d kc ks : Nat) : Room := { frames := d, cells := kc, slots := ks, locals := 64 * d }
def zws (y : zY) : List Cond := Cond.code y.1 y.2.1 y.2.2.1 y.2.2.2 :: zGT
theorem zFr.alike {w : zW} {s U : State} (h : zFr w s) (hv : U.vm = s.vm) (hh : U.heap = s.heap) : zFr w U := by
  obtain ⟨h1, h2, h3, h4, h5⟩ := h
  have same : ∀ v : Cond, v.onTables = true → va_Nw v s → va_Nw v U := fun v ho hz => va_Nw.same ho hv.symm hz
  refine ⟨by rw [hv]; exact h1, by rw [hh]; exact h2, fun q hq => by rw [hh]; exact h3 q hq, fun i hi => vk_R.same hv (h4 i hi), ?_⟩
  intro v hm
  have hz := h5 v hm
  simp only [zNw, List.mem_cons, List.not_mem_nil, or_false] at hm
  rcases hm with rfl | rfl | rfl | rfl | rfl | rfl | rfl | rfl <;> exact same _ rfl hz
theorem zPc.blind (w : zW) (As : List Value) (μ : zM) : FrameBlind (zPc w As μ) := by
  intro a U g mk h
  obtain ⟨h1, h2, h3⟩ := h
  exact ⟨h1, h2.alike rfl rfl, h3⟩
theorem zFr.warm {w : zW} {s U : State} {μ : zM} {locs : List Loc} (h : zFr w s) (hP : zRp w s μ U.heap locs) (hW : s.WarmedH U.vm) : zFr w U := by
  obtain ⟨h1, h2, h3, h4, h5⟩ := h
  refine ⟨h1.trans hW.alike, Nat.le_trans h2 hP.2.1, fun q hq => ?_, fun i hi => vk_R.warm hW (h4 i hi), fun v hm => ?_⟩
  rotate_left
  · have hz := h5 v hm
    simp only [zNw, List.mem_cons, List.not_mem_nil, or_false] at hm
    rcases hm with rfl | rfl | rfl | rfl | rfl | rfl | rfl | rfl
    · exact va_Nw.warmC hW hz
    · exact va_Nw.warmC hW hz
    · exact va_Nw.warmC hW hz
    · exact va_Nw.warmC hW hz
    · exact va_Nw.warmC hW hz
    · exact va_Nw.warmC hW hz
    · exact va_Nw.warmM hW hz
    · exact va_Nw.warmM hW hz
  rw [hP.2.2.1 q (Nat.lt_of_lt_of_le hq h2) (fun z => absurd z (Nat.not_le.mpr hq))]
  exact h3 q hq
theorem zofW {l : Launch} {y : MethodName} {ws ws' : List Cond} {rm : Room} {Pc : Array Value → State → Prop} {Qc : Array Value → State → Outcome → State → Prop} {mc ms : Nat} {free : Addr → Prop} {cc : ByteArray} {maxL : Nat} {ret : Option FieldType}
    (hy : plainFor y = true) (hw : ws = Cond.code y cc maxL ret :: ws')
    (body : ∀ p e s m args below meth c s₁, BodyLoose p l y (headSpec ws rm) cc maxL ret e s m args below meth c s₁ → c.maxLocals = maxL → Pc args s →
      W p l e (headSpec ws rm).room s m args below meth c s.heap [] 0 0 (MQ below Qc args s mc ms free) (entryFrame m args maxL)) : Met l y ws rm Pc Qc mc ms free := by
  refine MetFree.of_bodySF (code := cc) (maxLocals := maxL) (ret := ret) hy ?_ ?_
  · intro args s m h hn
    obtain ⟨meth, c, h1, h2, h3, h4, h5, h6, -, -⟩ := Cond.code_spec hn (atoms_spec (ws := ws) h _ (by rw [hw]; exact List.mem_cons_self))
    exact ⟨meth, c, h1, h2, h3, h4, h5, h6⟩
  · intro p e s m args below meth c s₁ B hml hP _
    have hh0 : s₁.heap = s.heap := by rw [B.state]; rfl
    obtain ⟨t, a1, o, b1, b2, b3⟩ := body p e s m args below meth c s₁ B hml hP s₁ hh0 (Stand.of_body B)
    exact ⟨t, o, a1, b1, b2, ⟨b3.1, b3.2⟩⟩
theorem zmet {w : zW} {d kc ks : Nat} {y : zY} {As : List Value} {L0 : List (Option Value)} {μ : zM} {Q : Option Value → zM → Prop} (l : Launch) (hG : zGF w) (hy : plainFor y.1 = true) (hl0 : zL0 As y.2.2.1 = L0) (hlen : (zfa As).length ≤ y.2.2.1)
    (h : EV w d kc ks y 0 L0 [] μ Q) : Met l y.1 (zws y) (zrm d kc ks) (zPc w As μ) (zQc w Q) kc ks (zAq w) := by
  subst hl0
  refine zofW (cc := y.2.1) (maxL := y.2.2.1) (ret := y.2.2.2) hy rfl ?_
  intro p e s m args below meth c s₁ B hml hv
  obtain ⟨rfl, hF, hN⟩ := hv
  have hts := atoms_spec (ws := zws y) B.pre
  have hC : zCtx w y p s m ((As.map (zva w)).toArray) meth c := ⟨B.exec, B.bytes, hml, findClass_of_methodNamed B.named, fun v hv => hts v (List.mem_cons_of_mem _ hv), B.returns, B.notSynchronized, (name_of_methodNamed B.named B.method).1, hF⟩
  rw [lg_entry_eq]
  refine h p l e (headSpec (zws y) (zrm d kc ks)).room s m _ below meth c s.heap [] 0 0 _ _ hG hC (zL_entry w hlen) ⟨hN, va_S.rf⟩ (Nat.le_refl _) (Nat.le_refl _) (by rw [Nat.zero_add]; exact Nat.le_refl _) (by rw [Nat.zero_add]; exact Nat.le_refl _) ?_
  intro v μ' H' locs' cells' slots' pc' ls' hQ hR hc hs hret
  rw [Nat.zero_add] at hc hs
  refine W.widen hc hs ?_
  have fin : ∀ t : State, t.heap = H' → zQc w Q ((As.map (zva w)).toArray) s (.returned (v.map (zva w))) t := fun t ht => ⟨⟨v, μ', rfl, hQ, by rw [ht]; exact hR.1⟩, hR.2.F ht⟩
  rcases hret with ⟨x, rfl, hd, ty, ht, hn2⟩ | ⟨x, rfl, hd, ht⟩ | ⟨r, rfl, hr, hd, rt, ht, hrt⟩ | ⟨rfl, hd, ht⟩
  · exact W.zret hC.1 hC.2.1 (hC.2.2.2.2.2.1.trans ht) hn2 (fun t z _ => fin t z) hR.2.2.2 hd hC.2.2.2.2.2.2.1
  · exact W.lret hC.1 hC.2.1 (hC.2.2.2.2.2.1.trans ht) (fun t z _ => fin t z) hR.2.2.2 hd hC.2.2.2.2.2.2.1
  · have hv2 : zva w r = .null ∨ ∃ a, zva w r = .ref a := by
      rcases hr with rfl | ⟨a, rfl⟩
      · exact Or.inl rfl
      · exact Or.inr ⟨_, rfl⟩
    exact W.aret hC.1 hC.2.1 (hC.2.2.2.2.2.1.trans ht) hrt hv2 (fun t z _ => fin t z) hR.2.2.2 hd hC.2.2.2.2.2.2.1
  · exact W.vret hC.1 hC.2.1 (hC.2.2.2.2.2.1.trans ht) (fun t z _ => fin t z) hR.2.2.2 hd hC.2.2.2.2.2.2.1
section EVM
variable {w : zW} {d kc ks : Nat} {y : zY} {pc : Nat} {L : List (Option Value)} {st : List Value} {μ : zM} {Q Q' : Option Value → zM → Prop}
theorem zmap_rest (w : zW) (v : Option Value) (rest : List Value) : (v.map (zva w)).toList ++ rest.map (zva w) = (v.toList ++ rest).map (zva w) := by cases v <;> rfl
theorem ev_run {k1 z1 k2 z2 : Nat} {rest : List Value} {Q1 : Option Value → zM → Prop}
    (Hrun : ∀ (p : Program) (l : Launch) (e : Env) (R : Room) (s : State) (m : MethodId) (args : Array Value) (below : List Frame) (meth : Method) (c : Code) (H : Heap) (locs : List Loc) (cells slots : Nat) (ls : Array Slot),
      zGF w → zCtx w y p s m args meth c → zL w y.2.2.1 ls L → zRp w s μ H locs → d ≤ R.frames → 64 * d ≤ R.locals → cells + k1 ≤ R.cells → slots + z1 ≤ R.slots →
      ∃ a', va_Run p l e R s m args below meth c H locs cells slots k1 z1 (F0 m pc ls (st.map (zva w))) (rest.map (zva w)) (zQc w Q1 a') (zAq w))
    (cont : ∀ v μ', Q1 v μ' → EV w d k2 z2 y (pc + 3) L (v.toList ++ rest) μ' Q) : EV w d (k1 + k2) (z1 + z2) y pc L st μ Q := by
  intro p l e R s m args below meth c H locs cells slots Qf ls hG hC hL hP h1 h2 h3 h4 hQ T hT X
  obtain ⟨a', hr⟩ := Hrun p l e R s m args below meth c H locs cells slots ls hG hC hL hP h1 h2 (by omega) (by omega)
  obtain ⟨v0, st₀, t, T', L', h0, X', hL', e1, e2, ⟨⟨v, μ', hv, q1, n1⟩, hF⟩, stp⟩ := hr T hT X
  have hv' : v0 = v.map (zva w) := by cases hv; rfl
  subst hv'
  have hRp : zRp w s μ' T'.heap (locs ++ L') := by
    refine ⟨by rw [e1]; exact n1, ⟨?_, fun q g1 g2 => ?_, fun q hq => ?_⟩⟩
    · rw [e1]
      exact Nat.le_trans hP.2.1 (by rw [← h0]; exact hF.1)
    · rw [e1, hF.2 q (by rw [h0]; exact Nat.lt_of_lt_of_le g1 hP.2.1) g2, h0]
      exact hP.2.2.1 q g1 g2
    · rcases List.mem_append.mp hq with h | h
      · exact hP.2.2.2 q h
      · exact hL' q h
  obtain ⟨t2, b1, b2⟩ := cont v μ' q1 p l e R s m args below meth c T'.heap (locs ++ L') (cells + k1) (slots + z1) Qf ls hG hC hL hRp h1 h2 (by omega) (by omega)
    (fun v μ' H' locs' cells' slots' pc' ls' q r a b ret => hQ v μ' H' locs' cells' slots' pc' ls' q r (by omega) (by omega) ret) T' rfl X'
  rw [← zmap_rest] at b1
  exact ⟨t2, stp t2 b1, b2⟩
/-- a method that may be called: its code is the tables' -/
def zMeth (y : zY) (n : Nat) : Prop := Cond.code y.1 y.2.1 y.2.2.1 y.2.2.2 ∈ zGT ∧ Cond.initialized y.1.cls ∈ zGT ∧ plainFor y.1 = true ∧ (y.1.cls ≠ "java/lang/invoke/MethodHandle" ∧ y.1.cls ≠ "java/lang/invoke/VarHandle") ∧ (parseMethodDescriptor y.1.desc).map (fun d => d.parameters.length) = some n ∧ y.2.2.1 ≤ 45
theorem zMeth.len {y : zY} {n : Nat} (h : zMeth y n) : ∀ sig, parseMethodDescriptor y.1.desc = some sig → n = sig.parameters.length := fun sig hs => by
  have h2 := h.2.2.2.2.1
  rw [hs] at h2
  exact (Option.some.inj h2).symm
theorem zws_good {y : zY} {n : Nat} (h : zMeth y n) : GoodIn zGT (zws y) := fun v hv => by
  rcases List.mem_cons.mp hv with e | e
  · rw [e]
    exact zGT_good _ h.1
  · exact zGT_good v e
theorem zws_pay {w : zW} {y y' : zY} {n : Nat} {p : Program} {s : State} {m : MethodId} {args : Array Value} {meth : Method} {c : Code} (h : zMeth y' n) (hC : zCtx w y p s m args meth c) : ∀ v ∈ zws y', ∀ (a' : Array Value) (U : State), s.WarmedH U.vm → v.before a' U = true :=
  fun v hv _ _ hW => word_at hW (zws_good h v hv).2 (hC.word (zws_good h v hv).1)
theorem zroom {d d' k1 z1 : Nat} {y' : zY} {n : Nat} {R : Room} (h : zMeth y' n) (hd : d' + 1 ≤ d) (h1 : d ≤ R.frames) (h2 : 64 * d ≤ R.locals) : (zrm d' k1 z1).frames + 1 ≤ R.frames ∧ 8 + (y'.2.2.1 + 11) + (zrm d' k1 z1).locals ≤ R.locals := by
  have := h.2.2.2.2.2
  show d' + 1 ≤ R.frames ∧ 8 + (y'.2.2.1 + 11) + 64 * d' ≤ R.locals
  omega
theorem zrest (w : zW) {m : MethodId} {ls : Array Slot} {st rest : List Value} (h : (rest.map fun v => v.category).sum ≤ 8) : 2 * (F0 m pc ls (st.map (zva w))).monitorRoom + ((rest.map (zva w)).map fun v => v.category).sum ≤ 8 := by
  have e : ((rest.map (zva w)).map fun v => v.category) = rest.map fun v => v.category := by
    rw [List.map_map]
    exact List.map_congr_left fun v _ => zva_cat w v
  rw [e]
  exact lv_room (m := m) (pc := pc) (ls := ls) (rest := st.map (zva w)) h
theorem zPc_of {w : zW} {y : zY} {p : Program} {s : State} {m : MethodId} {args : Array Value} {meth : Method} {c : Code} {H : Heap} {locs : List Loc} {As : List Value} (hC : zCtx w y p s m args meth c) (hP : zRp w s μ H locs) : ∀ U : State, U.heap = H → s.WarmedH U.vm → zPc w As μ (As.map (zva w)).toArray U := by
  intro U hU hW
  subst hU
  exact ⟨rfl, hC.fr.warm hP hW, hP.1⟩
/-- a static method, of any class -/
theorem ev_callS {k1 z1 k2 z2 d' idx n : Nat} {y' : zY} {As rest : List Value} {L0 : List (Option Value)} {Q1 : Option Value → zM → Prop} (hd : decode y.2.1 pc = .ok (.invokestatic idx, 3)) (hm : zMeth y' n) (hl : Cond.methodLink y.1.cls idx y'.1 ∈ zGT) (hs : Cond.static y'.1 ∈ zGT)
    (hst : st = As.reverse ++ rest) (hn : As.length = n) (hr : (rest.map fun v => v.category).sum ≤ 8) (hl0 : zL0 As y'.2.2.1 = L0) (hlen : (zfa As).length ≤ y'.2.2.1) (hdd : d' + 1 ≤ d)
    (h : EV w d' k1 z1 y' 0 L0 [] μ Q1) (cont : ∀ v μ', Q1 v μ' → EV w d k2 z2 y (pc + 3) L (v.toList ++ rest) μ' Q) : EV w d (k1 + k2) (z1 + z2) y pc L st μ Q := by
  refine ev_run (rest := rest) (fun p l e R s m args below meth c H locs cells slots ls hG hC hL hP h1 h2 h3 h4 => ⟨(As.map (zva w)).toArray, ?_⟩) cont
  have hts := hC.2.2.2.2.1
  have hcw : CallB R s args y.1.cls idx y'.1 y'.2.1 y'.2.2.1 y'.2.2.2 (zws y') (zrm d' k1 z1) k1 z1 n := ⟨rfl, rfl, (zroom (k1 := k1) (z1 := z1) hm hdd h1 h2).1, (zroom (k1 := k1) (z1 := z1) hm hdd h1 h2).2, zws_pay hm hC, List.mem_cons_self, hC.word hm.1, hC.word hm.2.1, hm.2.2.2.1, hm.len, hC.word hl⟩
  exact va_runS (As := As.map (zva w)) ⟨hC.1, hC.2.1, hC.2.2.1, hC.2.2.2.1, hts⟩ (zmet l hG hm.2.2.1 hl0 hlen h) ⟨hcw, hC.word hs⟩ ⟨zPc.blind w As μ, zPc_of hC hP⟩ rfl (by rw [List.length_map]; exact hn) hL.1 (by show st.map (zva w) = _; rw [hst, List.map_append, List.map_reverse]) (zrest w hr) hd ⟨h3, h4⟩
/-- the receiver's class is C -/
def zRc (w : zW) (μ : zM) (b : Nat) (C : String) : Prop := ∃ c : Nat, c < 14 ∧ C = zRf c ∧ zHas μ.1 μ.2.1 b (16 + c)
theorem zRc.cell {w : zW} {μ : zM} {b : Nat} {C : String} {s : State} {H : Heap} {locs : List Loc} (h : zRc w μ b C) (hG : zGF w) (hF : zFr w s) (hP : zRp w s μ H locs) : ∃ cellB : Cell, H[zad w b]? = some cellB ∧ cellB.vm.isStatics = false ∧ s.vm.findClass C = some cellB.cls := by
  obtain ⟨c, hc, rfl, ha⟩ := h
  have he := zWs_at w (μ := μ) ha.1 ha.2.1
  rw [zE_obj ha.2.2] at he
  exact va_recv (zKs hG hF) (hP.p ha.2.1) (zcl_at c hc) he
/-- the same, said of the machine: old objects, too -/
def zRcv (w : zW) (μ : zM) (b : Nat) (C : String) : Prop := ∀ (s : State) (H : Heap) (locs : List Loc), zGF w → zFr w s → zRp w s μ H locs → ∃ cellB : Cell, H[zad w b]? = some cellB ∧ cellB.vm.isStatics = false ∧ s.vm.findClass C = some cellB.cls
theorem zRc.rcv {w : zW} {μ : zM} {b : Nat} {C : String} (h : zRc w μ b C) : zRcv w μ b C := fun _ _ _ hG hF hP => h.cell hG hF hP
/-- a method of the receiver's own class -/
theorem ev_callV {k1 z1 k2 z2 d' idx n b : Nat} {y' : zY} {As rest : List Value} {L0 : List (Option Value)} {Q1 : Option Value → zM → Prop} (hd : decode y.2.1 pc = .ok (.invokevirtual idx, 3)) (hm : zMeth y' n) (hl : Cond.methodLink y.1.cls idx y'.1 ∈ zGT) (hi : Cond.instanceMethod y'.1 ∈ zGT) (hse : Cond.selects y'.1.cls y'.1 y'.1 ∈ zGT)
    (hb : zRcv w μ b y'.1.cls) (hst : st = As.reverse ++ .ref b :: rest) (hn : As.length = n) (hr : (rest.map fun v => v.category).sum ≤ 8) (hl0 : zL0 (.ref b :: As) y'.2.2.1 = L0) (hlen : (zfa (.ref b :: As)).length ≤ y'.2.2.1) (hdd : d' + 1 ≤ d)
    (h : EV w d' k1 z1 y' 0 L0 [] μ Q1) (cont : ∀ v μ', Q1 v μ' → EV w d k2 z2 y (pc + 3) L (v.toList ++ rest) μ' Q) : EV w d (k1 + k2) (z1 + z2) y pc L st μ Q := by
  refine ev_run (rest := rest) (fun p l e R s m args below meth c H locs cells slots ls hG hC hL hP h1 h2 h3 h4 => ⟨(Value.ref (zad w b) :: As.map (zva w)).toArray, ?_⟩) cont
  have hts := hC.2.2.2.2.1
  have hcw : CallB R s args y.1.cls idx y'.1 y'.2.1 y'.2.2.1 y'.2.2.2 (zws y') (zrm d' k1 z1) k1 z1 n := ⟨rfl, rfl, (zroom (k1 := k1) (z1 := z1) hm hdd h1 h2).1, (zroom (k1 := k1) (z1 := z1) hm hdd h1 h2).2, zws_pay hm hC, List.mem_cons_self, hC.word hm.1, hC.word hm.2.1, hm.2.2.2.1, hm.len, hC.word hl⟩
  exact va_runV (As := As.map (zva w)) (b := zad w b) (C := y'.1.cls) ⟨hC.1, hC.2.1, hC.2.2.1, hC.2.2.2.1, hts⟩ (zmet l hG hm.2.2.1 hl0 hlen h) ⟨hcw, hC.word hi, hC.word hse⟩ ⟨zPc.blind w (.ref b :: As) μ, hb s H locs hG hC.fr hP, zPc_of (As := .ref b :: As) hC hP⟩ rfl (by rw [List.length_map]; exact hn) hL.1 (by show st.map (zva w) = _; rw [hst, List.map_append, List.map_reverse]; rfl) (zrest w hr) hd ⟨h3, h4⟩
/-- a method chosen by the receiver's class C: x is named, y' runs -/
theorem ev_callU {k1 z1 k2 z2 d' idx n b m0 : Nat} {x : MethodName} {y' : zY} {C owner : String} {b0 : ByteArray} {r0 : Option FieldType} {As rest : List Value} {L0 : List (Option Value)} {Q1 : Option Value → zM → Prop} (hd : decode y.2.1 pc = .ok (.invokevirtual idx, 3)) (hm : zMeth y' n) (hl : Cond.methodLink y.1.cls idx x ∈ zGT) (hsm : Cond.sameMethod x.cls owner x.name x.desc ∈ zGT)
    (hio : Cond.instanceMethod ⟨owner, x.name, x.desc⟩ ∈ zGT) (hco : Cond.code ⟨owner, x.name, x.desc⟩ b0 m0 r0 ∈ zGT) (hse : Cond.selects C x y'.1 ∈ zGT) (hi : Cond.instanceMethod y'.1 ∈ zGT) (how : owner ≠ "java/lang/invoke/MethodHandle" ∧ owner ≠ "java/lang/invoke/VarHandle") (hxd : x.desc = y'.1.desc)
    (hb : zRcv w μ b C) (hst : st = As.reverse ++ .ref b :: rest) (hn : As.length = n) (hr : (rest.map fun v => v.category).sum ≤ 8) (hl0 : zL0 (.ref b :: As) y'.2.2.1 = L0) (hlen : (zfa (.ref b :: As)).length ≤ y'.2.2.1) (hdd : d' + 1 ≤ d)
    (h : EV w d' k1 z1 y' 0 L0 [] μ Q1) (cont : ∀ v μ', Q1 v μ' → EV w d k2 z2 y (pc + 3) L (v.toList ++ rest) μ' Q) : EV w d (k1 + k2) (z1 + z2) y pc L st μ Q := by
  refine ev_run (rest := rest) (fun p l e R s m args below meth c H locs cells slots ls hG hC hL hP h1 h2 h3 h4 => ⟨(Value.ref (zad w b) :: As.map (zva w)).toArray, ?_⟩) cont
  have hts := hC.2.2.2.2.1
  have hcw : va_CU R s args y.1.cls C owner idx x y'.1 y'.2.1 y'.2.2.1 y'.2.2.2 (zws y') (zrm d' k1 z1) k1 z1 n := ⟨⟨rfl, rfl, (zroom (k1 := k1) (z1 := z1) hm hdd h1 h2).1, (zroom (k1 := k1) (z1 := z1) hm hdd h1 h2).2, zws_pay hm hC, List.mem_cons_self⟩, hC.word hm.1, hC.word hm.2.1, how, by rw [hxd]; exact hm.len, hC.word hl, hC.word hsm, va_Decl.of (hC.word hio) (hC.word hco), hC.word hse, hC.word hi⟩
  exact va_runU (As := As.map (zva w)) (b := zad w b) ⟨hC.1, hC.2.1, hC.2.2.1, hC.2.2.2.1, hts⟩ (zmet l hG hm.2.2.1 hl0 hlen h) hcw ⟨zPc.blind w (.ref b :: As) μ, hb s H locs hG hC.fr hP, zPc_of (As := .ref b :: As) hC hP⟩ rfl (by rw [List.length_map]; exact hn) hL.1 (by show st.map (zva w) = _; rw [hst, List.map_append, List.map_reverse]; rfl) (zrest w hr) hd ⟨h3, h4⟩
/-- a constructor -/
theorem ev_callI {k1 z1 k2 z2 d' idx n b : Nat} {y' : zY} {As rest : List Value} {L0 : List (Option Value)} {Q1 : Option Value → zM → Prop} (hd : decode y.2.1 pc = .ok (.invokespecial idx, 3)) (hm : zMeth y' n) (hl : Cond.methodLink y.1.cls idx y'.1 ∈ zGT) (hi : Cond.instanceMethod y'.1 ∈ zGT) (hini : y'.1.name = "<init>") (hre : y'.2.2.2 = none)
    (hst : st = As.reverse ++ .ref b :: rest) (hn : As.length = n) (hr : (rest.map fun v => v.category).sum ≤ 8) (hl0 : zL0 (.ref b :: As) y'.2.2.1 = L0) (hlen : (zfa (.ref b :: As)).length ≤ y'.2.2.1) (hdd : d' + 1 ≤ d)
    (h : EV w d' k1 z1 y' 0 L0 [] μ Q1) (cont : ∀ v μ', Q1 v μ' → EV w d k2 z2 y (pc + 3) L (v.toList ++ rest) μ' Q) : EV w d (k1 + k2) (z1 + z2) y pc L st μ Q := by
  refine ev_run (rest := rest) (fun p l e R s m args below meth c H locs cells slots ls hG hC hL hP h1 h2 h3 h4 => ⟨(Value.ref (zad w b) :: As.map (zva w)).toArray, ?_⟩) cont
  have hts := hC.2.2.2.2.1
  have hcw : CallB R s args y.1.cls idx y'.1 y'.2.1 y'.2.2.1 none (zws y') (zrm d' k1 z1) k1 z1 n := ⟨rfl, rfl, (zroom (k1 := k1) (z1 := z1) hm hdd h1 h2).1, (zroom (k1 := k1) (z1 := z1) hm hdd h1 h2).2, zws_pay hm hC, by rw [← hre]; exact List.mem_cons_self, by rw [← hre]; exact hC.word hm.1, hC.word hm.2.1, hm.2.2.2.1, hm.len, hC.word hl⟩
  exact va_runI (As := As.map (zva w)) (b := zad w b) ⟨hC.1, hC.2.1, hC.2.2.1, hC.2.2.2.1, hts⟩ (zmet l hG hm.2.2.1 hl0 hlen h) ⟨hcw, hini, hC.word hi⟩ ⟨zPc.blind w (.ref b :: As) μ, zPc_of (As := .ref b :: As) hC hP⟩ rfl (by rw [List.length_map]; exact hn) hL.1 (by show st.map (zva w) = _; rw [hst, List.map_append, List.map_reverse]; rfl) (zrest w hr) hd ⟨h3, h4⟩
/-- super.f(..) -/
theorem ev_callP {k1 z1 k2 z2 d' idx n b : Nat} {y' : zY} {C : String} {As rest : List Value} {L0 : List (Option Value)} {Q1 : Option Value → zM → Prop} (hd : decode y.2.1 pc = .ok (.invokespecial idx, 3)) (hm : zMeth y' n) (hl : Cond.methodLink y.1.cls idx y'.1 ∈ zGT) (hsm : Cond.sameMethod y'.1.cls y'.1.cls y'.1.name y'.1.desc ∈ zGT) (hsu : Cond.superclass y.1.cls y'.1.cls ∈ zGT) (hi : Cond.instanceMethod y'.1 ∈ zGT) (hini : y'.1.name ≠ "<init>")
    (hb : zRc w μ b C) (hst : st = As.reverse ++ .ref b :: rest) (hn : As.length = n) (hr : (rest.map fun v => v.category).sum ≤ 8) (hl0 : zL0 (.ref b :: As) y'.2.2.1 = L0) (hlen : (zfa (.ref b :: As)).length ≤ y'.2.2.1) (hdd : d' + 1 ≤ d)
    (h : EV w d' k1 z1 y' 0 L0 [] μ Q1) (cont : ∀ v μ', Q1 v μ' → EV w d k2 z2 y (pc + 3) L (v.toList ++ rest) μ' Q) : EV w d (k1 + k2) (z1 + z2) y pc L st μ Q := by
  refine ev_run (rest := rest) (fun p l e R s m args below meth c H locs cells slots ls hG hC hL hP h1 h2 h3 h4 => ⟨(Value.ref (zad w b) :: As.map (zva w)).toArray, ?_⟩) cont
  have hts := hC.2.2.2.2.1
  have hcw : va_CS R s args y.1.cls idx y'.1 y'.2.1 y'.2.2.1 y'.2.2.2 (zws y') (zrm d' k1 z1) k1 z1 n := ⟨⟨rfl, rfl, (zroom (k1 := k1) (z1 := z1) hm hdd h1 h2).1, (zroom (k1 := k1) (z1 := z1) hm hdd h1 h2).2, zws_pay hm hC, List.mem_cons_self⟩, hC.word hl, hC.word hsm, hC.word hsu, hC.word hi, hC.word hm.2.1, hC.word hm.1, hini, hm.len⟩
  have hb2 := hb
  obtain ⟨c, hc, rfl, ha⟩ := hb2
  exact va_runSU (As := As.map (zva w)) (b := zad w b) (cC := (zD w).1 c) ((zKs hG hC.fr).1 c _ (zcl_at c hc)).2 ⟨hC.1, hC.2.1, hC.2.2.1, hC.2.2.2.1, hts⟩ (zmet l hG hm.2.2.1 hl0 hlen h) hcw ⟨zPc.blind w (.ref b :: As) μ, hb.cell hG hC.fr hP, zPc_of (As := .ref b :: As) hC hP⟩ rfl (by rw [List.length_map]; exact hn) hL.1 (by show st.map (zva w) = _; rw [hst, List.map_append, List.map_reverse]; rfl) (zrest w hr) hd ⟨h3, h4⟩
end EVM
