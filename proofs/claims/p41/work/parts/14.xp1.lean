/-! the machine does as the functions say: laid by program -/
theorem ev_callU0 {w : zW} {d kc ks : Nat} {y : zY} {pc : Nat} {L : List (Option Value)} {st : List Value} {μ : zM} {Q : Option Value → zM → Prop} {d' idx n b m0 : Nat} {x : MethodName} {y' : zY} {C owner : String} {b0 : ByteArray} {r0 : Option FieldType} {As rest : List Value} {L0 : List (Option Value)} {Q1 : Option Value → zM → Prop} (hd : decode y.2.1 pc = .ok (.invokevirtual idx, 3)) (hm : zMeth y' n) (hl : Cond.methodLink y.1.cls idx x ∈ zGT) (hsm : Cond.sameMethod x.cls owner x.name x.desc ∈ zGT)
    (hio : Cond.instanceMethod ⟨owner, x.name, x.desc⟩ ∈ zGT) (hco : Cond.code ⟨owner, x.name, x.desc⟩ b0 m0 r0 ∈ zGT) (hse : Cond.selects C x y'.1 ∈ zGT) (hi : Cond.instanceMethod y'.1 ∈ zGT) (how : owner ≠ "java/lang/invoke/MethodHandle" ∧ owner ≠ "java/lang/invoke/VarHandle") (hxd : x.desc = y'.1.desc)
    (hb : zRcv w μ b C) (hst : st = As.reverse ++ .ref b :: rest) (hn : As.length = n) (hr : (rest.map fun v => v.category).sum ≤ 8) (hl0 : zL0 (.ref b :: As) y'.2.2.1 = L0) (hlen : (zfa (.ref b :: As)).length ≤ y'.2.2.1) (hdd : d' + 1 ≤ d)
    (h : EV w d' 0 0 y' 0 L0 [] μ Q1) (cont : ∀ v μ', Q1 v μ' → EV w d kc ks y (pc + 3) L (v.toList ++ rest) μ' Q) : EV w d kc ks y pc L st μ Q := by
  rw [← Nat.zero_add kc, ← Nat.zero_add ks]
  exact ev_callU hd hm hl hsm hio hco hse hi how hxd hb hst hn hr hl0 hlen hdd h cont
theorem ev_callP0 {w : zW} {d kc ks : Nat} {y : zY} {pc : Nat} {L : List (Option Value)} {st : List Value} {μ : zM} {Q : Option Value → zM → Prop} {d' idx n b : Nat} {y' : zY} {C : String} {As rest : List Value} {L0 : List (Option Value)} {Q1 : Option Value → zM → Prop} (hd : decode y.2.1 pc = .ok (.invokespecial idx, 3)) (hm : zMeth y' n) (hl : Cond.methodLink y.1.cls idx y'.1 ∈ zGT) (hsm : Cond.sameMethod y'.1.cls y'.1.cls y'.1.name y'.1.desc ∈ zGT) (hsu : Cond.superclass y.1.cls y'.1.cls ∈ zGT) (hi : Cond.instanceMethod y'.1 ∈ zGT) (hini : y'.1.name ≠ "<init>")
    (hb : zRc w μ b C) (hst : st = As.reverse ++ .ref b :: rest) (hn : As.length = n) (hr : (rest.map fun v => v.category).sum ≤ 8) (hl0 : zL0 (.ref b :: As) y'.2.2.1 = L0) (hlen : (zfa (.ref b :: As)).length ≤ y'.2.2.1) (hdd : d' + 1 ≤ d)
    (h : EV w d' 0 0 y' 0 L0 [] μ Q1) (cont : ∀ v μ', Q1 v μ' → EV w d kc ks y (pc + 3) L (v.toList ++ rest) μ' Q) : EV w d kc ks y pc L st μ Q := by
  rw [← Nat.zero_add kc, ← Nat.zero_add ks]
  exact ev_callP hd hm hl hsm hsu hi hini hb hst hn hr hl0 hlen hdd h cont
/-- super.f(..) where f is the superclass's superclass's: x is named, y' runs -/
theorem ev_callPI0 {w : zW} {d kc ks : Nat} {y : zY} {pc : Nat} {L : List (Option Value)} {st : List Value} {μ : zM} {Q : Option Value → zM → Prop} {d' idx n b : Nat} {y' : zY} {C C1 : String} {As rest : List Value} {L0 : List (Option Value)} {Q1 : Option Value → zM → Prop} (hd : decode y.2.1 pc = .ok (.invokespecial idx, 3)) (hm : zMeth y' n) (hl : Cond.methodLink y.1.cls idx ⟨C1, y'.1.name, y'.1.desc⟩ ∈ zGT) (hsm : Cond.sameMethod C1 y'.1.cls y'.1.name y'.1.desc ∈ zGT) (hsu : Cond.superclass y.1.cls C1 ∈ zGT) (hi : Cond.instanceMethod y'.1 ∈ zGT) (hini : y'.1.name ≠ "<init>") (hca : Cond.castable C1 y'.1.cls ∈ zNw) (hsw : Cond.superclass y'.1.cls "java/lang/Object" ∈ zGT)
    (hb : zRc w μ b C) (hst : st = As.reverse ++ .ref b :: rest) (hn : As.length = n) (hr : (rest.map fun v => v.category).sum ≤ 8) (hl0 : zL0 (.ref b :: As) y'.2.2.1 = L0) (hlen : (zfa (.ref b :: As)).length ≤ y'.2.2.1) (hdd : d' + 1 ≤ d)
    (h : EV w d' 0 0 y' 0 L0 [] μ Q1) (cont : ∀ v μ', Q1 v μ' → EV w d kc ks y (pc + 3) L (v.toList ++ rest) μ' Q) : EV w d kc ks y pc L st μ Q := by
  rw [← Nat.zero_add kc, ← Nat.zero_add ks]
  refine ev_run (rest := rest) (fun p l e R s m args below meth c H locs cells slots ls hG hC hL hP h1 h2 h3 h4 => ⟨(Value.ref (zad w b) :: As.map (zva w)).toArray, ?_⟩) cont
  have hK : Back l R p e below s args y'.1 3 8 (PreOf R 0 0 (zPc w (.ref b :: As) μ)) (PostOf (zQc w Q1) 0 0 (zAq w)) := back_of (bytes := y'.2.1) (maxL := y'.2.2.1) (ret := y'.2.2.2) (zmet l hG hm.2.2.1 hl0 hlen h) (zPc.blind w (.ref b :: As) μ) rfl rfl (zroom (k1 := 0) (z1 := 0) hm hdd h1 h2).1 (zroom (k1 := 0) (z1 := 0) hm hdd h1 h2).2 (zws_pay hm hC) List.mem_cons_self (fun a' U hW => word_at hW (Or.inl (by first | rfl | simp [Cond.onTables, Cond.keeps, Cond.steady])) (hC.word hm.2.1))
  have hrest := zrest (pc := pc) w (m := m) (ls := ls) (st := st) hr
  have hb2 := hb
  obtain ⟨cc, hcc, rfl, ha⟩ := hb2
  obtain ⟨cellB, hcB, hoB, hclB⟩ := hb.cell hG hC.fr hP
  obtain ⟨hfc, kB, hkB, -⟩ := ((zKs hG hC.fr).1 cc _ (zcl_at cc hcc)).2
  rw [Option.some.inj (hfc.symm.trans hclB)] at hkB
  obtain ⟨mk, methM, hnamed, hmethM, hstM, habM⟩ := Cond.instanceMethod_spec (hC.word hi)
  obtain ⟨methM', cM, hmethM', -, -, -, -, -, -, hsigM⟩ := Cond.code_spec hnamed (hC.word hm.1)
  cases hmethM.symm.trans hmethM'
  obtain ⟨ps, dk, kp, hps, hdk, hkp, hsuper, -, hkpo, hnid⟩ := Cond.superclass_spec hC.2.2.2.1 (hC.word hsu)
  obtain ⟨c1, t1, f1, f2, f3⟩ := Cond.castable_spec (va_Nw.use (A := args) rfl (hC.fr.2.2.2.2 _ hca))
  cases hps.symm.trans f1
  have hmc : t1 = mk.cls := Option.some.inj (f2.symm.trans (findClass_of_methodNamed hnamed))
  subst hmc
  obtain ⟨po, kw, kq, -, hkw, -, -, hkwo, -, hkwi⟩ := Cond.superclass_spec f2 (hC.word hsw)
  have hsub : s.vm.isSubclass ps mk.cls = true := isSubclass_of_assignable hkp hkw hkpo hkwo hkwi f3
  intro T hT X
  obtain ⟨vm₁, X₁, hstep₁⟩ := X.invokespecialUp hC.1 hC.2.2.2.1 (hC.word hl) (hC.word hsm) hnamed hmethM hstM habM hini hdk hnid hps hsuper hsub (a := zad w b) (cell := cellB) (by rw [hT]; exact hcB)
    (fun z h => by rw [h] at hoB; cases hoB) hkB (g := F0 m pc ls (st.map (zva w))) rfl (argsL := As.map (zva w)) (rest := rest.map (zva w)) (by rw [List.length_map, hn]; exact hm.len _ hsigM) (by show st.map (zva w) = _; rw [hst, List.map_append, List.map_reverse]; rfl) (by rw [hC.2.1]; exact hd)
  obtain ⟨v, B, X', hpost, hsteps⟩ := hK m meth c ⟨T.setVm vm₁, locs, cells, slots⟩ { F0 m pc ls (st.map (zva w)) with stack := rest.map (zva w) } (.invokespecial idx) mk (Value.ref (zad w b) :: As.map (zva w)).toArray X₁ rfl (by rw [hC.2.2.1]; exact hL.1) (by rw [hC.2.1]; exact hd) hrest (X₁.named hnamed) ⟨h3, h4, zPc_of (As := .ref b :: As) hC hP (T.setVm vm₁) hT X₁.warmed⟩
  obtain ⟨g', mk', t, Lo, e1, e2, hq, q1, hLo, q2, q3⟩ := hpost
  obtain ⟨BU, Bl, Bc, Bs⟩ := B
  dsimp only [Pt.U, Pt.locs, Pt.cells, Pt.slots] at X' e1 e2 q1 q2 q3 hsteps
  subst q1; subst q2; subst q3
  exact ⟨v, (T.setVm vm₁).calling g' mk' (Value.ref (zad w b) :: As.map (zva w)).toArray, t, BU, Lo, hT, X', hLo, e1, e2, hq, fun target ht => hstep₁ _ (by rw [doInvoke_state]; exact hsteps.trans ht)⟩

theorem eJ3_checkIndex {w : zW} {d : Nat} {μ : zM} {i N : Int32} {o : Option Nat} (h1 : ¬ i < 0) (h2 : i < N) (hd : 1 ≤ d) : EV w d 0 0 YJ3_checkIndex_8e157 0 [some (.int i), some (.int N), some (va_rf o)] [] μ (fun v μ1 => v = some (.int i) ∧ μ1 = μ) := by
  refine ev_iload_n dJ3_checkIndex_8e157_0 rfl rfl ?_
  refine ev_if_lt_f dJ3_checkIndex_8e157_1 (tgt := 9) (by decide) h1 ?_
  refine ev_iload_n dJ3_checkIndex_8e157_4 rfl rfl ?_
  refine ev_iload_n dJ3_checkIndex_8e157_5 rfl rfl ?_
  refine ev_icmp_lt_t dJ3_checkIndex_8e157_6 (tgt := 16) (by decide) h2 ?_
  refine ev_iload_n dJ3_checkIndex_8e157_16 rfl rfl ?_
  exact ev_end_i dJ3_checkIndex_8e157_17 rfl rfl ⟨rfl, rfl⟩
theorem eJ0_checkIndex {w : zW} {d : Nat} {μ : zM} {i N : Int32} (h1 : ¬ i < 0) (h2 : i < N) (hd : 2 ≤ d) : EV w d 0 0 YJ0_checkIndex_df160 0 [some (.int i), some (.int N)] [] μ (fun v μ1 => v = none ∧ μ1 = μ) := by
  refine ev_iload_n dJ0_checkIndex_df160_0 rfl rfl ?_
  refine ev_iload_n dJ0_checkIndex_df160_1 rfl rfl ?_
  refine ev_getsQ dJ0_checkIndex_df160_2 zf_java_lang_String_1053 ?_
  have e0 : zL0 [Value.int i, Value.int N, va_rf (zsio w)] YJ3_checkIndex_8e157.2.2.1 = [some (.int i), some (.int N), some (va_rf (zsio w))] := by cases zsio w <;> rfl
  refine ev_callS0 dJ0_checkIndex_df160_5 zmJ3_checkIndex_8e157 zl_java_lang_String_1059 zsJ3_checkIndex_8e157 (As := [.int i, .int N, va_rf (zsio w)]) (rest := []) rfl rfl (Nat.le_of_ble_eq_true rfl) e0 (by cases zsio w <;> exact Nat.le_of_ble_eq_true rfl) (d' := 1) (by omega) (eJ3_checkIndex h1 h2 (Nat.le_refl _)) (fun v μ1 q => ?_)
  obtain ⟨rfl, rfl⟩ := q
  refine ev_pop dJ0_checkIndex_df160_8 rfl ?_
  exact ev_end_v dJ0_checkIndex_df160_9 rfl ⟨rfl, rfl⟩
theorem zib_cmp {i : Int32} {N : Nat} (h : zib i N = true) (hN : N < 2 ^ 31) : ¬ i < 0 ∧ i < Int32.ofNat N := by
  unfold zib at h
  simp only [Bool.and_eq_true, decide_eq_true_eq] at h
  refine ⟨Int32.not_lt.mpr h.1, ?_⟩
  obtain ⟨j, hj, rfl⟩ := nI_of (Int32.not_lt.mpr h.1)
  rw [nI_clamp hj] at h
  exact nI_lt h.2 hN
theorem zSlen_small : ∀ i, i < 12 → zSlen.getD i 0 < 2 ^ 31 := by decide +kernel
theorem eJ1_charAt_3b067 {w : zW} {d : Nat} {n : Nat} {kd : zMK} {I : zMI} {R : zMR} {r : Int32} {l0 : Nat} {l1 : Int32} (hw : zst w = zSt0) (hS : zSh n kd) (hd : 3 ≤ d) (h : fJ1_charAt_3b067 l0 l1 = some r) : EV w d 0 0 YJ1_charAt_3b067 0 [some (.ref (14 + l0)), some (.int l1)] [] (n, kd, I, R) (fun v μ1 => v = some (.int r) ∧ μ1 = (n, kd, I, R)) := by
  unfold fJ1_charAt_3b067 at h
  obtain ⟨g1, h⟩ := zgd h
  obtain ⟨g2, h⟩ := zgd h
  have hc := zib_cmp g2 (zSlen_small _ (of_decide_eq_true g1))
  refine ev_iload_n dJ1_charAt_3b067_0 rfl rfl ?_
  refine ev_aload_n dJ1_charAt_3b067_1 rfl rfl ?_
  refine ev_blen (i := l0) dJ1_charAt_3b067_2 (of_decide_eq_true g1) rfl ?_
  refine ev_callS0 dJ1_charAt_3b067_3 zmJ0_checkIndex_df160 zl_java_lang_StringLatin1_9 zsJ0_checkIndex_df160 (As := [.int l1, .int (Int32.ofNat (zSlen.getD l0 0))]) (rest := []) rfl rfl (Nat.le_of_ble_eq_true rfl) rfl (Nat.le_of_ble_eq_true rfl) (d' := 2) (by omega) (eJ0_checkIndex hc.1 hc.2 (Nat.le_refl _)) (fun v μ1 q => ?_)
  obtain ⟨rfl, rfl⟩ := q
  refine ev_aload_n dJ1_charAt_3b067_6 rfl rfl ?_
  refine ev_iload_n dJ1_charAt_3b067_7 rfl rfl ?_
  refine ev_bald (i := l0) dJ1_charAt_3b067_8 (of_decide_eq_true g1) (zib_in g2) rfl ?_
  refine ev_sipush dJ1_charAt_3b067_9 (v := (255 : Int32)) zcs_255 ?_
  refine ev_iand dJ1_charAt_3b067_12 rfl ?_
  refine ev_i2c dJ1_charAt_3b067_13 rfl ?_
  obtain rfl := Option.some.inj h
  exact ev_end_i dJ1_charAt_3b067_14 rfl (pk_nc _) ⟨rfl, rfl⟩
/-- where a text's reader calls itself -/
def zPR (w : zW) (e n : Nat) (kd : zMK) (R : zMR) (rc : Nat → Int32 → zMI → Option zMI) : Prop :=
  (∀ (o : Int32) (I r : zMI), rc 0 o I = some r → EV w e 0 0 Y7_readOr 0 [some (.ref 37), some (.int o), none] [] (n, kd, I, R) (fun v μ1 => v = none ∧ μ1 = (n, kd, r, R))) ∧
  (∀ (o : Int32) (I r : zMI), rc 1 o I = some r → EV w e 0 0 Y7_readNot 0 [some (.ref 37), some (.int o), none] [] (n, kd, I, R) (fun v μ1 => v = none ∧ μ1 = (n, kd, r, R))) ∧
  (∀ (o : Int32) (I r : zMI), rc 2 o I = some r → EV w e 0 0 Y7_readOne 0 [some (.ref 37), some (.int o)] [] (n, kd, I, R) (fun v μ1 => v = none ∧ μ1 = (n, kd, r, R)))

abbrev q2_beginGoing (n : Nat) (kd : zMK) (R : zMR) (r : zMI) : Option Value → zM → Prop := fun v μ1 => v = none ∧ μ1 = (n, kd, r, R)
set_option maxHeartbeats 4000000 in
set_option maxRecDepth 100000 in
theorem e2_beginGoing {w : zW} {d : Nat} {n : Nat} {kd : zMK} {I : zMI} {R : zMR} {r : zMI} {l0 : Nat} {l1 : Int32} {l2 : Int32} (hw : zst w = zSt0) (hS : zSh n kd) (hd : 1 ≤ d)  (h : f2_beginGoing l0 l1 l2 I = some r) : EV w d 0 0 Y2_beginGoing 0 [some (.ref l0), some (.int l1), some (.int l2)] [] (n, kd, I, R) (q2_beginGoing n kd R r) := by
  unfold f2_beginGoing at h
  refine ev_aload_n dX2_beginGoing_0 rfl rfl ?_
  refine ev_iload_n dX2_beginGoing_1 rfl rfl ?_
  obtain ⟨g1, h⟩ := zgd h
  obtain ⟨J2, e3, h⟩ := zld h
  refine em_putI dX2_beginGoing_2 zf_NineHeaps_Heap_15 (Or.inl rfl) rfl rfl rfl (zHpB_has hS g1) e3 ?_
  refine ev_aload_n dX2_beginGoing_5 rfl rfl ?_
  refine ev_iload_n dX2_beginGoing_6 rfl rfl ?_
  obtain ⟨J4, e5, h⟩ := zld h
  refine em_putI dX2_beginGoing_7 zf_NineHeaps_Heap_18 (Or.inl rfl) rfl rfl rfl (zHpB_has hS g1) e5 ?_
  refine ev_aload_n dX2_beginGoing_10 rfl rfl ?_
  refine ev_iconst dX2_beginGoing_11 (v := (0 : Int32)) zci_0 ?_
  obtain ⟨J6, e7, h⟩ := zld h
  refine em_putI dX2_beginGoing_12 zf_NineHeaps_Heap_21 (Or.inl rfl) rfl rfl rfl (zHpB_has hS g1) e7 ?_
  refine ev_aload_n dX2_beginGoing_15 rfl rfl ?_
  refine ev_iconst dX2_beginGoing_16 (v := (0 : Int32)) zci_0 ?_
  obtain ⟨J8, e9, h⟩ := zld h
  refine em_putI dX2_beginGoing_17 zf_NineHeaps_Heap_24 (Or.inl rfl) rfl rfl rfl (zHpB_has hS g1) e9 ?_
  refine ev_aload_n dX2_beginGoing_20 rfl rfl ?_
  refine ev_iconst dX2_beginGoing_21 (v := (-1 : Int32)) zci_m1 ?_
  obtain ⟨J10, e11, h⟩ := zld h
  refine em_putI dX2_beginGoing_22 zf_NineHeaps_Heap_27 (Or.inl rfl) rfl rfl rfl (zHpB_has hS g1) e11 ?_
  refine ev_aload_n dX2_beginGoing_25 rfl rfl ?_
  refine ev_iconst dX2_beginGoing_26 (v := (0 : Int32)) zci_0 ?_
  obtain ⟨J12, e13, h⟩ := zld h
  refine em_putI dX2_beginGoing_27 zf_NineHeaps_Heap_30 (Or.inl rfl) rfl rfl rfl (zHpB_has hS g1) e13 ?_
  obtain rfl := Option.some.inj h
  exact ev_end_v dX2_beginGoing_30 rfl ⟨rfl, rfl⟩
abbrev q2_lift (n : Nat) (kd : zMK) (R : zMR) (r : Int32 × zMI) : Option Value → zM → Prop := fun v μ1 => v = some (.int r.1) ∧ μ1 = (n, kd, r.2, R)
set_option maxHeartbeats 4000000 in
set_option maxRecDepth 100000 in
theorem e2_lift_B87 {w : zW} {d : Nat} {n : Nat} {kd : zMK} {R : zMR} {r : Int32 × zMI}  (hw : zst w = zSt0) (hS : zSh n kd) (hd : 1 ≤ d)   : ∀ (l2 : Int32) (I : zMI), f2_lift_B87 l2 I = some r → EV w d 0 0 Y2_lift 87 [none, none, some (.int l2)] [] (n, kd, I, R) (q2_lift n kd R r) := by
  intro l2 I h
  unfold f2_lift_B87 at h
  refine ev_iload_n dX2_lift_87 rfl rfl ?_
  obtain ⟨x2, e3, h⟩ := zld h
  have k4 : EV w d 0 0 Y2_lift 96 [none, none, some (.int l2)] [.int x2] (n, kd, I, R) (q2_lift n kd R r) := by
    obtain rfl := Option.some.inj h
    exact ev_end_i dX2_lift_96 rfl rfl ⟨rfl, rfl⟩
  clear h
  have h := e3
  clear e3
  refine ev_if_eq dX2_lift_88 (tgt := 95) (by decide) (fun c1 => ?_) (fun c1 => ?_)
  · replace h := zit c1 h
    refine ev_iconst dX2_lift_95 (v := (0 : Int32)) zci_0 ?_
    obtain rfl := h
    exact k4
  · replace h := zif c1 h
    refine ev_iconst dX2_lift_91 (v := (1 : Int32)) zci_1 ?_
    refine ev_goto dX2_lift_92 (tgt := 96) (by decide) ?_
    obtain rfl := h
    exact k4
set_option maxHeartbeats 4000000 in
set_option maxRecDepth 100000 in
theorem e2_lift {w : zW} {d : Nat} {n : Nat} {kd : zMK} {I : zMI} {R : zMR} {r : Int32 × zMI} {l0 : Nat} {l1 : Int32} (hw : zst w = zSt0) (hS : zSh n kd) (hd : 1 ≤ d)  (h : f2_lift l0 l1 I = some r) : EV w d 0 0 Y2_lift 0 [some (.ref l0), some (.int l1), none] [] (n, kd, I, R) (q2_lift n kd R r) := by
  unfold f2_lift at h
  refine ev_aload_n dX2_lift_0 rfl rfl ?_
  obtain ⟨g5, h⟩ := zgd h
  refine em_getI dX2_lift_1 zf_NineHeaps_Heap_15 rfl (zHpB_has hS g5) rfl ?_
  refine ev_if_gt dX2_lift_4 (tgt := 14) (by decide) (fun c6 => ?_) (fun c6 => ?_)
  · replace h := zit c6 h
    refine ev_aload_n dX2_lift_14 rfl rfl ?_
    refine ev_dup dX2_lift_15 rfl ?_
    refine em_getI dX2_lift_16 zf_NineHeaps_Heap_21 rfl (zHpB_has hS g5) rfl ?_
    refine ev_iconst dX2_lift_19 (v := (1 : Int32)) zci_1 ?_
    refine ev_iadd dX2_lift_20 rfl ?_
    obtain ⟨J7, e8, h⟩ := zld h
    refine em_putI dX2_lift_21 zf_NineHeaps_Heap_21 (Or.inl rfl) rfl rfl rfl (zHpB_has hS g5) e8 ?_
    refine ev_aload_n dX2_lift_24 rfl rfl ?_
    refine em_getI dX2_lift_25 zf_NineHeaps_Heap_18 rfl (zHpB_has hS g5) rfl ?_
    obtain ⟨x13, e14, h⟩ := zbd h
    have k24 : EV w d 0 0 Y2_lift 56 [some (.ref l0), some (.int l1), none] [.int x13] (n, kd, J7, R) (q2_lift n kd R r) := by
      refine ev_istore_n dX2_lift_56 rfl (by decide) rfl ?_
      refine ev_aload_n dX2_lift_57 rfl rfl ?_
      refine ev_dup dX2_lift_58 rfl ?_
      refine em_getI dX2_lift_59 zf_NineHeaps_Heap_15 rfl (zHpB_has hS g5) rfl ?_
      refine ev_iload_n dX2_lift_62 rfl rfl ?_
      obtain ⟨x16, e17, h⟩ := zld h
      have k23 : EV w d 0 0 Y2_lift 71 [some (.ref l0), some (.int l1), some (.int x13)] [.int x16, .int (J7 l0 1), .ref l0] (n, kd, J7, R) (q2_lift n kd R r) := by
        refine ev_isub dX2_lift_71 rfl ?_
        obtain ⟨J18, e19, h⟩ := zld h
        refine em_putI dX2_lift_72 zf_NineHeaps_Heap_15 (Or.inl rfl) rfl rfl rfl (zHpB_has hS g5) e19 ?_
        refine ev_aload_n dX2_lift_75 rfl rfl ?_
        refine em_getI dX2_lift_76 zf_NineHeaps_Heap_15 rfl (zHpB_has hS g5) rfl ?_
        refine ev_if_ne dX2_lift_79 (tgt := 87) (by decide) (fun c20 => ?_) (fun c20 => ?_)
        · replace h := zif c20 h
          exact EV.mask [false, false, true] rfl (e2_lift_B87 hw hS hd x13 J18 h)
        · replace h := zit c20 h
          refine ev_aload_n dX2_lift_82 rfl rfl ?_
          refine ev_iload_n dX2_lift_83 rfl rfl ?_
          obtain ⟨J21, e22, h⟩ := zld h
          refine em_putI dX2_lift_84 zf_NineHeaps_Heap_27 (Or.inl rfl) rfl rfl rfl (zHpB_has hS g5) e22 ?_
          exact EV.mask [false, false, true] rfl (e2_lift_B87 hw hS hd x13 J21 h)
      clear h
      have h := e17
      clear e17
      refine ev_if_eq dX2_lift_63 (tgt := 70) (by decide) (fun c15 => ?_) (fun c15 => ?_)
      · replace h := zit c15 h
        refine ev_iconst dX2_lift_70 (v := (1 : Int32)) zci_1 ?_
        obtain rfl := h
        exact k23
      · replace h := zif c15 h
        refine ev_iconst dX2_lift_66 (v := (2 : Int32)) zci_2 ?_
        refine ev_goto dX2_lift_67 (tgt := 71) (by decide) ?_
        obtain rfl := h
        exact k23
    clear h
    have h := e14
    clear e14
    refine ev_if_eq dX2_lift_28 (tgt := 55) (by decide) (fun c9 => ?_) (fun c9 => ?_)
    · replace h := zit c9 h
      refine ev_iconst dX2_lift_55 (v := (0 : Int32)) zci_0 ?_
      obtain rfl := Option.some.inj h
      exact k24
    · replace h := zif c9 h
      refine ev_aload_n dX2_lift_31 rfl rfl ?_
      refine em_getI dX2_lift_32 zf_NineHeaps_Heap_21 rfl (zHpB_has hS g5) rfl ?_
      refine ev_aload_n dX2_lift_35 rfl rfl ?_
      refine em_getI dX2_lift_36 zf_NineHeaps_Heap_18 rfl (zHpB_has hS g5) rfl ?_
      obtain ⟨g10, h⟩ := zgd h
      refine ev_irem dX2_lift_39 g10 rfl ?_
      refine ev_if_ne dX2_lift_40 (tgt := 55) (by decide) (fun c11 => ?_) (fun c11 => ?_)
      · replace h := zif c11 h
        refine ev_iconst dX2_lift_55 (v := (0 : Int32)) zci_0 ?_
        obtain rfl := Option.some.inj h
        exact k24
      · replace h := zit c11 h
        refine ev_aload_n dX2_lift_43 rfl rfl ?_
        refine em_getI dX2_lift_44 zf_NineHeaps_Heap_15 rfl (zHpB_has hS g5) rfl ?_
        refine ev_iconst dX2_lift_47 (v := (2 : Int32)) zci_2 ?_
        refine ev_icmp_lt dX2_lift_48 (tgt := 55) (by decide) (fun c12 => ?_) (fun c12 => ?_)
        · replace h := zit c12 h
          refine ev_iconst dX2_lift_55 (v := (0 : Int32)) zci_0 ?_
          obtain rfl := Option.some.inj h
          exact k24
        · replace h := zif c12 h
          refine ev_iconst dX2_lift_51 (v := (1 : Int32)) zci_1 ?_
          refine ev_goto dX2_lift_52 (tgt := 56) (by decide) ?_
          obtain rfl := Option.some.inj h
          exact k24
  · replace h := zif c6 h
    refine ev_aload_n dX2_lift_7 rfl rfl ?_
    refine ev_iconst dX2_lift_8 (v := (1 : Int32)) zci_1 ?_
    obtain ⟨J25, e26, h⟩ := zld h
    refine em_putI dX2_lift_9 zf_NineHeaps_Heap_30 (Or.inl rfl) rfl rfl rfl (zHpB_has hS g5) e26 ?_
    refine ev_iconst dX2_lift_12 (v := (2 : Int32)) zci_2 ?_
    obtain rfl := Option.some.inj h
    exact ev_end_i dX2_lift_13 rfl rfl ⟨rfl, rfl⟩
abbrev qJ7_fill_53178 (n : Nat) (kd : zMK) (R : zMR) (r : zMI) : Option Value → zM → Prop := fun v μ1 => v = none ∧ μ1 = (n, kd, r, R)
set_option maxHeartbeats 4000000 in
set_option maxRecDepth 100000 in
theorem eJ7_fill_53178_L5 {w : zW} {d : Nat} {n : Nat} {kd : zMK} {R : zMR} {r : zMI}  (hw : zst w = zSt0) (hS : zSh n kd) (hd : 1 ≤ d)   : ∀ (q : Nat) (l0 : Nat) (l1 : Int32) (l2 : Int32) (l3 : Int32) (I : zMI), fJ7_fill_53178_L5 n kd q l0 l1 l2 l3 I = some r → EV w d 0 0 YJ7_fill_53178 5 [some (.ref l0), some (.int l1), some (.int l2), some (.int l3)] [] (n, kd, I, R) (qJ7_fill_53178 n kd R r) := by
  intro q
  induction q with
  | zero =>
    intro l0 l1 l2 l3 I h
    cases h
  | succ q ih =>
    intro l0 l1 l2 l3 I h
    unfold fJ7_fill_53178_L5 at h
    refine ev_iload_n dJ7_fill_53178_5 rfl rfl ?_
    refine ev_iload_n dJ7_fill_53178_6 rfl rfl ?_
    refine ev_icmp_ge dJ7_fill_53178_7 (tgt := 20) (by decide) (fun c1 => ?_) (fun c1 => ?_)
    · replace h := zit c1 h
      obtain rfl := Option.some.inj h
      exact ev_end_v dJ7_fill_53178_20 rfl ⟨rfl, rfl⟩
    · replace h := zif c1 h
      refine ev_aload_n dJ7_fill_53178_10 rfl rfl ?_
      refine ev_iload_n dJ7_fill_53178_11 rfl rfl ?_
      refine ev_iload_n dJ7_fill_53178_12 rfl rfl ?_
      obtain ⟨g2, h⟩ := zgd h
      obtain ⟨g3, h⟩ := zgd h
      obtain ⟨J4, e5, h⟩ := zld h
      refine em_iastG dJ7_fill_53178_13 (zKdB_hasR hS (by decide) g2) (N := (kd l0).2) rfl g3 e5 ?_
      refine ev_iinc dJ7_fill_53178_14 (v := l2 + (1 : Int32)) rfl rfl (by decide) rfl ?_
      refine ev_goto dJ7_fill_53178_17 (tgt := 5) (by decide) ?_
      exact EV.mask [true, true, true, true] rfl (ih l0 l1 (l2 + (1 : Int32)) l3 J4 h)
set_option maxHeartbeats 4000000 in
set_option maxRecDepth 100000 in
theorem eJ7_fill_53178 {w : zW} {d : Nat} {n : Nat} {kd : zMK} {I : zMI} {R : zMR} {r : zMI} {l0 : Nat} {l1 : Int32} (hw : zst w = zSt0) (hS : zSh n kd) (hd : 1 ≤ d)  (h : fJ7_fill_53178 n kd l0 l1 I = some r) : EV w d 0 0 YJ7_fill_53178 0 [some (.ref l0), some (.int l1), none, none] [] (n, kd, I, R) (qJ7_fill_53178 n kd R r) := by
  unfold fJ7_fill_53178 at h
  refine ev_iconst dJ7_fill_53178_0 (v := (0 : Int32)) zci_0 ?_
  refine ev_istore_n dJ7_fill_53178_1 rfl (by decide) rfl ?_
  refine ev_aload_n dJ7_fill_53178_2 rfl rfl ?_
  obtain ⟨g6, h⟩ := zgd h
  refine em_alen dJ7_fill_53178_3 (zKdB_hasR hS (by decide) g6) (by decide) rfl rfl ?_
  obtain ⟨x7, e8, h⟩ := zld h
  refine ev_nm e8 ?_
  refine ev_istore_n dJ7_fill_53178_4 rfl (by decide) rfl ?_
  exact EV.mask [true, true, true, true] rfl (eJ7_fill_53178_L5 hw hS hd zF l0 l1 (0 : Int32) x7 I h)
abbrev q6_become (n : Nat) (kd : zMK) (R : zMR) (r : zMI) : Option Value → zM → Prop := fun v μ1 => v = none ∧ μ1 = (n, kd, r, R)
set_option maxHeartbeats 4000000 in
set_option maxRecDepth 100000 in
theorem e6_become {w : zW} {d : Nat} {n : Nat} {kd : zMK} {I : zMI} {R : zMR} {r : zMI} {l0 : Nat} {l1 : Int32} {l2 : Int32} (hw : zst w = zSt0) (hS : zSh n kd) (hd : 2 ≤ d)  (h : f6_become n kd l0 l1 l2 I = some r) : EV w d 0 0 Y6_become 0 [some (.ref l0), some (.int l1), some (.int l2)] [] (n, kd, I, R) (q6_become n kd R r) := by
  unfold f6_become at h
  refine ev_aload_n dX6_become_0 rfl rfl ?_
  refine ev_iload_n dX6_become_1 rfl rfl ?_
  obtain ⟨g1, h⟩ := zgd h
  obtain ⟨J2, e3, h⟩ := zld h
  refine em_putI dX6_become_2 zf_NineHeaps_Sheet_9 (Or.inl rfl) rfl rfl rfl (zSeB_has hS g1).1 e3 ?_
  refine ev_aload_n dX6_become_5 rfl rfl ?_
  refine ev_iconst dX6_become_6 (v := (0 : Int32)) zci_0 ?_
  refine ev_iload_n dX6_become_7 rfl rfl ?_
  refine ev_bipush dX6_become_8 (v := (40 : Int32)) zcb_40 ?_
  obtain ⟨x4, e5, h⟩ := zld h
  refine ev_min dX6_become_10 zl_NineHeaps_Sheet_19 zmm_min_s zn_java_lang_Math zmm_min_c (by omega) (Nat.le_of_ble_eq_true rfl) e5 ?_
  obtain ⟨x6, e7, h⟩ := zld h
  refine ev_max dX6_become_13 zl_NineHeaps_Sheet_25 zmm_max_s zn_java_lang_Math zmm_max_c (by omega) (Nat.le_of_ble_eq_true rfl) e7 ?_
  obtain ⟨J8, e9, h⟩ := zld h
  refine em_putI dX6_become_16 zf_NineHeaps_Sheet_28 (Or.inl rfl) rfl rfl rfl (zSeB_has hS g1).1 e9 ?_
  refine ev_aload_n dX6_become_19 rfl rfl ?_
  refine em_getA dX6_become_20 zf_NineHeaps_Sheet_15 rfl (zSeB_has hS g1).1 hw (zSeB_has hS g1).2.2.2 ?_
  refine ev_iconst dX6_become_23 (v := (0 : Int32)) zci_0 ?_
  obtain ⟨p10, e11, h⟩ := zbd h
  refine ev_callS0 dX6_become_24 zmJ7_fill_53178 zl_NineHeaps_Sheet_31 zsJ7_fill_53178 (As := [.ref (l0 + 1), .int (0 : Int32)]) (rest := []) rfl rfl (Nat.le_of_ble_eq_true rfl) rfl (Nat.le_of_ble_eq_true rfl) (d' := 1) (by omega) (eJ7_fill_53178 hw hS (Nat.le_refl _) e11) (fun v μ1 q => ?_)
  obtain ⟨rfl, rfl⟩ := q
  obtain rfl := Option.some.inj h
  exact ev_end_v dX6_become_27 rfl ⟨rfl, rfl⟩
abbrev q6_missing (n : Nat) (kd : zMK) (I : zMI) (R : zMR) (r : Int32) : Option Value → zM → Prop := fun v μ1 => v = some (.int r) ∧ μ1 = (n, kd, I, R)
set_option maxHeartbeats 4000000 in
set_option maxRecDepth 100000 in
theorem e6_missing {w : zW} {d : Nat} {n : Nat} {kd : zMK} {I : zMI} {R : zMR} {r : Int32} {l0 : Nat} (hw : zst w = zSt0) (hS : zSh n kd) (hd : 1 ≤ d)  (h : f6_missing I l0 = some r) : EV w d 0 0 Y6_missing 0 [some (.ref l0)] [] (n, kd, I, R) (q6_missing n kd I R r) := by
  unfold f6_missing at h
  refine ev_aload_n dX6_missing_0 rfl rfl ?_
  obtain ⟨g1, h⟩ := zgd h
  refine em_getI dX6_missing_1 zf_NineHeaps_Sheet_9 rfl (zSeB_has hS g1).1 rfl ?_
  refine ev_iconst dX6_missing_4 (v := (-1 : Int32)) zci_m1 ?_
  obtain ⟨x3, e4, h⟩ := zld h
  have k6 : EV w d 0 0 Y6_missing 13 [some (.ref l0)] [.int x3] (n, kd, I, R) (q6_missing n kd I R r) := by
    obtain ⟨g5, h⟩ := zgd h
    obtain rfl := Option.some.inj h
    exact ev_end_i dX6_missing_13 rfl (zbB_n g5) ⟨rfl, rfl⟩
  clear h
  have h := e4
  clear e4
  refine ev_icmp_ne dX6_missing_5 (tgt := 12) (by decide) (fun c2 => ?_) (fun c2 => ?_)
  · replace h := zif c2 h
    refine ev_iconst dX6_missing_12 (v := (0 : Int32)) zci_0 ?_
    obtain rfl := h
    exact k6
  · replace h := zit c2 h
    refine ev_iconst dX6_missing_8 (v := (1 : Int32)) zci_1 ?_
    refine ev_goto dX6_missing_9 (tgt := 13) (by decide) ?_
    obtain rfl := h
    exact k6
abbrev q6_holds (n : Nat) (kd : zMK) (I : zMI) (R : zMR) (r : Int32) : Option Value → zM → Prop := fun v μ1 => v = some (.int r) ∧ μ1 = (n, kd, I, R)
set_option maxHeartbeats 4000000 in
set_option maxRecDepth 100000 in
theorem e6_holds {w : zW} {d : Nat} {n : Nat} {kd : zMK} {I : zMI} {R : zMR} {r : Int32} {l0 : Nat} {l1 : Int32} {l2 : Int32} (hw : zst w = zSt0) (hS : zSh n kd) (hd : 1 ≤ d)  (h : f6_holds I l0 l1 l2 = some r) : EV w d 0 0 Y6_holds 0 [some (.ref l0), some (.int l1), some (.int l2)] [] (n, kd, I, R) (q6_holds n kd I R r) := by
  unfold f6_holds at h
  refine ev_iload_n dX6_holds_0 rfl rfl ?_
  obtain ⟨x5, e6, h⟩ := zbd h
  have k8 : EV w d 0 0 Y6_holds 23 [some (.ref l0), some (.int l1), some (.int l2)] [.int x5] (n, kd, I, R) (q6_holds n kd I R r) := by
    obtain ⟨g7, h⟩ := zgd h
    obtain rfl := Option.some.inj h
    exact ev_end_i dX6_holds_23 rfl (zbB_n g7) ⟨rfl, rfl⟩
  clear h
  have h := e6
  clear e6
  refine ev_if_lt dX6_holds_1 (tgt := 22) (by decide) (fun c1 => ?_) (fun c1 => ?_)
  · replace h := zit c1 h
    refine ev_iconst dX6_holds_22 (v := (0 : Int32)) zci_0 ?_
    obtain rfl := Option.some.inj h
    exact k8
  · replace h := zif c1 h
    refine ev_iload_n dX6_holds_4 rfl rfl ?_
    refine ev_if_lt dX6_holds_5 (tgt := 22) (by decide) (fun c2 => ?_) (fun c2 => ?_)
    · replace h := zit c2 h
      refine ev_iconst dX6_holds_22 (v := (0 : Int32)) zci_0 ?_
      obtain rfl := Option.some.inj h
      exact k8
    · replace h := zif c2 h
      refine ev_iload_n dX6_holds_8 rfl rfl ?_
      refine ev_aload_n dX6_holds_9 rfl rfl ?_
      obtain ⟨g3, h⟩ := zgd h
      refine em_getI dX6_holds_10 zf_NineHeaps_Sheet_28 rfl (zSeB_has hS g3).1 rfl ?_
      refine ev_iload_n dX6_holds_13 rfl rfl ?_
      refine ev_isub dX6_holds_14 rfl ?_
      refine ev_icmp_gt dX6_holds_15 (tgt := 22) (by decide) (fun c4 => ?_) (fun c4 => ?_)
      · replace h := zit c4 h
        refine ev_iconst dX6_holds_22 (v := (0 : Int32)) zci_0 ?_
        obtain rfl := Option.some.inj h
        exact k8
      · replace h := zif c4 h
        refine ev_iconst dX6_holds_18 (v := (1 : Int32)) zci_1 ?_
        refine ev_goto dX6_holds_19 (tgt := 23) (by decide) ?_
        obtain rfl := Option.some.inj h
        exact k8
abbrev q6_put (n : Nat) (kd : zMK) (R : zMR) (r : zMI) : Option Value → zM → Prop := fun v μ1 => v = none ∧ μ1 = (n, kd, r, R)
set_option maxHeartbeats 4000000 in
set_option maxRecDepth 100000 in
theorem e6_put {w : zW} {d : Nat} {n : Nat} {kd : zMK} {I : zMI} {R : zMR} {r : zMI} {l0 : Nat} {l1 : Int32} {l2 : Int32} (hw : zst w = zSt0) (hS : zSh n kd) (hd : 2 ≤ d)  (h : f6_put l0 l1 l2 I = some r) : EV w d 0 0 Y6_put 0 [some (.ref l0), some (.int l1), some (.int l2)] [] (n, kd, I, R) (q6_put n kd R r) := by
  unfold f6_put at h
  refine ev_aload_n dX6_put_0 rfl rfl ?_
  refine ev_iload_n dX6_put_1 rfl rfl ?_
  refine ev_iconst dX6_put_2 (v := (1 : Int32)) zci_1 ?_
  obtain ⟨g1, h⟩ := zgd h
  obtain ⟨p2, e3, h⟩ := zbd h
  refine ev_callV0 dX6_put_3 zm6_holds zl_NineHeaps_Sheet_37 zi6_holds zv6_holds (zrcSe hS g1) (As := [.int l1, .int (1 : Int32)]) (rest := []) rfl rfl (Nat.le_of_ble_eq_true rfl) rfl (Nat.le_of_ble_eq_true rfl) (d' := 1) (by omega) (e6_holds hw hS (Nat.le_refl _) e3) (fun v μ1 q => ?_)
  obtain ⟨rfl, rfl⟩ := q
  refine ev_if_eq dX6_put_6 (tgt := 41) (by decide) (fun c4 => ?_) (fun c4 => ?_)
  · replace h := zit c4 h
    obtain rfl := Option.some.inj h
    exact ev_end_v dX6_put_41 rfl ⟨rfl, rfl⟩
  · replace h := zif c4 h
    refine ev_aload_n dX6_put_9 rfl rfl ?_
    refine em_getA dX6_put_10 zf_NineHeaps_Sheet_15 rfl (zSeB_has hS g1).1 hw (zSeB_has hS g1).2.2.2 ?_
    refine ev_iload_n dX6_put_13 rfl rfl ?_
    refine ev_aload_n dX6_put_14 rfl rfl ?_
    refine em_getI dX6_put_15 zf_NineHeaps_Sheet_9 rfl (zSeB_has hS g1).1 rfl ?_
    obtain ⟨x7, e8, h⟩ := zld h
    have k12 : EV w d 0 0 Y6_put 40 [some (.ref l0), some (.int l1), some (.int l2)] [.int x7, .int l1, .ref (l0 + 1)] (n, kd, I, R) (q6_put n kd R r) := by
      obtain ⟨g9, h⟩ := zgd h
      obtain ⟨J10, e11, h⟩ := zld h
      refine em_iastG dX6_put_40 (zSeB_has hS g1).2.1 (N := 40) (zSeB_has hS g1).2.2.1 g9 e11 ?_
      obtain rfl := Option.some.inj h
      exact ev_end_v dX6_put_41 rfl ⟨rfl, rfl⟩
    clear h
    have h := e8
    clear e8
    refine ev_if_ne dX6_put_18 (tgt := 26) (by decide) (fun c5 => ?_) (fun c5 => ?_)
    · replace h := zif c5 h
      refine ev_aload_n dX6_put_26 rfl rfl ?_
      refine em_getI dX6_put_27 zf_NineHeaps_Sheet_9 rfl (zSeB_has hS g1).1 rfl ?_
      refine ev_iconst dX6_put_30 (v := (1 : Int32)) zci_1 ?_
      refine ev_icmp_ne dX6_put_31 (tgt := 39) (by decide) (fun c6 => ?_) (fun c6 => ?_)
      · replace h := zif c6 h
        refine ev_iload_n dX6_put_39 rfl rfl ?_
        obtain rfl := h
        exact k12
      · replace h := zit c6 h
        refine ev_iload_n dX6_put_34 rfl rfl ?_
        refine ev_i2s dX6_put_35 rfl ?_
        refine ev_goto dX6_put_36 (tgt := 40) (by decide) ?_
        obtain rfl := h
        exact k12
    · replace h := zit c5 h
      refine ev_iload_n dX6_put_21 rfl rfl ?_
      refine ev_i2b dX6_put_22 rfl ?_
      refine ev_goto dX6_put_23 (tgt := 40) (by decide) ?_
      obtain rfl := h
      exact k12
abbrev qJ0_coder_7d493 (n : Nat) (kd : zMK) (I : zMI) (R : zMR) (r : Int32) : Option Value → zM → Prop := fun v μ1 => v = some (.int r) ∧ μ1 = (n, kd, I, R)
set_option maxHeartbeats 4000000 in
set_option maxRecDepth 100000 in
theorem eJ0_coder_7d493 {w : zW} {d : Nat} {n : Nat} {kd : zMK} {I : zMI} {R : zMR} {r : Int32} {l0 : Nat} (hw : zst w = zSt0) (hS : zSh n kd) (hd : 1 ≤ d)  (h : fJ0_coder_7d493 l0 = some r) : EV w d 0 0 YJ0_coder_7d493 0 [some (.ref (2 + l0))] [] (n, kd, I, R) (qJ0_coder_7d493 n kd I R r) := by
  unfold fJ0_coder_7d493 at h
  refine ev_getsC dJ0_coder_7d493_0 zf_java_lang_String_38 ?_
  obtain ⟨x3, e4, h⟩ := zbd h
  have k6 : EV w d 0 0 YJ0_coder_7d493 14 [some (.ref (2 + l0))] [.int x3] (n, kd, I, R) (qJ0_coder_7d493 n kd I R r) := by
    obtain ⟨g5, h⟩ := zgd h
    obtain rfl := Option.some.inj h
    exact ev_end_i dJ0_coder_7d493_14 rfl (zbyt_n g5) ⟨rfl, rfl⟩
  clear h
  have h := e4
  clear e4
  refine ev_if_eq_f dJ0_coder_7d493_3 (tgt := 13) (by decide) (by decide) ?_
  refine ev_aload_n dJ0_coder_7d493_6 rfl rfl ?_
  obtain ⟨g2, h⟩ := zgd h
  refine ev_strC (i := l0) dJ0_coder_7d493_7 (of_decide_eq_true g2) zf_java_lang_String_15 ?_
  refine ev_goto dJ0_coder_7d493_10 (tgt := 14) (by decide) ?_
  obtain rfl := Option.some.inj h
  exact k6
abbrev qJ0_length_8abf5 (n : Nat) (kd : zMK) (I : zMI) (R : zMR) (r : Int32) : Option Value → zM → Prop := fun v μ1 => v = some (.int r) ∧ μ1 = (n, kd, I, R)
set_option maxHeartbeats 4000000 in
set_option maxRecDepth 100000 in
theorem eJ0_length_8abf5 {w : zW} {d : Nat} {n : Nat} {kd : zMK} {I : zMI} {R : zMR} {r : Int32} {l0 : Nat} (hw : zst w = zSt0) (hS : zSh n kd) (hd : 2 ≤ d)  (h : fJ0_length_8abf5 l0 = some r) : EV w d 0 0 YJ0_length_8abf5 0 [some (.ref (2 + l0))] [] (n, kd, I, R) (qJ0_length_8abf5 n kd I R r) := by
  unfold fJ0_length_8abf5 at h
  refine ev_aload_n dJ0_length_8abf5_0 rfl rfl ?_
  obtain ⟨g1, h⟩ := zgd h
  refine ev_strV (i := l0) dJ0_length_8abf5_1 (of_decide_eq_true g1) zf_java_lang_String_9 ?_
  refine ev_blen (i := l0) dJ0_length_8abf5_4 (of_decide_eq_true g1) rfl ?_
  refine ev_aload_n dJ0_length_8abf5_5 rfl rfl ?_
  obtain ⟨p2, e3, h⟩ := zbd h
  refine ev_callV0 dJ0_length_8abf5_6 zmJ0_coder_7d493 zl_java_lang_String_335 ziJ0_coder_7d493 zvJ0_coder_7d493 (zrcv_str (of_decide_eq_true g1)) (As := []) (rest := [.int (Int32.ofNat (zSlen.getD l0 0))]) rfl rfl (Nat.le_of_ble_eq_true rfl) rfl (Nat.le_of_ble_eq_true rfl) (d' := 1) (by omega) (eJ0_coder_7d493 hw hS (Nat.le_refl _) e3) (fun v μ1 q => ?_)
  obtain ⟨rfl, rfl⟩ := q
  refine ev_ishr dJ0_length_8abf5_9 rfl ?_
  obtain rfl := Option.some.inj h
  exact ev_end_i dJ0_length_8abf5_10 rfl rfl ⟨rfl, rfl⟩
abbrev qJ0_isLatin1_aae02 (n : Nat) (kd : zMK) (I : zMI) (R : zMR) (r : Int32) : Option Value → zM → Prop := fun v μ1 => v = some (.int r) ∧ μ1 = (n, kd, I, R)
set_option maxHeartbeats 4000000 in
set_option maxRecDepth 100000 in
theorem eJ0_isLatin1_aae02 {w : zW} {d : Nat} {n : Nat} {kd : zMK} {I : zMI} {R : zMR} {r : Int32} {l0 : Nat} (hw : zst w = zSt0) (hS : zSh n kd) (hd : 1 ≤ d)  (h : fJ0_isLatin1_aae02 l0 = some r) : EV w d 0 0 YJ0_isLatin1_aae02 0 [some (.ref (2 + l0))] [] (n, kd, I, R) (qJ0_isLatin1_aae02 n kd I R r) := by
  unfold fJ0_isLatin1_aae02 at h
  refine ev_getsC dJ0_isLatin1_aae02_0 zf_java_lang_String_38 ?_
  obtain ⟨x4, e5, h⟩ := zbd h
  have k7 : EV w d 0 0 YJ0_isLatin1_aae02 18 [some (.ref (2 + l0))] [.int x4] (n, kd, I, R) (qJ0_isLatin1_aae02 n kd I R r) := by
    obtain ⟨g6, h⟩ := zgd h
    obtain rfl := Option.some.inj h
    exact ev_end_i dJ0_isLatin1_aae02_18 rfl (zbB_n g6) ⟨rfl, rfl⟩
  clear h
  have h := e5
  clear e5
  refine ev_if_eq_f dJ0_isLatin1_aae02_3 (tgt := 17) (by decide) (by decide) ?_
  refine ev_aload_n dJ0_isLatin1_aae02_6 rfl rfl ?_
  obtain ⟨g2, h⟩ := zgd h
  refine ev_strC (i := l0) dJ0_isLatin1_aae02_7 (of_decide_eq_true g2) zf_java_lang_String_15 ?_
  refine ev_if_ne_f dJ0_isLatin1_aae02_10 (tgt := 17) (by decide) (by decide) ?_
  refine ev_iconst dJ0_isLatin1_aae02_13 (v := (1 : Int32)) zci_1 ?_
  refine ev_goto dJ0_isLatin1_aae02_14 (tgt := 18) (by decide) ?_
  obtain rfl := Option.some.inj h
  exact k7
abbrev qJ0_charAt_5068e (n : Nat) (kd : zMK) (I : zMI) (R : zMR) (r : Int32) : Option Value → zM → Prop := fun v μ1 => v = some (.int r) ∧ μ1 = (n, kd, I, R)
set_option maxHeartbeats 4000000 in
set_option maxRecDepth 100000 in
theorem eJ0_charAt_5068e {w : zW} {d : Nat} {n : Nat} {kd : zMK} {I : zMI} {R : zMR} {r : Int32} {l0 : Nat} {l1 : Int32} (hw : zst w = zSt0) (hS : zSh n kd) (hd : 4 ≤ d)  (h : fJ0_charAt_5068e l0 l1 = some r) : EV w d 0 0 YJ0_charAt_5068e 0 [some (.ref (2 + l0)), some (.int l1)] [] (n, kd, I, R) (qJ0_charAt_5068e n kd I R r) := by
  unfold fJ0_charAt_5068e at h
  refine ev_aload_n dJ0_charAt_5068e_0 rfl rfl ?_
  obtain ⟨g1, h⟩ := zgd h
  obtain ⟨p2, e3, h⟩ := zbd h
  refine ev_callV0 dJ0_charAt_5068e_1 zmJ0_isLatin1_aae02 zl_java_lang_String_492 ziJ0_isLatin1_aae02 zvJ0_isLatin1_aae02 (zrcv_str (of_decide_eq_true g1)) (As := []) (rest := []) rfl rfl (Nat.le_of_ble_eq_true rfl) rfl (Nat.le_of_ble_eq_true rfl) (d' := 1) (by omega) (eJ0_isLatin1_aae02 hw hS (Nat.le_refl _) e3) (fun v μ1 q => ?_)
  obtain ⟨rfl, rfl⟩ := q
  refine ev_if_eq dJ0_charAt_5068e_4 (tgt := 16) (by decide) (fun c4 => ?_) (fun c4 => ?_)
  · replace h := zit c4 h
    refine ev_aload_n dJ0_charAt_5068e_16 rfl rfl ?_
    refine ev_strV (i := l0) dJ0_charAt_5068e_17 (of_decide_eq_true g1) zf_java_lang_String_9 ?_
    refine ev_iload_n dJ0_charAt_5068e_20 rfl rfl ?_
    cases h
  · replace h := zif c4 h
    refine ev_aload_n dJ0_charAt_5068e_7 rfl rfl ?_
    refine ev_strV (i := l0) dJ0_charAt_5068e_8 (of_decide_eq_true g1) zf_java_lang_String_9 ?_
    refine ev_iload_n dJ0_charAt_5068e_11 rfl rfl ?_
    obtain ⟨p5, e6, h⟩ := zbd h
    refine ev_callS0 dJ0_charAt_5068e_12 zmJ1_charAt_3b067 zl_java_lang_String_495 zsJ1_charAt_3b067 (As := [.ref (14 + l0), .int l1]) (rest := []) rfl rfl (Nat.le_of_ble_eq_true rfl) rfl (Nat.le_of_ble_eq_true rfl) (d' := 3) (by omega) (eJ1_charAt_3b067 hw hS (Nat.le_refl _) e6) (fun v μ1 q => ?_)
    obtain ⟨rfl, rfl⟩ := q
    obtain ⟨g7, h⟩ := zgd h
    obtain rfl := Option.some.inj h
    exact ev_end_i dJ0_charAt_5068e_15 rfl (zchr_n g7) ⟨rfl, rfl⟩
abbrev q1_kind (n : Nat) (kd : zMK) (I : zMI) (R : zMR) (r : Int32) : Option Value → zM → Prop := fun v μ1 => v = some (.int r) ∧ μ1 = (n, kd, I, R)
set_option maxHeartbeats 4000000 in
set_option maxRecDepth 100000 in
theorem e1_kind {w : zW} {d : Nat} {n : Nat} {kd : zMK} {I : zMI} {R : zMR} {r : Int32} {l0 : Nat} (hw : zst w = zSt0) (hS : zSh n kd) (hd : 1 ≤ d)  (h : f1_kind l0 = some r) : EV w d 0 0 Y1_kind 0 [some (.ref l0)] [] (n, kd, I, R) (q1_kind n kd I R r) := by
  unfold f1_kind at h
  refine ev_iconst dX1_kind_0 (v := (4 : Int32)) zci_4 ?_
  obtain rfl := Option.some.inj h
  exact ev_end_i dX1_kind_1 rfl rfl ⟨rfl, rfl⟩
abbrev q8_takesFor (n : Nat) (kd : zMK) (I : zMI) (R : zMR) (r : Int32) : Option Value → zM → Prop := fun v μ1 => v = some (.int r) ∧ μ1 = (n, kd, I, R)
set_option maxHeartbeats 4000000 in
set_option maxRecDepth 100000 in
theorem e8_takesFor {w : zW} {d : Nat} {n : Nat} {kd : zMK} {I : zMI} {R : zMR} {r : Int32} {l0 : Nat} {l1 : Int32} {l2 : Int32} (hw : zst w = zSt0) (hS : zSh n kd) (hd : 1 ≤ d)  (h : f8_takesFor n kd I l0 l1 l2 = some r) : EV w d 0 0 Y8_takesFor 0 [some (.ref l0), some (.int l1), some (.int l2)] [] (n, kd, I, R) (q8_takesFor n kd I R r) := by
  unfold f8_takesFor at h
  refine ev_iload_n dX8_takesFor_0 rfl rfl ?_
  refine ev_aload_n dX8_takesFor_1 rfl rfl ?_
  obtain ⟨g1, h⟩ := zgd h
  obtain ⟨cg1, wg1, yg1⟩ := zWkB_hasR hS g1
  refine em_getI dX8_takesFor_2 (zf_NineHeaps_Thumbed_11 wg1) (by rcases wg1 with rfl | rfl | rfl | rfl | rfl | rfl <;> rfl) yg1 rfl ?_
  refine ev_iconst dX8_takesFor_5 (v := (2 : Int32)) zci_2 ?_
  refine ev_idiv dX8_takesFor_6 (by decide) rfl ?_
  refine ev_iadd dX8_takesFor_7 rfl ?_
  obtain rfl := Option.some.inj h
  exact ev_end_i dX8_takesFor_8 rfl rfl ⟨rfl, rfl⟩
abbrev q1_takesFor (n : Nat) (kd : zMK) (I : zMI) (R : zMR) (r : Int32) : Option Value → zM → Prop := fun v μ1 => v = some (.int r) ∧ μ1 = (n, kd, I, R)
set_option maxHeartbeats 4000000 in
set_option maxRecDepth 100000 in
theorem e1_takesFor {w : zW} {d : Nat} {n : Nat} {kd : zMK} {I : zMI} {R : zMR} {r : Int32} {l0 : Nat} {l1 : Int32} {l2 : Int32} (hw : zst w = zSt0) (hS : zSh n kd) (hd : 2 ≤ d)  (h : f1_takesFor n kd I l0 l1 l2 = some r) : EV w d 0 0 Y1_takesFor 0 [some (.ref l0), some (.int l1), some (.int l2)] [] (n, kd, I, R) (q1_takesFor n kd I R r) := by
  unfold f1_takesFor at h
  refine ev_aload_n dX1_takesFor_0 rfl rfl ?_
  refine ev_iload_n dX1_takesFor_1 rfl rfl ?_
  refine ev_iload_n dX1_takesFor_2 rfl rfl ?_
  obtain ⟨g1, h⟩ := zgd h
  obtain ⟨cg1, wg1, yg1⟩ := zWkB_hasR hS g1
  obtain ⟨p2, e3, h⟩ := zbd h
  refine ev_callP0 dX1_takesFor_3 zm8_takesFor zl_NineHeaps_Grandfather_11 zw_NineHeaps_Thumbed_NineHeaps_Thumbed_takesFor zu1 zi8_takesFor (by decide) ⟨cg1, zWc_lt wg1, rfl, yg1⟩ (As := [.int l1, .int l2]) (rest := []) rfl rfl (Nat.le_of_ble_eq_true rfl) rfl (Nat.le_of_ble_eq_true rfl) (d' := 1) (by omega) (e8_takesFor hw hS (Nat.le_refl _) e3) (fun v μ1 q => ?_)
  obtain ⟨rfl, rfl⟩ := q
  refine ev_iload_n dX1_takesFor_6 rfl rfl ?_
  refine ev_aload_n dX1_takesFor_7 rfl rfl ?_
  refine em_getI dX1_takesFor_8 (zf_NineHeaps_Grandfather_15 wg1) (by rcases wg1 with rfl | rfl | rfl | rfl | rfl | rfl <;> rfl) yg1 rfl ?_
  obtain ⟨x5, e6, h⟩ := zld h
  have k7 : EV w d 0 0 Y1_takesFor 19 [some (.ref l0), some (.int l1), some (.int l2)] [.int x5, .int p2] (n, kd, I, R) (q1_takesFor n kd I R r) := by
    refine ev_iadd dX1_takesFor_19 rfl ?_
    obtain rfl := Option.some.inj h
    exact ev_end_i dX1_takesFor_20 rfl rfl ⟨rfl, rfl⟩
  clear h
  have h := e6
  clear e6
  refine ev_icmp_le dX1_takesFor_11 (tgt := 18) (by decide) (fun c4 => ?_) (fun c4 => ?_)
  · replace h := zit c4 h
    refine ev_iconst dX1_takesFor_18 (v := (1 : Int32)) zci_1 ?_
    obtain rfl := h
    exact k7
  · replace h := zif c4 h
    refine ev_iconst dX1_takesFor_14 (v := (2 : Int32)) zci_2 ?_
    refine ev_goto dX1_takesFor_15 (tgt := 19) (by decide) ?_
    obtain rfl := h
    exact k7
abbrev q1_stepFor (n : Nat) (kd : zMK) (I : zMI) (R : zMR) (r : Int32) : Option Value → zM → Prop := fun v μ1 => v = some (.int r) ∧ μ1 = (n, kd, I, R)
set_option maxHeartbeats 4000000 in
set_option maxRecDepth 100000 in
theorem e1_stepFor {w : zW} {d : Nat} {n : Nat} {kd : zMK} {I : zMI} {R : zMR} {r : Int32} {l0 : Nat} {l1 : Int32} (hw : zst w = zSt0) (hS : zSh n kd) (hd : 1 ≤ d)  (h : f1_stepFor l0 l1 = some r) : EV w d 0 0 Y1_stepFor 0 [some (.ref l0), some (.int l1)] [] (n, kd, I, R) (q1_stepFor n kd I R r) := by
  unfold f1_stepFor at h
  refine ev_iload_n dX1_stepFor_0 rfl rfl ?_
  refine ev_iconst dX1_stepFor_1 (v := (2 : Int32)) zci_2 ?_
  refine ev_imul dX1_stepFor_2 rfl ?_
  obtain rfl := Option.some.inj h
  exact ev_end_i dX1_stepFor_3 rfl rfl ⟨rfl, rfl⟩
abbrev q4_kind (n : Nat) (kd : zMK) (I : zMI) (R : zMR) (r : Int32) : Option Value → zM → Prop := fun v μ1 => v = some (.int r) ∧ μ1 = (n, kd, I, R)
set_option maxHeartbeats 4000000 in
set_option maxRecDepth 100000 in
theorem e4_kind {w : zW} {d : Nat} {n : Nat} {kd : zMK} {I : zMI} {R : zMR} {r : Int32} {l0 : Nat} (hw : zst w = zSt0) (hS : zSh n kd) (hd : 1 ≤ d)  (h : f4_kind l0 = some r) : EV w d 0 0 Y4_kind 0 [some (.ref l0)] [] (n, kd, I, R) (q4_kind n kd I R r) := by
  unfold f4_kind at h
  refine ev_iconst dX4_kind_0 (v := (3 : Int32)) zci_3 ?_
  obtain rfl := Option.some.inj h
  exact ev_end_i dX4_kind_1 rfl rfl ⟨rfl, rfl⟩
abbrev q10_takesFor (n : Nat) (kd : zMK) (I : zMI) (R : zMR) (r : Int32) : Option Value → zM → Prop := fun v μ1 => v = some (.int r) ∧ μ1 = (n, kd, I, R)
set_option maxHeartbeats 4000000 in
set_option maxRecDepth 100000 in
theorem e10_takesFor {w : zW} {d : Nat} {n : Nat} {kd : zMK} {I : zMI} {R : zMR} {r : Int32} {l0 : Nat} {l1 : Int32} {l2 : Int32} (hw : zst w = zSt0) (hS : zSh n kd) (hd : 1 ≤ d)  (h : f10_takesFor l0 l1 l2 = some r) : EV w d 0 0 Y10_takesFor 0 [some (.ref l0), some (.int l1), some (.int l2)] [] (n, kd, I, R) (q10_takesFor n kd I R r) := by
  unfold f10_takesFor at h
  refine ev_iload_n dX10_takesFor_0 rfl rfl ?_
  obtain rfl := Option.some.inj h
  exact ev_end_i dX10_takesFor_1 rfl rfl ⟨rfl, rfl⟩
abbrev q4_takesFor (n : Nat) (kd : zMK) (I : zMI) (R : zMR) (r : Int32) : Option Value → zM → Prop := fun v μ1 => v = some (.int r) ∧ μ1 = (n, kd, I, R)
set_option maxHeartbeats 4000000 in
set_option maxRecDepth 100000 in
theorem e4_takesFor {w : zW} {d : Nat} {n : Nat} {kd : zMK} {I : zMI} {R : zMR} {r : Int32} {l0 : Nat} {l1 : Int32} {l2 : Int32} (hw : zst w = zSt0) (hS : zSh n kd) (hd : 2 ≤ d)  (h : f4_takesFor n kd l0 l1 l2 = some r) : EV w d 0 0 Y4_takesFor 0 [some (.ref l0), some (.int l1), some (.int l2)] [] (n, kd, I, R) (q4_takesFor n kd I R r) := by
  unfold f4_takesFor at h
  refine ev_aload_n dX4_takesFor_0 rfl rfl ?_
  refine ev_iload_n dX4_takesFor_1 rfl rfl ?_
  refine ev_iload_n dX4_takesFor_2 rfl rfl ?_
  obtain ⟨g1, h⟩ := zgd h
  obtain ⟨cg1, wg1, yg1⟩ := zWkB_hasR hS g1
  obtain ⟨p2, e3, h⟩ := zbd h
  refine ev_callPI0 dX4_takesFor_3 zm10_takesFor zl_NineHeaps_Passing_11 zw_NineHeaps_Quick_NineHeaps_Walker_takesFor zu4 zi10_takesFor (by decide) (by simp [zNw, RX5, RX10, RX4, RX8, RX1, RX9] <;> rfl) zu10 ⟨cg1, zWc_lt wg1, rfl, yg1⟩ (As := [.int l1, .int l2]) (rest := []) rfl rfl (Nat.le_of_ble_eq_true rfl) rfl (Nat.le_of_ble_eq_true rfl) (d' := 1) (by omega) (e10_takesFor hw hS (Nat.le_refl _) e3) (fun v μ1 q => ?_)
  obtain ⟨rfl, rfl⟩ := q
  refine ev_iconst dX4_takesFor_6 (v := (1 : Int32)) zci_1 ?_
  refine ev_iadd dX4_takesFor_7 rfl ?_
  obtain rfl := Option.some.inj h
  exact ev_end_i dX4_takesFor_8 rfl rfl ⟨rfl, rfl⟩
abbrev q4_waits (n : Nat) (kd : zMK) (I : zMI) (R : zMR) (r : Int32) : Option Value → zM → Prop := fun v μ1 => v = some (.int r) ∧ μ1 = (n, kd, I, R)
set_option maxHeartbeats 4000000 in
set_option maxRecDepth 100000 in
theorem e4_waits {w : zW} {d : Nat} {n : Nat} {kd : zMK} {I : zMI} {R : zMR} {r : Int32} {l0 : Nat} (hw : zst w = zSt0) (hS : zSh n kd) (hd : 1 ≤ d)  (h : f4_waits l0 = some r) : EV w d 0 0 Y4_waits 0 [some (.ref l0)] [] (n, kd, I, R) (q4_waits n kd I R r) := by
  unfold f4_waits at h
  refine ev_iconst dX4_waits_0 (v := (0 : Int32)) zci_0 ?_
  obtain rfl := Option.some.inj h
  exact ev_end_i dX4_waits_1 rfl rfl ⟨rfl, rfl⟩
abbrev q5_kind (n : Nat) (kd : zMK) (I : zMI) (R : zMR) (r : Int32) : Option Value → zM → Prop := fun v μ1 => v = some (.int r) ∧ μ1 = (n, kd, I, R)
set_option maxHeartbeats 4000000 in
set_option maxRecDepth 100000 in
theorem e5_kind {w : zW} {d : Nat} {n : Nat} {kd : zMK} {I : zMI} {R : zMR} {r : Int32} {l0 : Nat} (hw : zst w = zSt0) (hS : zSh n kd) (hd : 1 ≤ d)  (h : f5_kind l0 = some r) : EV w d 0 0 Y5_kind 0 [some (.ref l0)] [] (n, kd, I, R) (q5_kind n kd I R r) := by
  unfold f5_kind at h
  refine ev_iconst dX5_kind_0 (v := (1 : Int32)) zci_1 ?_
  obtain rfl := Option.some.inj h
  exact ev_end_i dX5_kind_1 rfl rfl ⟨rfl, rfl⟩
abbrev q5_stepFor (n : Nat) (kd : zMK) (I : zMI) (R : zMR) (r : Int32) : Option Value → zM → Prop := fun v μ1 => v = some (.int r) ∧ μ1 = (n, kd, I, R)
set_option maxHeartbeats 4000000 in
set_option maxRecDepth 100000 in
theorem e5_stepFor {w : zW} {d : Nat} {n : Nat} {kd : zMK} {I : zMI} {R : zMR} {r : Int32} {l0 : Nat} {l1 : Int32} (hw : zst w = zSt0) (hS : zSh n kd) (hd : 1 ≤ d)  (h : f5_stepFor n kd I l0 l1 = some r) : EV w d 0 0 Y5_stepFor 0 [some (.ref l0), some (.int l1)] [] (n, kd, I, R) (q5_stepFor n kd I R r) := by
  unfold f5_stepFor at h
  refine ev_iload_n dX5_stepFor_0 rfl rfl ?_
  refine ev_aload_n dX5_stepFor_1 rfl rfl ?_
  obtain ⟨g1, h⟩ := zgd h
  obtain ⟨cg1, wg1, yg1⟩ := zWkB_hasR hS g1
  refine em_getI dX5_stepFor_2 (zf_NineHeaps_Quick_11 wg1) (by rcases wg1 with rfl | rfl | rfl | rfl | rfl | rfl <;> rfl) yg1 rfl ?_
  refine ev_iconst dX5_stepFor_5 (v := (3 : Int32)) zci_3 ?_
  refine ev_idiv dX5_stepFor_6 (by decide) rfl ?_
  refine ev_isub dX5_stepFor_7 rfl ?_
  obtain rfl := Option.some.inj h
  exact ev_end_i dX5_stepFor_8 rfl rfl ⟨rfl, rfl⟩
abbrev q8_kind (n : Nat) (kd : zMK) (I : zMI) (R : zMR) (r : Int32) : Option Value → zM → Prop := fun v μ1 => v = some (.int r) ∧ μ1 = (n, kd, I, R)
set_option maxHeartbeats 4000000 in
set_option maxRecDepth 100000 in
theorem e8_kind {w : zW} {d : Nat} {n : Nat} {kd : zMK} {I : zMI} {R : zMR} {r : Int32} {l0 : Nat} (hw : zst w = zSt0) (hS : zSh n kd) (hd : 1 ≤ d)  (h : f8_kind l0 = some r) : EV w d 0 0 Y8_kind 0 [some (.ref l0)] [] (n, kd, I, R) (q8_kind n kd I R r) := by
  unfold f8_kind at h
  refine ev_iconst dX8_kind_0 (v := (2 : Int32)) zci_2 ?_
  obtain rfl := Option.some.inj h
  exact ev_end_i dX8_kind_1 rfl rfl ⟨rfl, rfl⟩
abbrev q9_kind (n : Nat) (kd : zMK) (I : zMI) (R : zMR) (r : Int32) : Option Value → zM → Prop := fun v μ1 => v = some (.int r) ∧ μ1 = (n, kd, I, R)
set_option maxHeartbeats 4000000 in
set_option maxRecDepth 100000 in
theorem e9_kind {w : zW} {d : Nat} {n : Nat} {kd : zMK} {I : zMI} {R : zMR} {r : Int32} {l0 : Nat} (hw : zst w = zSt0) (hS : zSh n kd) (hd : 1 ≤ d)  (h : f9_kind l0 = some r) : EV w d 0 0 Y9_kind 0 [some (.ref l0)] [] (n, kd, I, R) (q9_kind n kd I R r) := by
  unfold f9_kind at h
  refine ev_iconst dX9_kind_0 (v := (5 : Int32)) zci_5 ?_
  obtain rfl := Option.some.inj h
  exact ev_end_i dX9_kind_1 rfl rfl ⟨rfl, rfl⟩
abbrev q9_takesFor (n : Nat) (kd : zMK) (I : zMI) (R : zMR) (r : Int32) : Option Value → zM → Prop := fun v μ1 => v = some (.int r) ∧ μ1 = (n, kd, I, R)
set_option maxHeartbeats 4000000 in
set_option maxRecDepth 100000 in
theorem e9_takesFor {w : zW} {d : Nat} {n : Nat} {kd : zMK} {I : zMI} {R : zMR} {r : Int32} {l0 : Nat} {l1 : Int32} {l2 : Int32} (hw : zst w = zSt0) (hS : zSh n kd) (hd : 1 ≤ d)  (h : f9_takesFor n kd I l0 l1 l2 = some r) : EV w d 0 0 Y9_takesFor 0 [some (.ref l0), some (.int l1), some (.int l2)] [] (n, kd, I, R) (q9_takesFor n kd I R r) := by
  unfold f9_takesFor at h
  refine ev_iload_n dX9_takesFor_0 rfl rfl ?_
  refine ev_aload_n dX9_takesFor_1 rfl rfl ?_
  obtain ⟨g1, h⟩ := zgd h
  obtain ⟨cg1, wg1, yg1⟩ := zWkB_hasR hS g1
  refine em_getI dX9_takesFor_2 (zf_NineHeaps_Two_11 wg1) (by rcases wg1 with rfl | rfl | rfl | rfl | rfl | rfl <;> rfl) yg1 rfl ?_
  obtain ⟨x3, e4, h⟩ := zld h
  have k5 : EV w d 0 0 Y9_takesFor 15 [some (.ref l0), some (.int l1), some (.int l2)] [.int x3] (n, kd, I, R) (q9_takesFor n kd I R r) := by
    obtain rfl := Option.some.inj h
    exact ev_end_i dX9_takesFor_15 rfl rfl ⟨rfl, rfl⟩
  clear h
  have h := e4
  clear e4
  refine ev_icmp_lt dX9_takesFor_5 (tgt := 14) (by decide) (fun c2 => ?_) (fun c2 => ?_)
  · replace h := zit c2 h
    refine ev_iload_n dX9_takesFor_14 rfl rfl ?_
    obtain rfl := h
    exact k5
  · replace h := zif c2 h
    refine ev_iload_n dX9_takesFor_8 rfl rfl ?_
    refine ev_iconst dX9_takesFor_9 (v := (2 : Int32)) zci_2 ?_
    refine ev_idiv dX9_takesFor_10 (by decide) rfl ?_
    refine ev_goto dX9_takesFor_11 (tgt := 15) (by decide) ?_
    obtain rfl := h
    exact k5
abbrev q10_kind (n : Nat) (kd : zMK) (I : zMI) (R : zMR) (r : Int32) : Option Value → zM → Prop := fun v μ1 => v = some (.int r) ∧ μ1 = (n, kd, I, R)
set_option maxHeartbeats 4000000 in
set_option maxRecDepth 100000 in
theorem e10_kind {w : zW} {d : Nat} {n : Nat} {kd : zMK} {I : zMI} {R : zMR} {r : Int32} {l0 : Nat} (hw : zst w = zSt0) (hS : zSh n kd) (hd : 1 ≤ d)  (h : f10_kind l0 = some r) : EV w d 0 0 Y10_kind 0 [some (.ref l0)] [] (n, kd, I, R) (q10_kind n kd I R r) := by
  unfold f10_kind at h
  refine ev_iconst dX10_kind_0 (v := (0 : Int32)) zci_0 ?_
  obtain rfl := Option.some.inj h
  exact ev_end_i dX10_kind_1 rfl rfl ⟨rfl, rfl⟩
abbrev q10_stepFor (n : Nat) (kd : zMK) (I : zMI) (R : zMR) (r : Int32) : Option Value → zM → Prop := fun v μ1 => v = some (.int r) ∧ μ1 = (n, kd, I, R)
set_option maxHeartbeats 4000000 in
set_option maxRecDepth 100000 in
theorem e10_stepFor {w : zW} {d : Nat} {n : Nat} {kd : zMK} {I : zMI} {R : zMR} {r : Int32} {l0 : Nat} {l1 : Int32} (hw : zst w = zSt0) (hS : zSh n kd) (hd : 1 ≤ d)  (h : f10_stepFor l0 l1 = some r) : EV w d 0 0 Y10_stepFor 0 [some (.ref l0), some (.int l1)] [] (n, kd, I, R) (q10_stepFor n kd I R r) := by
  unfold f10_stepFor at h
  refine ev_iload_n dX10_stepFor_0 rfl rfl ?_
  obtain rfl := Option.some.inj h
  exact ev_end_i dX10_stepFor_1 rfl rfl ⟨rfl, rfl⟩
abbrev q10_waits (n : Nat) (kd : zMK) (I : zMI) (R : zMR) (r : Int32) : Option Value → zM → Prop := fun v μ1 => v = some (.int r) ∧ μ1 = (n, kd, I, R)
set_option maxHeartbeats 4000000 in
set_option maxRecDepth 100000 in
theorem e10_waits {w : zW} {d : Nat} {n : Nat} {kd : zMK} {I : zMI} {R : zMR} {r : Int32} {l0 : Nat} (hw : zst w = zSt0) (hS : zSh n kd) (hd : 1 ≤ d)  (h : f10_waits l0 = some r) : EV w d 0 0 Y10_waits 0 [some (.ref l0)] [] (n, kd, I, R) (q10_waits n kd I R r) := by
  unfold f10_waits at h
  refine ev_iconst dX10_waits_0 (v := (1 : Int32)) zci_1 ?_
  obtain rfl := Option.some.inj h
  exact ev_end_i dX10_waits_1 rfl rfl ⟨rfl, rfl⟩
abbrev q10_beginGoing (n : Nat) (kd : zMK) (R : zMR) (r : zMI) : Option Value → zM → Prop := fun v μ1 => v = none ∧ μ1 = (n, kd, r, R)
set_option maxHeartbeats 4000000 in
set_option maxRecDepth 100000 in
theorem e10_beginGoing {w : zW} {d : Nat} {n : Nat} {kd : zMK} {I : zMI} {R : zMR} {r : zMI} {l0 : Nat} (hw : zst w = zSt0) (hS : zSh n kd) (hd : 1 ≤ d)  (h : f10_beginGoing n kd l0 I = some r) : EV w d 0 0 Y10_beginGoing 0 [some (.ref l0)] [] (n, kd, I, R) (q10_beginGoing n kd R r) := by
  unfold f10_beginGoing at h
  refine ev_aload_n dX10_beginGoing_0 rfl rfl ?_
  refine ev_aload_n dX10_beginGoing_1 rfl rfl ?_
  obtain ⟨g1, h⟩ := zgd h
  obtain ⟨cg1, wg1, yg1⟩ := zWkB_hasR hS g1
  refine em_getI dX10_beginGoing_2 (zf_NineHeaps_Walker_16 wg1) (by rcases wg1 with rfl | rfl | rfl | rfl | rfl | rfl <;> rfl) yg1 rfl ?_
  obtain ⟨J2, e3, h⟩ := zld h
  refine em_putI dX10_beginGoing_5 (zf_NineHeaps_Walker_19 wg1)  (by rcases wg1 with rfl | rfl | rfl | rfl | rfl | rfl <;> exact Or.inl rfl)  (by rcases wg1 with rfl | rfl | rfl | rfl | rfl | rfl <;> rfl)  (by rcases wg1 with rfl | rfl | rfl | rfl | rfl | rfl <;> rfl) (by rcases wg1 with rfl | rfl | rfl | rfl | rfl | rfl <;> rfl) yg1 e3 ?_
  refine ev_aload_n dX10_beginGoing_8 rfl rfl ?_
  refine ev_iconst dX10_beginGoing_9 (v := (1 : Int32)) zci_1 ?_
  obtain ⟨J4, e5, h⟩ := zld h
  refine em_putI dX10_beginGoing_10 (zf_NineHeaps_Walker_22 wg1)  (by rcases wg1 with rfl | rfl | rfl | rfl | rfl | rfl <;> exact Or.inl rfl)  (by rcases wg1 with rfl | rfl | rfl | rfl | rfl | rfl <;> rfl)  (by rcases wg1 with rfl | rfl | rfl | rfl | rfl | rfl <;> rfl) (by rcases wg1 with rfl | rfl | rfl | rfl | rfl | rfl <;> rfl) yg1 e5 ?_
  refine ev_aload_n dX10_beginGoing_13 rfl rfl ?_
  refine ev_iconst dX10_beginGoing_14 (v := (0 : Int32)) zci_0 ?_
  obtain ⟨J6, e7, h⟩ := zld h
  refine em_putI dX10_beginGoing_15 (zf_NineHeaps_Walker_25 wg1)  (by rcases wg1 with rfl | rfl | rfl | rfl | rfl | rfl <;> exact Or.inl rfl)  (by rcases wg1 with rfl | rfl | rfl | rfl | rfl | rfl <;> rfl)  (by rcases wg1 with rfl | rfl | rfl | rfl | rfl | rfl <;> rfl) (by rcases wg1 with rfl | rfl | rfl | rfl | rfl | rfl <;> rfl) yg1 e7 ?_
  refine ev_aload_n dX10_beginGoing_18 rfl rfl ?_
  refine ev_iconst dX10_beginGoing_19 (v := (0 : Int32)) zci_0 ?_
  obtain ⟨J8, e9, h⟩ := zld h
  refine em_putI dX10_beginGoing_20 (zf_NineHeaps_Walker_28 wg1)  (by rcases wg1 with rfl | rfl | rfl | rfl | rfl | rfl <;> exact Or.inl rfl)  (by rcases wg1 with rfl | rfl | rfl | rfl | rfl | rfl <;> rfl)  (by rcases wg1 with rfl | rfl | rfl | rfl | rfl | rfl <;> rfl) (by rcases wg1 with rfl | rfl | rfl | rfl | rfl | rfl <;> rfl) yg1 e9 ?_
  refine ev_aload_n dX10_beginGoing_23 rfl rfl ?_
  refine ev_iconst dX10_beginGoing_24 (v := (0 : Int32)) zci_0 ?_
  obtain ⟨J10, e11, h⟩ := zld h
  refine em_putI dX10_beginGoing_25 (zf_NineHeaps_Walker_31 wg1)  (by rcases wg1 with rfl | rfl | rfl | rfl | rfl | rfl <;> exact Or.inl rfl)  (by rcases wg1 with rfl | rfl | rfl | rfl | rfl | rfl <;> rfl)  (by rcases wg1 with rfl | rfl | rfl | rfl | rfl | rfl <;> rfl) (by rcases wg1 with rfl | rfl | rfl | rfl | rfl | rfl <;> rfl) yg1 e11 ?_
  refine ev_aload_n dX10_beginGoing_28 rfl rfl ?_
  refine ev_iconst dX10_beginGoing_29 (v := (0 : Int32)) zci_0 ?_
  obtain ⟨J12, e13, h⟩ := zld h
  refine em_putI dX10_beginGoing_30 (zf_NineHeaps_Walker_34 wg1)  (by rcases wg1 with rfl | rfl | rfl | rfl | rfl | rfl <;> exact Or.inl rfl)  (by rcases wg1 with rfl | rfl | rfl | rfl | rfl | rfl <;> rfl)  (by rcases wg1 with rfl | rfl | rfl | rfl | rfl | rfl <;> rfl) (by rcases wg1 with rfl | rfl | rfl | rfl | rfl | rfl <;> rfl) yg1 e13 ?_
  refine ev_aload_n dX10_beginGoing_33 rfl rfl ?_
  refine ev_iconst dX10_beginGoing_34 (v := (0 : Int32)) zci_0 ?_
  obtain ⟨J14, e15, h⟩ := zld h
  refine em_putI dX10_beginGoing_35 (zf_NineHeaps_Walker_37 wg1)  (by rcases wg1 with rfl | rfl | rfl | rfl | rfl | rfl <;> exact Or.inl rfl)  (by rcases wg1 with rfl | rfl | rfl | rfl | rfl | rfl <;> rfl)  (by rcases wg1 with rfl | rfl | rfl | rfl | rfl | rfl <;> rfl) (by rcases wg1 with rfl | rfl | rfl | rfl | rfl | rfl <;> rfl) yg1 e15 ?_
  refine ev_aload_n dX10_beginGoing_38 rfl rfl ?_
  refine ev_iconst dX10_beginGoing_39 (v := (0 : Int32)) zci_0 ?_
  obtain ⟨J16, e17, h⟩ := zld h
  refine em_putI dX10_beginGoing_40 (zf_NineHeaps_Walker_41 wg1)  (by rcases wg1 with rfl | rfl | rfl | rfl | rfl | rfl <;> exact Or.inl rfl)  (by rcases wg1 with rfl | rfl | rfl | rfl | rfl | rfl <;> rfl)  (by rcases wg1 with rfl | rfl | rfl | rfl | rfl | rfl <;> rfl) (by rcases wg1 with rfl | rfl | rfl | rfl | rfl | rfl <;> rfl) yg1 e17 ?_
  obtain rfl := Option.some.inj h
  exact ev_end_v dX10_beginGoing_43 rfl ⟨rfl, rfl⟩

theorem ec_kind {w : zW} {d kc ks : Nat} {y : zY} {pc : Nat} {L : List (Option Value)} {rest : List Value} {n : Nat} {kd : zMK} {I : zMI} {R : zMR} {Q : Option Value → zM → Prop} {idx a : Nat}  {r : Int32} (hd : decode y.2.1 pc = .ok (.invokevirtual idx, 3)) (hl : Cond.methodLink y.1.cls idx yX10_kind ∈ zGT) (hw : zst w = zSt0) (hS : zSh n kd) (g : zWkB n kd a = true) (h : fv_kind n kd I a  = some r) (hdd : 4 ≤ d) (hr : (rest.map fun v => v.category).sum ≤ 8)
    (k : EV w d kc ks y (pc + 3) L (.int r :: rest) (n, kd, I, R) Q) : EV w d kc ks y pc L (.ref a :: rest) (n, kd, I, R) Q := by
  obtain ⟨c, hc, hh⟩ := zWkB_hasR hS g
  unfold fv_kind at h
  rcases hc with rfl | rfl | rfl | rfl | rfl | rfl
  · simp only [hh.2.2, Nat.reduceAdd, Nat.reduceEqDiff, if_true, if_false, reduceIte] at h
    refine ev_callU0 (x := yX10_kind) (C := RX1) hd zm1_kind hl zw_NineHeaps_Walker_NineHeaps_Walker_kind zi10_kind zm10_kind.1 zv_1_kind_NineHeaps_Grandfather_10_kind zi1_kind (by decide) rfl (zRc.rcv ⟨1, by decide, rfl, hh⟩) (As := []) (rest := rest) rfl rfl hr rfl (Nat.le_of_ble_eq_true rfl) (d' := 1) (by omega) (e1_kind hw hS (Nat.le_refl _) h) (fun v μ1 q => ?_)
    obtain ⟨rfl, rfl⟩ := q
    exact k
  · simp only [hh.2.2, Nat.reduceAdd, Nat.reduceEqDiff, if_true, if_false, reduceIte] at h
    refine ev_callU0 (x := yX10_kind) (C := RX4) hd zm4_kind hl zw_NineHeaps_Walker_NineHeaps_Walker_kind zi10_kind zm10_kind.1 zv_4_kind_NineHeaps_Passing_10_kind zi4_kind (by decide) rfl (zRc.rcv ⟨4, by decide, rfl, hh⟩) (As := []) (rest := rest) rfl rfl hr rfl (Nat.le_of_ble_eq_true rfl) (d' := 1) (by omega) (e4_kind hw hS (Nat.le_refl _) h) (fun v μ1 q => ?_)
    obtain ⟨rfl, rfl⟩ := q
    exact k
  · simp only [hh.2.2, Nat.reduceAdd, Nat.reduceEqDiff, if_true, if_false, reduceIte] at h
    refine ev_callU0 (x := yX10_kind) (C := RX5) hd zm5_kind hl zw_NineHeaps_Walker_NineHeaps_Walker_kind zi10_kind zm10_kind.1 zv_5_kind_NineHeaps_Quick_10_kind zi5_kind (by decide) rfl (zRc.rcv ⟨5, by decide, rfl, hh⟩) (As := []) (rest := rest) rfl rfl hr rfl (Nat.le_of_ble_eq_true rfl) (d' := 1) (by omega) (e5_kind hw hS (Nat.le_refl _) h) (fun v μ1 q => ?_)
    obtain ⟨rfl, rfl⟩ := q
    exact k
  · simp only [hh.2.2, Nat.reduceAdd, Nat.reduceEqDiff, if_true, if_false, reduceIte] at h
    refine ev_callU0 (x := yX10_kind) (C := RX8) hd zm8_kind hl zw_NineHeaps_Walker_NineHeaps_Walker_kind zi10_kind zm10_kind.1 zv_8_kind_NineHeaps_Thumbed_10_kind zi8_kind (by decide) rfl (zRc.rcv ⟨8, by decide, rfl, hh⟩) (As := []) (rest := rest) rfl rfl hr rfl (Nat.le_of_ble_eq_true rfl) (d' := 1) (by omega) (e8_kind hw hS (Nat.le_refl _) h) (fun v μ1 q => ?_)
    obtain ⟨rfl, rfl⟩ := q
    exact k
  · simp only [hh.2.2, Nat.reduceAdd, Nat.reduceEqDiff, if_true, if_false, reduceIte] at h
    refine ev_callU0 (x := yX10_kind) (C := RX9) hd zm9_kind hl zw_NineHeaps_Walker_NineHeaps_Walker_kind zi10_kind zm10_kind.1 zv_9_kind_NineHeaps_Two_10_kind zi9_kind (by decide) rfl (zRc.rcv ⟨9, by decide, rfl, hh⟩) (As := []) (rest := rest) rfl rfl hr rfl (Nat.le_of_ble_eq_true rfl) (d' := 1) (by omega) (e9_kind hw hS (Nat.le_refl _) h) (fun v μ1 q => ?_)
    obtain ⟨rfl, rfl⟩ := q
    exact k
  · simp only [hh.2.2, Nat.reduceAdd, Nat.reduceEqDiff, if_true, if_false, reduceIte] at h
    refine ev_callU0 (x := yX10_kind) (C := RX10) hd zm10_kind hl zw_NineHeaps_Walker_NineHeaps_Walker_kind zi10_kind zm10_kind.1 zv10_kind zi10_kind (by decide) rfl (zRc.rcv ⟨10, by decide, rfl, hh⟩) (As := []) (rest := rest) rfl rfl hr rfl (Nat.le_of_ble_eq_true rfl) (d' := 1) (by omega) (e10_kind hw hS (Nat.le_refl _) h) (fun v μ1 q => ?_)
    obtain ⟨rfl, rfl⟩ := q
    exact k

theorem ec_takesFor {w : zW} {d kc ks : Nat} {y : zY} {pc : Nat} {L : List (Option Value)} {rest : List Value} {n : Nat} {kd : zMK} {I : zMI} {R : zMR} {Q : Option Value → zM → Prop} {idx a : Nat} {p0 : Int32} {p1 : Int32} {r : Int32} (hd : decode y.2.1 pc = .ok (.invokevirtual idx, 3)) (hl : Cond.methodLink y.1.cls idx yX10_takesFor ∈ zGT) (hw : zst w = zSt0) (hS : zSh n kd) (g : zWkB n kd a = true) (h : fv_takesFor n kd I a p0 p1 = some r) (hdd : 4 ≤ d) (hr : (rest.map fun v => v.category).sum ≤ 8)
    (k : EV w d kc ks y (pc + 3) L (.int r :: rest) (n, kd, I, R) Q) : EV w d kc ks y pc L (.int p1 :: .int p0 :: .ref a :: rest) (n, kd, I, R) Q := by
  obtain ⟨c, hc, hh⟩ := zWkB_hasR hS g
  unfold fv_takesFor at h
  rcases hc with rfl | rfl | rfl | rfl | rfl | rfl
  · simp only [hh.2.2, Nat.reduceAdd, Nat.reduceEqDiff, if_true, if_false, reduceIte] at h
    refine ev_callU0 (x := yX10_takesFor) (C := RX1) hd zm1_takesFor hl zw_NineHeaps_Walker_NineHeaps_Walker_takesFor zi10_takesFor zm10_takesFor.1 zv_1_takesFor_NineHeaps_Grandfather_10_takesFor zi1_takesFor (by decide) rfl (zRc.rcv ⟨1, by decide, rfl, hh⟩) (As := [.int p0, .int p1]) (rest := rest) rfl rfl hr rfl (Nat.le_of_ble_eq_true rfl) (d' := 2) (by omega) (e1_takesFor hw hS (Nat.le_refl _) h) (fun v μ1 q => ?_)
    obtain ⟨rfl, rfl⟩ := q
    exact k
  · simp only [hh.2.2, Nat.reduceAdd, Nat.reduceEqDiff, if_true, if_false, reduceIte] at h
    refine ev_callU0 (x := yX10_takesFor) (C := RX4) hd zm4_takesFor hl zw_NineHeaps_Walker_NineHeaps_Walker_takesFor zi10_takesFor zm10_takesFor.1 zv_4_takesFor_NineHeaps_Passing_10_takesFor zi4_takesFor (by decide) rfl (zRc.rcv ⟨4, by decide, rfl, hh⟩) (As := [.int p0, .int p1]) (rest := rest) rfl rfl hr rfl (Nat.le_of_ble_eq_true rfl) (d' := 2) (by omega) (e4_takesFor hw hS (Nat.le_refl _) h) (fun v μ1 q => ?_)
    obtain ⟨rfl, rfl⟩ := q
    exact k
  · simp only [hh.2.2, Nat.reduceAdd, Nat.reduceEqDiff, if_true, if_false, reduceIte] at h
    refine ev_callU0 (x := yX10_takesFor) (C := RX5) hd zm10_takesFor hl zw_NineHeaps_Walker_NineHeaps_Walker_takesFor zi10_takesFor zm10_takesFor.1 zv_10_takesFor_NineHeaps_Quick_10_takesFor zi10_takesFor (by decide) rfl (zRc.rcv ⟨5, by decide, rfl, hh⟩) (As := [.int p0, .int p1]) (rest := rest) rfl rfl hr rfl (Nat.le_of_ble_eq_true rfl) (d' := 1) (by omega) (e10_takesFor hw hS (Nat.le_refl _) h) (fun v μ1 q => ?_)
    obtain ⟨rfl, rfl⟩ := q
    exact k
  · simp only [hh.2.2, Nat.reduceAdd, Nat.reduceEqDiff, if_true, if_false, reduceIte] at h
    refine ev_callU0 (x := yX10_takesFor) (C := RX8) hd zm8_takesFor hl zw_NineHeaps_Walker_NineHeaps_Walker_takesFor zi10_takesFor zm10_takesFor.1 zv_8_takesFor_NineHeaps_Thumbed_10_takesFor zi8_takesFor (by decide) rfl (zRc.rcv ⟨8, by decide, rfl, hh⟩) (As := [.int p0, .int p1]) (rest := rest) rfl rfl hr rfl (Nat.le_of_ble_eq_true rfl) (d' := 1) (by omega) (e8_takesFor hw hS (Nat.le_refl _) h) (fun v μ1 q => ?_)
    obtain ⟨rfl, rfl⟩ := q
    exact k
  · simp only [hh.2.2, Nat.reduceAdd, Nat.reduceEqDiff, if_true, if_false, reduceIte] at h
    refine ev_callU0 (x := yX10_takesFor) (C := RX9) hd zm9_takesFor hl zw_NineHeaps_Walker_NineHeaps_Walker_takesFor zi10_takesFor zm10_takesFor.1 zv_9_takesFor_NineHeaps_Two_10_takesFor zi9_takesFor (by decide) rfl (zRc.rcv ⟨9, by decide, rfl, hh⟩) (As := [.int p0, .int p1]) (rest := rest) rfl rfl hr rfl (Nat.le_of_ble_eq_true rfl) (d' := 1) (by omega) (e9_takesFor hw hS (Nat.le_refl _) h) (fun v μ1 q => ?_)
    obtain ⟨rfl, rfl⟩ := q
    exact k
  · simp only [hh.2.2, Nat.reduceAdd, Nat.reduceEqDiff, if_true, if_false, reduceIte] at h
    refine ev_callU0 (x := yX10_takesFor) (C := RX10) hd zm10_takesFor hl zw_NineHeaps_Walker_NineHeaps_Walker_takesFor zi10_takesFor zm10_takesFor.1 zv10_takesFor zi10_takesFor (by decide) rfl (zRc.rcv ⟨10, by decide, rfl, hh⟩) (As := [.int p0, .int p1]) (rest := rest) rfl rfl hr rfl (Nat.le_of_ble_eq_true rfl) (d' := 1) (by omega) (e10_takesFor hw hS (Nat.le_refl _) h) (fun v μ1 q => ?_)
    obtain ⟨rfl, rfl⟩ := q
    exact k

theorem ec_stepFor {w : zW} {d kc ks : Nat} {y : zY} {pc : Nat} {L : List (Option Value)} {rest : List Value} {n : Nat} {kd : zMK} {I : zMI} {R : zMR} {Q : Option Value → zM → Prop} {idx a : Nat} {p0 : Int32} {r : Int32} (hd : decode y.2.1 pc = .ok (.invokevirtual idx, 3)) (hl : Cond.methodLink y.1.cls idx yX10_stepFor ∈ zGT) (hw : zst w = zSt0) (hS : zSh n kd) (g : zWkB n kd a = true) (h : fv_stepFor n kd I a p0 = some r) (hdd : 4 ≤ d) (hr : (rest.map fun v => v.category).sum ≤ 8)
    (k : EV w d kc ks y (pc + 3) L (.int r :: rest) (n, kd, I, R) Q) : EV w d kc ks y pc L (.int p0 :: .ref a :: rest) (n, kd, I, R) Q := by
  obtain ⟨c, hc, hh⟩ := zWkB_hasR hS g
  unfold fv_stepFor at h
  rcases hc with rfl | rfl | rfl | rfl | rfl | rfl
  · simp only [hh.2.2, Nat.reduceAdd, Nat.reduceEqDiff, if_true, if_false, reduceIte] at h
    refine ev_callU0 (x := yX10_stepFor) (C := RX1) hd zm1_stepFor hl zw_NineHeaps_Walker_NineHeaps_Walker_stepFor zi10_stepFor zm10_stepFor.1 zv_1_stepFor_NineHeaps_Grandfather_10_stepFor zi1_stepFor (by decide) rfl (zRc.rcv ⟨1, by decide, rfl, hh⟩) (As := [.int p0]) (rest := rest) rfl rfl hr rfl (Nat.le_of_ble_eq_true rfl) (d' := 1) (by omega) (e1_stepFor hw hS (Nat.le_refl _) h) (fun v μ1 q => ?_)
    obtain ⟨rfl, rfl⟩ := q
    exact k
  · simp only [hh.2.2, Nat.reduceAdd, Nat.reduceEqDiff, if_true, if_false, reduceIte] at h
    refine ev_callU0 (x := yX10_stepFor) (C := RX4) hd zm5_stepFor hl zw_NineHeaps_Walker_NineHeaps_Walker_stepFor zi10_stepFor zm10_stepFor.1 zv_5_stepFor_NineHeaps_Passing_10_stepFor zi5_stepFor (by decide) rfl (zRc.rcv ⟨4, by decide, rfl, hh⟩) (As := [.int p0]) (rest := rest) rfl rfl hr rfl (Nat.le_of_ble_eq_true rfl) (d' := 1) (by omega) (e5_stepFor hw hS (Nat.le_refl _) h) (fun v μ1 q => ?_)
    obtain ⟨rfl, rfl⟩ := q
    exact k
  · simp only [hh.2.2, Nat.reduceAdd, Nat.reduceEqDiff, if_true, if_false, reduceIte] at h
    refine ev_callU0 (x := yX10_stepFor) (C := RX5) hd zm5_stepFor hl zw_NineHeaps_Walker_NineHeaps_Walker_stepFor zi10_stepFor zm10_stepFor.1 zv_5_stepFor_NineHeaps_Quick_10_stepFor zi5_stepFor (by decide) rfl (zRc.rcv ⟨5, by decide, rfl, hh⟩) (As := [.int p0]) (rest := rest) rfl rfl hr rfl (Nat.le_of_ble_eq_true rfl) (d' := 1) (by omega) (e5_stepFor hw hS (Nat.le_refl _) h) (fun v μ1 q => ?_)
    obtain ⟨rfl, rfl⟩ := q
    exact k
  · simp only [hh.2.2, Nat.reduceAdd, Nat.reduceEqDiff, if_true, if_false, reduceIte] at h
    refine ev_callU0 (x := yX10_stepFor) (C := RX8) hd zm10_stepFor hl zw_NineHeaps_Walker_NineHeaps_Walker_stepFor zi10_stepFor zm10_stepFor.1 zv_10_stepFor_NineHeaps_Thumbed_10_stepFor zi10_stepFor (by decide) rfl (zRc.rcv ⟨8, by decide, rfl, hh⟩) (As := [.int p0]) (rest := rest) rfl rfl hr rfl (Nat.le_of_ble_eq_true rfl) (d' := 1) (by omega) (e10_stepFor hw hS (Nat.le_refl _) h) (fun v μ1 q => ?_)
    obtain ⟨rfl, rfl⟩ := q
    exact k
  · simp only [hh.2.2, Nat.reduceAdd, Nat.reduceEqDiff, if_true, if_false, reduceIte] at h
    refine ev_callU0 (x := yX10_stepFor) (C := RX9) hd zm10_stepFor hl zw_NineHeaps_Walker_NineHeaps_Walker_stepFor zi10_stepFor zm10_stepFor.1 zv_10_stepFor_NineHeaps_Two_10_stepFor zi10_stepFor (by decide) rfl (zRc.rcv ⟨9, by decide, rfl, hh⟩) (As := [.int p0]) (rest := rest) rfl rfl hr rfl (Nat.le_of_ble_eq_true rfl) (d' := 1) (by omega) (e10_stepFor hw hS (Nat.le_refl _) h) (fun v μ1 q => ?_)
    obtain ⟨rfl, rfl⟩ := q
    exact k
  · simp only [hh.2.2, Nat.reduceAdd, Nat.reduceEqDiff, if_true, if_false, reduceIte] at h
    refine ev_callU0 (x := yX10_stepFor) (C := RX10) hd zm10_stepFor hl zw_NineHeaps_Walker_NineHeaps_Walker_stepFor zi10_stepFor zm10_stepFor.1 zv10_stepFor zi10_stepFor (by decide) rfl (zRc.rcv ⟨10, by decide, rfl, hh⟩) (As := [.int p0]) (rest := rest) rfl rfl hr rfl (Nat.le_of_ble_eq_true rfl) (d' := 1) (by omega) (e10_stepFor hw hS (Nat.le_refl _) h) (fun v μ1 q => ?_)
    obtain ⟨rfl, rfl⟩ := q
    exact k

theorem ec_waits {w : zW} {d kc ks : Nat} {y : zY} {pc : Nat} {L : List (Option Value)} {rest : List Value} {n : Nat} {kd : zMK} {I : zMI} {R : zMR} {Q : Option Value → zM → Prop} {idx a : Nat}  {r : Int32} (hd : decode y.2.1 pc = .ok (.invokevirtual idx, 3)) (hl : Cond.methodLink y.1.cls idx yX10_waits ∈ zGT) (hw : zst w = zSt0) (hS : zSh n kd) (g : zWkB n kd a = true) (h : fv_waits n kd I a  = some r) (hdd : 4 ≤ d) (hr : (rest.map fun v => v.category).sum ≤ 8)
    (k : EV w d kc ks y (pc + 3) L (.int r :: rest) (n, kd, I, R) Q) : EV w d kc ks y pc L (.ref a :: rest) (n, kd, I, R) Q := by
  obtain ⟨c, hc, hh⟩ := zWkB_hasR hS g
  unfold fv_waits at h
  rcases hc with rfl | rfl | rfl | rfl | rfl | rfl
  · simp only [hh.2.2, Nat.reduceAdd, Nat.reduceEqDiff, if_true, if_false, reduceIte] at h
    refine ev_callU0 (x := yX10_waits) (C := RX1) hd zm10_waits hl zw_NineHeaps_Walker_NineHeaps_Walker_waits zi10_waits zm10_waits.1 zv_10_waits_NineHeaps_Grandfather_10_waits zi10_waits (by decide) rfl (zRc.rcv ⟨1, by decide, rfl, hh⟩) (As := []) (rest := rest) rfl rfl hr rfl (Nat.le_of_ble_eq_true rfl) (d' := 1) (by omega) (e10_waits hw hS (Nat.le_refl _) h) (fun v μ1 q => ?_)
    obtain ⟨rfl, rfl⟩ := q
    exact k
  · simp only [hh.2.2, Nat.reduceAdd, Nat.reduceEqDiff, if_true, if_false, reduceIte] at h
    refine ev_callU0 (x := yX10_waits) (C := RX4) hd zm4_waits hl zw_NineHeaps_Walker_NineHeaps_Walker_waits zi10_waits zm10_waits.1 zv_4_waits_NineHeaps_Passing_10_waits zi4_waits (by decide) rfl (zRc.rcv ⟨4, by decide, rfl, hh⟩) (As := []) (rest := rest) rfl rfl hr rfl (Nat.le_of_ble_eq_true rfl) (d' := 1) (by omega) (e4_waits hw hS (Nat.le_refl _) h) (fun v μ1 q => ?_)
    obtain ⟨rfl, rfl⟩ := q
    exact k
  · simp only [hh.2.2, Nat.reduceAdd, Nat.reduceEqDiff, if_true, if_false, reduceIte] at h
    refine ev_callU0 (x := yX10_waits) (C := RX5) hd zm10_waits hl zw_NineHeaps_Walker_NineHeaps_Walker_waits zi10_waits zm10_waits.1 zv_10_waits_NineHeaps_Quick_10_waits zi10_waits (by decide) rfl (zRc.rcv ⟨5, by decide, rfl, hh⟩) (As := []) (rest := rest) rfl rfl hr rfl (Nat.le_of_ble_eq_true rfl) (d' := 1) (by omega) (e10_waits hw hS (Nat.le_refl _) h) (fun v μ1 q => ?_)
    obtain ⟨rfl, rfl⟩ := q
    exact k
  · simp only [hh.2.2, Nat.reduceAdd, Nat.reduceEqDiff, if_true, if_false, reduceIte] at h
    refine ev_callU0 (x := yX10_waits) (C := RX8) hd zm10_waits hl zw_NineHeaps_Walker_NineHeaps_Walker_waits zi10_waits zm10_waits.1 zv_10_waits_NineHeaps_Thumbed_10_waits zi10_waits (by decide) rfl (zRc.rcv ⟨8, by decide, rfl, hh⟩) (As := []) (rest := rest) rfl rfl hr rfl (Nat.le_of_ble_eq_true rfl) (d' := 1) (by omega) (e10_waits hw hS (Nat.le_refl _) h) (fun v μ1 q => ?_)
    obtain ⟨rfl, rfl⟩ := q
    exact k
  · simp only [hh.2.2, Nat.reduceAdd, Nat.reduceEqDiff, if_true, if_false, reduceIte] at h
    refine ev_callU0 (x := yX10_waits) (C := RX9) hd zm10_waits hl zw_NineHeaps_Walker_NineHeaps_Walker_waits zi10_waits zm10_waits.1 zv_10_waits_NineHeaps_Two_10_waits zi10_waits (by decide) rfl (zRc.rcv ⟨9, by decide, rfl, hh⟩) (As := []) (rest := rest) rfl rfl hr rfl (Nat.le_of_ble_eq_true rfl) (d' := 1) (by omega) (e10_waits hw hS (Nat.le_refl _) h) (fun v μ1 q => ?_)
    obtain ⟨rfl, rfl⟩ := q
    exact k
  · simp only [hh.2.2, Nat.reduceAdd, Nat.reduceEqDiff, if_true, if_false, reduceIte] at h
    refine ev_callU0 (x := yX10_waits) (C := RX10) hd zm10_waits hl zw_NineHeaps_Walker_NineHeaps_Walker_waits zi10_waits zm10_waits.1 zv10_waits zi10_waits (by decide) rfl (zRc.rcv ⟨10, by decide, rfl, hh⟩) (As := []) (rest := rest) rfl rfl hr rfl (Nat.le_of_ble_eq_true rfl) (d' := 1) (by omega) (e10_waits hw hS (Nat.le_refl _) h) (fun v μ1 q => ?_)
    obtain ⟨rfl, rfl⟩ := q
    exact k

theorem ec_beginGoing {w : zW} {d kc ks : Nat} {y : zY} {pc : Nat} {L : List (Option Value)} {rest : List Value} {n : Nat} {kd : zMK} {I : zMI} {R : zMR} {Q : Option Value → zM → Prop} {idx a : Nat}  {r : zMI} (hd : decode y.2.1 pc = .ok (.invokevirtual idx, 3)) (hl : Cond.methodLink y.1.cls idx yX10_beginGoing ∈ zGT) (hw : zst w = zSt0) (hS : zSh n kd) (g : zWkB n kd a = true) (h : fv_beginGoing n kd I a  = some r) (hdd : 4 ≤ d) (hr : (rest.map fun v => v.category).sum ≤ 8)
    (k : EV w d kc ks y (pc + 3) L rest (n, kd, r, R) Q) : EV w d kc ks y pc L (.ref a :: rest) (n, kd, I, R) Q := by
  obtain ⟨c, hc, hh⟩ := zWkB_hasR hS g
  unfold fv_beginGoing at h
  rcases hc with rfl | rfl | rfl | rfl | rfl | rfl
  · simp only [hh.2.2, Nat.reduceAdd, Nat.reduceEqDiff, if_true, if_false, reduceIte] at h
    refine ev_callU0 (x := yX10_beginGoing) (C := RX1) hd zm10_beginGoing hl zw_NineHeaps_Walker_NineHeaps_Walker_beginGoing zi10_beginGoing zm10_beginGoing.1 zv_10_beginGoing_NineHeaps_Grandfather_10_beginGoing zi10_beginGoing (by decide) rfl (zRc.rcv ⟨1, by decide, rfl, hh⟩) (As := []) (rest := rest) rfl rfl hr rfl (Nat.le_of_ble_eq_true rfl) (d' := 1) (by omega) (e10_beginGoing hw hS (Nat.le_refl _) h) (fun v μ1 q => ?_)
    obtain ⟨rfl, rfl⟩ := q
    exact k
  · simp only [hh.2.2, Nat.reduceAdd, Nat.reduceEqDiff, if_true, if_false, reduceIte] at h
    refine ev_callU0 (x := yX10_beginGoing) (C := RX4) hd zm10_beginGoing hl zw_NineHeaps_Walker_NineHeaps_Walker_beginGoing zi10_beginGoing zm10_beginGoing.1 zv_10_beginGoing_NineHeaps_Passing_10_beginGoing zi10_beginGoing (by decide) rfl (zRc.rcv ⟨4, by decide, rfl, hh⟩) (As := []) (rest := rest) rfl rfl hr rfl (Nat.le_of_ble_eq_true rfl) (d' := 1) (by omega) (e10_beginGoing hw hS (Nat.le_refl _) h) (fun v μ1 q => ?_)
    obtain ⟨rfl, rfl⟩ := q
    exact k
  · simp only [hh.2.2, Nat.reduceAdd, Nat.reduceEqDiff, if_true, if_false, reduceIte] at h
    refine ev_callU0 (x := yX10_beginGoing) (C := RX5) hd zm10_beginGoing hl zw_NineHeaps_Walker_NineHeaps_Walker_beginGoing zi10_beginGoing zm10_beginGoing.1 zv_10_beginGoing_NineHeaps_Quick_10_beginGoing zi10_beginGoing (by decide) rfl (zRc.rcv ⟨5, by decide, rfl, hh⟩) (As := []) (rest := rest) rfl rfl hr rfl (Nat.le_of_ble_eq_true rfl) (d' := 1) (by omega) (e10_beginGoing hw hS (Nat.le_refl _) h) (fun v μ1 q => ?_)
    obtain ⟨rfl, rfl⟩ := q
    exact k
  · simp only [hh.2.2, Nat.reduceAdd, Nat.reduceEqDiff, if_true, if_false, reduceIte] at h
    refine ev_callU0 (x := yX10_beginGoing) (C := RX8) hd zm10_beginGoing hl zw_NineHeaps_Walker_NineHeaps_Walker_beginGoing zi10_beginGoing zm10_beginGoing.1 zv_10_beginGoing_NineHeaps_Thumbed_10_beginGoing zi10_beginGoing (by decide) rfl (zRc.rcv ⟨8, by decide, rfl, hh⟩) (As := []) (rest := rest) rfl rfl hr rfl (Nat.le_of_ble_eq_true rfl) (d' := 1) (by omega) (e10_beginGoing hw hS (Nat.le_refl _) h) (fun v μ1 q => ?_)
    obtain ⟨rfl, rfl⟩ := q
    exact k
  · simp only [hh.2.2, Nat.reduceAdd, Nat.reduceEqDiff, if_true, if_false, reduceIte] at h
    refine ev_callU0 (x := yX10_beginGoing) (C := RX9) hd zm10_beginGoing hl zw_NineHeaps_Walker_NineHeaps_Walker_beginGoing zi10_beginGoing zm10_beginGoing.1 zv_10_beginGoing_NineHeaps_Two_10_beginGoing zi10_beginGoing (by decide) rfl (zRc.rcv ⟨9, by decide, rfl, hh⟩) (As := []) (rest := rest) rfl rfl hr rfl (Nat.le_of_ble_eq_true rfl) (d' := 1) (by omega) (e10_beginGoing hw hS (Nat.le_refl _) h) (fun v μ1 q => ?_)
    obtain ⟨rfl, rfl⟩ := q
    exact k
  · simp only [hh.2.2, Nat.reduceAdd, Nat.reduceEqDiff, if_true, if_false, reduceIte] at h
    refine ev_callU0 (x := yX10_beginGoing) (C := RX10) hd zm10_beginGoing hl zw_NineHeaps_Walker_NineHeaps_Walker_beginGoing zi10_beginGoing zm10_beginGoing.1 zv10_beginGoing zi10_beginGoing (by decide) rfl (zRc.rcv ⟨10, by decide, rfl, hh⟩) (As := []) (rest := rest) rfl rfl hr rfl (Nat.le_of_ble_eq_true rfl) (d' := 1) (by omega) (e10_beginGoing hw hS (Nat.le_refl _) h) (fun v μ1 q => ?_)
    obtain ⟨rfl, rfl⟩ := q
    exact k

abbrev q0_lay (n : Nat) (kd : zMK) (r : zMI × zMR) : Option Value → zM → Prop := fun v μ1 => v = none ∧ μ1 = (n, kd, r.1, r.2)
set_option maxHeartbeats 4000000 in
set_option maxRecDepth 100000 in
theorem e0_lay_L3 {w : zW} {d : Nat} {n : Nat} {kd : zMK} {r : zMI × zMR} {k48 : Option Nat → Int32 → Int32 → zMI → zMR → Option (zMI × zMR)} (hw : zst w = zSt0) (hS : zSh n kd) (hd : 2 ≤ d)  (hk48 : ∀ (l3 : Option Nat) (l4 : Int32) (l5 : Int32) (I : zMI) (R : zMR), k48 l3 l4 l5 I R = some r → EV w d 0 0 Y0_lay 48 [some (.ref 42), none, none, some (va_rf l3), some (.int l4), some (.int l5), none] [] (n, kd, I, R) (q0_lay n kd r)) : ∀ (q : Nat) (l1 : Nat) (l2 : Nat) (l3 : Option Nat) (l4 : Int32) (l5 : Int32) (l6 : Int32) (I : zMI) (R : zMR), f0_lay_L3 n kd k48 q l1 l2 l3 l4 l5 l6 I R = some r → EV w d 0 0 Y0_lay 3 [some (.ref 42), some (.ref l1), some (.ref l2), some (va_rf l3), some (.int l4), some (.int l5), some (.int l6)] [] (n, kd, I, R) (q0_lay n kd r) := by
  intro q
  induction q with
  | zero =>
    intro l1 l2 l3 l4 l5 l6 I R h
    cases h
  | succ q ih =>
    intro l1 l2 l3 l4 l5 l6 I R h
    unfold f0_lay_L3 at h
    refine ev_iload dX0_lay_3 rfl ?_
    refine ev_bipush dX0_lay_5 (v := (9 : Int32)) zcb_9 ?_
    refine ev_icmp_ge dX0_lay_7 (tgt := 48) (by decide) (fun c1 => ?_) (fun c1 => ?_)
    · replace h := zit c1 h
      exact EV.mask [true, false, false, true, true, true, false] rfl (hk48 l3 l4 l5 I R h)
    · replace h := zif c1 h
      refine ev_iload dX0_lay_10 rfl ?_
      refine ev_aload_n dX0_lay_12 rfl rfl ?_
      obtain ⟨g2, h⟩ := zgd h
      refine em_alen dX0_lay_13 (zKdB_hasR hS (by decide) g2) (by decide) rfl rfl ?_
      refine ev_icmp_ge dX0_lay_14 (tgt := 48) (by decide) (fun c3 => ?_) (fun c3 => ?_)
      · replace h := zit c3 h
        exact EV.mask [true, false, false, true, true, true, false] rfl (hk48 l3 l4 l5 I R h)
      · replace h := zif c3 h
        refine ev_iload dX0_lay_17 rfl ?_
        refine ev_aload_n dX0_lay_19 rfl rfl ?_
        obtain ⟨g4, h⟩ := zgd h
        refine em_alen dX0_lay_20 (zKdB_hasR hS (by decide) g4) (by decide) rfl rfl ?_
        refine ev_icmp_ge dX0_lay_21 (tgt := 48) (by decide) (fun c5 => ?_) (fun c5 => ?_)
        · replace h := zit c5 h
          exact EV.mask [true, false, false, true, true, true, false] rfl (hk48 l3 l4 l5 I R h)
        · replace h := zif c5 h
          refine ev_aload_n dX0_lay_24 rfl rfl ?_
          refine em_getA dX0_lay_25 zf_NineHeaps_Going_11 rfl (hS.has 42 (by decide) (by decide) rfl) hw rfl ?_
          refine ev_iload dX0_lay_28 rfl ?_
          obtain ⟨g6, h⟩ := zgd h
          refine em_aaldA dX0_lay_30 hS (by decide) (by decide) (N := 9) rfl (by decide) (by decide) hw g6 (zheap g6) ?_
          refine ev_aload_n dX0_lay_31 rfl rfl ?_
          refine ev_iload dX0_lay_32 rfl ?_
          obtain ⟨g7, h⟩ := zgd h
          refine em_ialdG dX0_lay_34 (zKdB_hasR hS (by decide) g2) (N := (kd l1).2) rfl g7 rfl ?_
          refine ev_aload_n dX0_lay_35 rfl rfl ?_
          refine ev_iload dX0_lay_36 rfl ?_
          obtain ⟨g8, h⟩ := zgd h
          refine em_ialdG dX0_lay_38 (zKdB_hasR hS (by decide) g4) (N := (kd l2).2) rfl g8 rfl ?_
          obtain ⟨p9, e10, h⟩ := zbd h
          refine ev_callV0 dX0_lay_39 zm2_beginGoing zl_NineHeaps_Going_30 zi2_beginGoing zv2_beginGoing (zrcHp hS (zheap_b g6)) (As := [.int (I l1 l6.toNatClampNeg), .int (I l2 l6.toNatClampNeg)]) (rest := []) rfl rfl (Nat.le_of_ble_eq_true rfl) rfl (Nat.le_of_ble_eq_true rfl) (d' := 1) (by omega) (e2_beginGoing hw hS (Nat.le_refl _) e10) (fun v μ1 q => ?_)
          obtain ⟨rfl, rfl⟩ := q
          refine ev_iinc dX0_lay_42 (v := l6 + (1 : Int32)) rfl rfl (by decide) rfl ?_
          refine ev_goto dX0_lay_45 (tgt := 3) (by decide) ?_
          exact EV.mask [true, true, true, true, true, true, true] rfl (ih l1 l2 l3 l4 l5 (l6 + (1 : Int32)) p9 R h)
set_option maxHeartbeats 4000000 in
set_option maxRecDepth 100000 in
theorem e0_lay_B48 {w : zW} {d : Nat} {n : Nat} {kd : zMK} {r : zMI × zMR}  (hw : zst w = zSt0) (hS : zSh n kd) (hd : 2 ≤ d)   : ∀ (l3 : Option Nat) (l4 : Int32) (l5 : Int32) (I : zMI) (R : zMR), f0_lay_B48 n kd l3 l4 l5 I R = some r → EV w d 0 0 Y0_lay 48 [some (.ref 42), none, none, some (va_rf l3), some (.int l4), some (.int l5), none] [] (n, kd, I, R) (q0_lay n kd r) := by
  intro l3 l4 l5 I R h
  unfold f0_lay_B48 at h
  refine ev_aload_n dX0_lay_48 rfl rfl ?_
  refine ev_aload_no dX0_lay_49 rfl rfl ?_
  obtain ⟨T11, e12, h⟩ := zld h
  refine em_putO dX0_lay_50 zf_NineHeaps_Going_34 (Or.inl rfl) rfl hw rfl (fun _ => rfl) (fun _ => rfl) rfl rfl (hS.has 42 (by decide) (by decide) rfl) e12 ?_
  refine ev_aload_n dX0_lay_53 rfl rfl ?_
  refine ev_iload dX0_lay_54 rfl ?_
  obtain ⟨J13, e14, h⟩ := zld h
  refine em_putI dX0_lay_56 zf_NineHeaps_Going_38 (Or.inl rfl) rfl rfl rfl (hS.has 42 (by decide) (by decide) rfl) e14 ?_
  refine ev_aload_n dX0_lay_59 rfl rfl ?_
  refine ev_iload dX0_lay_60 rfl ?_
  obtain ⟨J15, e16, h⟩ := zld h
  refine em_putI dX0_lay_62 zf_NineHeaps_Going_42 (Or.inl rfl) rfl rfl rfl (hS.has 42 (by decide) (by decide) rfl) e16 ?_
  refine ev_aload_n dX0_lay_65 rfl rfl ?_
  refine ev_iconst dX0_lay_66 (v := (0 : Int32)) zci_0 ?_
  obtain ⟨J17, e18, h⟩ := zld h
  refine em_putI dX0_lay_67 zf_NineHeaps_Going_45 (Or.inl rfl) rfl rfl rfl (hS.has 42 (by decide) (by decide) rfl) e18 ?_
  refine ev_aload_n dX0_lay_70 rfl rfl ?_
  refine ev_iconst dX0_lay_71 (v := (0 : Int32)) zci_0 ?_
  obtain ⟨J19, e20, h⟩ := zld h
  refine em_putI dX0_lay_72 zf_NineHeaps_Going_48 (Or.inl rfl) rfl rfl rfl (hS.has 42 (by decide) (by decide) rfl) e20 ?_
  refine ev_aload_n dX0_lay_75 rfl rfl ?_
  refine ev_iconst dX0_lay_76 (v := (0 : Int32)) zci_0 ?_
  obtain ⟨J21, e22, h⟩ := zld h
  refine em_putI dX0_lay_77 zf_NineHeaps_Going_51 (Or.inl rfl) rfl rfl rfl (hS.has 42 (by decide) (by decide) rfl) e22 ?_
  refine ev_aload_n dX0_lay_80 rfl rfl ?_
  refine ev_iconst dX0_lay_81 (v := (0 : Int32)) zci_0 ?_
  obtain ⟨J23, e24, h⟩ := zld h
  refine em_putI dX0_lay_82 zf_NineHeaps_Going_54 (Or.inl rfl) rfl rfl rfl (hS.has 42 (by decide) (by decide) rfl) e24 ?_
  refine ev_aload_n dX0_lay_85 rfl rfl ?_
  refine ev_iconst dX0_lay_86 (v := (0 : Int32)) zci_0 ?_
  obtain ⟨J25, e26, h⟩ := zld h
  refine em_putI dX0_lay_87 zf_NineHeaps_Going_57 (Or.inl rfl) rfl rfl rfl (hS.has 42 (by decide) (by decide) rfl) e26 ?_
  refine ev_aload_n dX0_lay_90 rfl rfl ?_
  refine ev_iconst dX0_lay_91 (v := (0 : Int32)) zci_0 ?_
  obtain ⟨J27, e28, h⟩ := zld h
  refine em_putI dX0_lay_92 zf_NineHeaps_Going_60 (Or.inl rfl) rfl rfl rfl (hS.has 42 (by decide) (by decide) rfl) e28 ?_
  refine ev_aload_n dX0_lay_95 rfl rfl ?_
  refine ev_iconst dX0_lay_96 (v := (-1 : Int32)) zci_m1 ?_
  obtain ⟨J29, e30, h⟩ := zld h
  refine em_putI dX0_lay_97 zf_NineHeaps_Going_63 (Or.inl rfl) rfl rfl rfl (hS.has 42 (by decide) (by decide) rfl) e30 ?_
  obtain rfl := Option.some.inj h
  exact ev_end_v dX0_lay_100 rfl ⟨rfl, rfl⟩
set_option maxHeartbeats 4000000 in
set_option maxRecDepth 100000 in
theorem e0_lay {w : zW} {d : Nat} {n : Nat} {kd : zMK} {I : zMI} {R : zMR} {r : zMI × zMR} {l1 : Nat} {l2 : Nat} {l3 : Option Nat} {l4 : Int32} {l5 : Int32} (hw : zst w = zSt0) (hS : zSh n kd) (hd : 2 ≤ d)  (h : f0_lay n kd l1 l2 l3 l4 l5 I R = some r) : EV w d 0 0 Y0_lay 0 [some (.ref 42), some (.ref l1), some (.ref l2), some (va_rf l3), some (.int l4), some (.int l5), none] [] (n, kd, I, R) (q0_lay n kd r) := by
  unfold f0_lay at h
  refine ev_iconst dX0_lay_0 (v := (0 : Int32)) zci_0 ?_
  refine ev_istore dX0_lay_1 (by decide) rfl ?_
  exact EV.mask [true, true, true, true, true, true, true] rfl (e0_lay_L3 hw hS hd (fun l3' l4' l5' I' R' h' => e0_lay_B48 hw hS hd l3' l4' l5' I' R' h') zF l1 l2 l3 l4 l5 (0 : Int32) I R h)
abbrev q0_join (n : Nat) (kd : zMK) (r : zMI × zMR) : Option Value → zM → Prop := fun v μ1 => v = none ∧ μ1 = (n, kd, r.1, r.2)
set_option maxHeartbeats 4000000 in
set_option maxRecDepth 100000 in
theorem e0_join {w : zW} {d : Nat} {n : Nat} {kd : zMK} {I : zMI} {R : zMR} {r : zMI × zMR} {l1 : Option Nat} (hw : zst w = zSt0) (hS : zSh n kd) (hd : 4 ≤ d)  (h : f0_join n kd l1 I R = some r) : EV w d 0 0 Y0_join 0 [some (.ref 42), some (va_rf l1)] [] (n, kd, I, R) (q0_join n kd r) := by
  unfold f0_join at h
  refine ev_aload_no dX0_join_0 rfl rfl ?_
  refine ev_ifnull_o dX0_join_1 (tgt := 43) (by decide) (fun o2 => ?_) (fun a1 o2 => ?_)
  · replace h := zmn o2 h
    obtain rfl := Option.some.inj h
    exact ev_end_v dX0_join_43 rfl ⟨rfl, rfl⟩
  · replace h := zms o2 h
    refine ev_aload_n dX0_join_4 rfl rfl ?_
    refine em_getI dX0_join_5 zf_NineHeaps_Going_45 rfl (hS.has 42 (by decide) (by decide) rfl) rfl ?_
    refine ev_if_lt dX0_join_8 (tgt := 43) (by decide) (fun c3 => ?_) (fun c3 => ?_)
    · replace h := zit c3 h
      obtain rfl := Option.some.inj h
      exact ev_end_v dX0_join_43 rfl ⟨rfl, rfl⟩
    · replace h := zif c3 h
      refine ev_aload_n dX0_join_11 rfl rfl ?_
      refine em_getI dX0_join_12 zf_NineHeaps_Going_45 rfl (hS.has 42 (by decide) (by decide) rfl) rfl ?_
      refine ev_iconst dX0_join_15 (v := (5 : Int32)) zci_5 ?_
      refine ev_icmp_ge dX0_join_16 (tgt := 43) (by decide) (fun c4 => ?_) (fun c4 => ?_)
      · replace h := zit c4 h
        obtain rfl := Option.some.inj h
        exact ev_end_v dX0_join_43 rfl ⟨rfl, rfl⟩
      · replace h := zif c4 h
        first | refine ev_aload_nk dX0_join_19 rfl o2 rfl ?_ | refine ev_aload_nk dX0_join_19 rfl rfl rfl ?_
        obtain ⟨g5, h⟩ := zgd h
        obtain ⟨cg5, wg5, yg5⟩ := zWkB_hasR hS g5
        obtain ⟨p6, e7, h⟩ := zbd h
        refine ec_beginGoing dX0_join_20 zl_NineHeaps_Going_66 hw hS g5 e7 (by omega) (rest := []) (Nat.le_of_ble_eq_true rfl) ?_
        refine ev_aload_n dX0_join_23 rfl rfl ?_
        refine em_getA dX0_join_24 zf_NineHeaps_Going_19 rfl (hS.has 42 (by decide) (by decide) rfl) hw rfl ?_
        refine ev_aload_n dX0_join_27 rfl rfl ?_
        refine em_getI dX0_join_28 zf_NineHeaps_Going_45 rfl (hS.has 42 (by decide) (by decide) rfl) rfl ?_
        first | refine ev_aload_nk dX0_join_31 rfl o2 rfl ?_ | refine ev_aload_nk dX0_join_31 rfl rfl rfl ?_
        obtain ⟨g8, h⟩ := zgd h
        obtain ⟨T9, e10, h⟩ := zld h
        refine em_aastR dX0_join_32 hS (by decide) (by decide) (N := 5) rfl (by decide) (by decide) yg5 (zWc_lt wg5) (c2 := 10) (by decide) (fun _ => rfl) (zWc_cast wg5) hw (fun _ => rfl) g8 e10 ?_
        refine ev_aload_n dX0_join_33 rfl rfl ?_
        refine ev_dup dX0_join_34 rfl ?_
        refine em_getI dX0_join_35 zf_NineHeaps_Going_45 rfl (hS.has 42 (by decide) (by decide) rfl) rfl ?_
        refine ev_iconst dX0_join_38 (v := (1 : Int32)) zci_1 ?_
        refine ev_iadd dX0_join_39 rfl ?_
        obtain ⟨J11, e12, h⟩ := zld h
        refine em_putI dX0_join_40 zf_NineHeaps_Going_45 (Or.inl rfl) rfl rfl rfl (hS.has 42 (by decide) (by decide) rfl) e12 ?_
        obtain rfl := Option.some.inj h
        exact ev_end_v dX0_join_43 rfl ⟨rfl, rfl⟩
abbrev qJ9_floorMod_7cf53 (n : Nat) (kd : zMK) (I : zMI) (R : zMR) (r : Int32) : Option Value → zM → Prop := fun v μ1 => v = some (.int r) ∧ μ1 = (n, kd, I, R)
set_option maxHeartbeats 4000000 in
set_option maxRecDepth 100000 in
theorem eJ9_floorMod_7cf53 {w : zW} {d : Nat} {n : Nat} {kd : zMK} {I : zMI} {R : zMR} {r : Int32} {l0 : Int32} {l1 : Int32} (hw : zst w = zSt0) (hS : zSh n kd) (hd : 1 ≤ d)  (h : fJ9_floorMod_7cf53 l0 l1 = some r) : EV w d 0 0 YJ9_floorMod_7cf53 0 [some (.int l0), some (.int l1), none] [] (n, kd, I, R) (qJ9_floorMod_7cf53 n kd I R r) := by
  unfold fJ9_floorMod_7cf53 at h
  refine ev_iload_n dJ9_floorMod_7cf53_0 rfl rfl ?_
  refine ev_iload_n dJ9_floorMod_7cf53_1 rfl rfl ?_
  obtain ⟨g1, h⟩ := zgd h
  refine ev_irem dJ9_floorMod_7cf53_2 g1 rfl ?_
  refine ev_istore_n dJ9_floorMod_7cf53_3 rfl (by decide) rfl ?_
  refine ev_iload_n dJ9_floorMod_7cf53_4 rfl rfl ?_
  refine ev_iload_n dJ9_floorMod_7cf53_5 rfl rfl ?_
  refine ev_ixor dJ9_floorMod_7cf53_6 rfl ?_
  refine ev_if_ge dJ9_floorMod_7cf53_7 (tgt := 18) (by decide) (fun c2 => ?_) (fun c2 => ?_)
  · replace h := zit c2 h
    refine ev_iload_n dJ9_floorMod_7cf53_18 rfl rfl ?_
    obtain rfl := Option.some.inj h
    exact ev_end_i dJ9_floorMod_7cf53_19 rfl rfl ⟨rfl, rfl⟩
  · replace h := zif c2 h
    refine ev_iload_n dJ9_floorMod_7cf53_10 rfl rfl ?_
    refine ev_if_eq dJ9_floorMod_7cf53_11 (tgt := 18) (by decide) (fun c3 => ?_) (fun c3 => ?_)
    · replace h := zit c3 h
      refine ev_iload_n dJ9_floorMod_7cf53_18 rfl rfl ?_
      obtain rfl := Option.some.inj h
      exact ev_end_i dJ9_floorMod_7cf53_19 rfl rfl ⟨rfl, rfl⟩
    · replace h := zif c3 h
      refine ev_iload_n dJ9_floorMod_7cf53_14 rfl rfl ?_
      refine ev_iload_n dJ9_floorMod_7cf53_15 rfl rfl ?_
      refine ev_iadd dJ9_floorMod_7cf53_16 rfl ?_
      obtain rfl := Option.some.inj h
      exact ev_end_i dJ9_floorMod_7cf53_17 rfl rfl ⟨rfl, rfl⟩
abbrev q0_heapAt (n : Nat) (kd : zMK) (I : zMI) (R : zMR) (r : Nat) : Option Value → zM → Prop := fun v μ1 => v = some (.ref r) ∧ μ1 = (n, kd, I, R)
set_option maxHeartbeats 4000000 in
set_option maxRecDepth 100000 in
theorem e0_heapAt {w : zW} {d : Nat} {n : Nat} {kd : zMK} {I : zMI} {R : zMR} {r : Nat} {l1 : Int32} (hw : zst w = zSt0) (hS : zSh n kd) (hd : 2 ≤ d)  (h : f0_heapAt l1 = some r) : EV w d 0 0 Y0_heapAt 0 [some (.ref 42), some (.int l1)] [] (n, kd, I, R) (q0_heapAt n kd I R r) := by
  unfold f0_heapAt at h
  refine ev_aload_n dX0_heapAt_0 rfl rfl ?_
  refine em_getA dX0_heapAt_1 zf_NineHeaps_Going_11 rfl (hS.has 42 (by decide) (by decide) rfl) hw rfl ?_
  refine ev_iload_n dX0_heapAt_4 rfl rfl ?_
  refine ev_bipush dX0_heapAt_5 (v := (9 : Int32)) zcb_9 ?_
  obtain ⟨p1, e2, h⟩ := zbd h
  refine ev_callS0 dX0_heapAt_7 zmJ9_floorMod_7cf53 zl_NineHeaps_Going_68 zsJ9_floorMod_7cf53 (As := [.int l1, .int (9 : Int32)]) (rest := [.ref 43]) rfl rfl (Nat.le_of_ble_eq_true rfl) rfl (Nat.le_of_ble_eq_true rfl) (d' := 1) (by omega) (eJ9_floorMod_7cf53 hw hS (Nat.le_refl _) e2) (fun v μ1 q => ?_)
  obtain ⟨rfl, rfl⟩ := q
  obtain ⟨g3, h⟩ := zgd h
  refine em_aaldA dX0_heapAt_10 hS (by decide) (by decide) (N := 9) rfl (by decide) (by decide) hw g3 (zheap g3) ?_
  obtain rfl := Option.some.inj h
  exact ev_end_r dX0_heapAt_11 rfl (Or.inl ⟨_, rfl⟩) ⟨rfl, rfl⟩
abbrev q3_read (n : Nat) (kd : zMK) (I : zMI) (R : zMR) (r : Int32) : Option Value → zM → Prop := fun v μ1 => v = some (.int r) ∧ μ1 = (n, kd, I, R)
set_option maxHeartbeats 4000000 in
set_option maxRecDepth 100000 in
theorem e3_read {w : zW} {d : Nat} {n : Nat} {kd : zMK} {I : zMI} {R : zMR} {r : Int32} {l0 : Nat} {l1 : Int32} (hw : zst w = zSt0) (hS : zSh n kd) (hd : 1 ≤ d)  (h : f3_read n kd I R l0 l1 = some r) : EV w d 0 0 Y3_read 0 [some (.ref l0), some (.int l1), none] [] (n, kd, I, R) (q3_read n kd I R r) := by
  unfold f3_read at h
  refine ev_iconst dX3_read_0 (v := (-1 : Int32)) zci_m1 ?_
  refine ev_iload_n dX3_read_1 rfl rfl ?_
  refine ev_isub dX3_read_2 rfl ?_
  refine ev_istore_n dX3_read_3 rfl (by decide) rfl ?_
  refine ev_iload_n dX3_read_4 rfl rfl ?_
  obtain ⟨x8, e9, h⟩ := zbd h
  have k10 : EV w d 0 0 Y3_read 24 [some (.ref l0), some (.int l1), some (.int ((-1 : Int32) - l1))] [.int x8] (n, kd, I, R) (q3_read n kd I R r) := by
    obtain rfl := Option.some.inj h
    exact ev_end_i dX3_read_24 rfl rfl ⟨rfl, rfl⟩
  clear h
  have h := e9
  clear e9
  refine ev_if_lt dX3_read_5 (tgt := 23) (by decide) (fun c1 => ?_) (fun c1 => ?_)
  · replace h := zit c1 h
    refine ev_iload_n dX3_read_23 rfl rfl ?_
    obtain rfl := Option.some.inj h
    exact k10
  · replace h := zif c1 h
    refine ev_iload_n dX3_read_8 rfl rfl ?_
    refine ev_bipush dX3_read_9 (v := (6 : Int32)) zcb_6 ?_
    refine ev_icmp_ge dX3_read_11 (tgt := 23) (by decide) (fun c2 => ?_) (fun c2 => ?_)
    · replace h := zit c2 h
      refine ev_iload_n dX3_read_23 rfl rfl ?_
      obtain rfl := Option.some.inj h
      exact k10
    · replace h := zif c2 h
      refine ev_aload_n dX3_read_14 rfl rfl ?_
      obtain ⟨g3, h⟩ := zgd h
      rcases zopt (R l0 3) with o5 | ⟨a4, o5⟩
      · have h9 := zmn o5 h
        cases h9
      replace h := zms o5 h
      refine em_getO dX3_read_15 zf_NineHeaps_Law_15 rfl (zKdB_hasR hS (by decide) g3) hw (hS.st (zKdB_hasR hS (by decide) g3) (by decide +kernel) _) o5 ?_
      refine ev_iload_n dX3_read_18 rfl rfl ?_
      obtain ⟨g6, h⟩ := zgd h
      obtain ⟨g7, h⟩ := zgd h
      refine em_ialdG dX3_read_19 (zKdB_hasR hS (by decide) g6) (N := (kd a4).2) rfl g7 rfl ?_
      refine ev_goto dX3_read_20 (tgt := 24) (by decide) ?_
      obtain rfl := Option.some.inj h
      exact k10
abbrev q3_worked (n : Nat) (kd : zMK) (I : zMI) (R : zMR) (r : Int32) : Option Value → zM → Prop := fun v μ1 => v = some (.int r) ∧ μ1 = (n, kd, I, R)
set_option maxHeartbeats 4000000 in
set_option maxRecDepth 100000 in
theorem e3_worked {w : zW} {d : Nat} {n : Nat} {kd : zMK} {I : zMI} {R : zMR} {r : Int32} {l0 : Int32} {l1 : Int32} {l2 : Int32} (hw : zst w = zSt0) (hS : zSh n kd) (hd : 1 ≤ d)  (h : f3_worked l0 l1 l2 = some r) : EV w d 0 0 Y3_worked 0 [some (.int l0), some (.int l1), some (.int l2)] [] (n, kd, I, R) (q3_worked n kd I R r) := by
  unfold f3_worked at h
  refine ev_iload_n dX3_worked_0 rfl rfl ?_
  by_cases c1 : l0 = (-21 : Int32)
  · replace h := zit c1 h
    refine ev_tableIn dX3_worked_1 (by rw [c1]; decide) (by rw [c1]; decide) (off := 121) (by rw [c1]; rfl) (tgt := 122) (by decide) ?_
    refine ev_iload_n dX3_worked_122 rfl rfl ?_
    obtain ⟨x3, e4, h⟩ := zld h
    have k5 : EV w d 0 0 Y3_worked 131 [some (.int l0), some (.int l1), some (.int l2)] [.int x3] (n, kd, I, R) (q3_worked n kd I R r) := by
      obtain rfl := Option.some.inj h
      exact ev_end_i dX3_worked_131 rfl rfl ⟨rfl, rfl⟩
    clear h
    have h := e4
    clear e4
    refine ev_if_ne dX3_worked_123 (tgt := 130) (by decide) (fun c2 => ?_) (fun c2 => ?_)
    · replace h := zif c2 h
      refine ev_iconst dX3_worked_130 (v := (0 : Int32)) zci_0 ?_
      obtain rfl := h
      exact k5
    · replace h := zit c2 h
      refine ev_iconst dX3_worked_126 (v := (1 : Int32)) zci_1 ?_
      refine ev_goto dX3_worked_127 (tgt := 131) (by decide) ?_
      obtain rfl := h
      exact k5
  · replace h := zif c1 h
    by_cases c6 : l0 = (-17 : Int32)
    · replace h := zit c6 h
      refine ev_tableIn dX3_worked_1 (by rw [c6]; decide) (by rw [c6]; decide) (off := 117) (by rw [c6]; rfl) (tgt := 118) (by decide) ?_
      refine ev_iload_n dX3_worked_118 rfl rfl ?_
      refine ev_iload_n dX3_worked_119 rfl rfl ?_
      refine ev_imul dX3_worked_120 rfl ?_
      obtain rfl := Option.some.inj h
      exact ev_end_i dX3_worked_121 rfl rfl ⟨rfl, rfl⟩
    · replace h := zif c6 h
      by_cases c7 : l0 = (-16 : Int32)
      · replace h := zit c7 h
        refine ev_tableIn dX3_worked_1 (by rw [c7]; decide) (by rw [c7]; decide) (off := 113) (by rw [c7]; rfl) (tgt := 114) (by decide) ?_
        refine ev_iload_n dX3_worked_114 rfl rfl ?_
        refine ev_iload_n dX3_worked_115 rfl rfl ?_
        refine ev_isub dX3_worked_116 rfl ?_
        obtain rfl := Option.some.inj h
        exact ev_end_i dX3_worked_117 rfl rfl ⟨rfl, rfl⟩
      · replace h := zif c7 h
        by_cases c8 : l0 = (-15 : Int32)
        · replace h := zit c8 h
          refine ev_tableIn dX3_worked_1 (by rw [c8]; decide) (by rw [c8]; decide) (off := 109) (by rw [c8]; rfl) (tgt := 110) (by decide) ?_
          refine ev_iload_n dX3_worked_110 rfl rfl ?_
          refine ev_iload_n dX3_worked_111 rfl rfl ?_
          refine ev_iadd dX3_worked_112 rfl ?_
          obtain rfl := Option.some.inj h
          exact ev_end_i dX3_worked_113 rfl rfl ⟨rfl, rfl⟩
        · replace h := zif c8 h
          by_cases c9 : l0 = (-14 : Int32)
          · replace h := zit c9 h
            refine ev_tableIn dX3_worked_1 (by rw [c9]; decide) (by rw [c9]; decide) (off := 98) (by rw [c9]; rfl) (tgt := 99) (by decide) ?_
            refine ev_iload_n dX3_worked_99 rfl rfl ?_
            refine ev_iload_n dX3_worked_100 rfl rfl ?_
            obtain ⟨x11, e12, h⟩ := zld h
            have k13 : EV w d 0 0 Y3_worked 109 [some (.int l0), some (.int l1), some (.int l2)] [.int x11] (n, kd, I, R) (q3_worked n kd I R r) := by
              obtain rfl := Option.some.inj h
              exact ev_end_i dX3_worked_109 rfl rfl ⟨rfl, rfl⟩
            clear h
            have h := e12
            clear e12
            refine ev_icmp_ne dX3_worked_101 (tgt := 108) (by decide) (fun c10 => ?_) (fun c10 => ?_)
            · replace h := zif c10 h
              refine ev_iconst dX3_worked_108 (v := (0 : Int32)) zci_0 ?_
              obtain rfl := h
              exact k13
            · replace h := zit c10 h
              refine ev_iconst dX3_worked_104 (v := (1 : Int32)) zci_1 ?_
              refine ev_goto dX3_worked_105 (tgt := 109) (by decide) ?_
              obtain rfl := h
              exact k13
          · replace h := zif c9 h
            by_cases c14 : l0 = (-13 : Int32)
            · replace h := zit c14 h
              refine ev_tableIn dX3_worked_1 (by rw [c14]; decide) (by rw [c14]; decide) (off := 87) (by rw [c14]; rfl) (tgt := 88) (by decide) ?_
              refine ev_iload_n dX3_worked_88 rfl rfl ?_
              refine ev_iload_n dX3_worked_89 rfl rfl ?_
              obtain ⟨x16, e17, h⟩ := zld h
              have k18 : EV w d 0 0 Y3_worked 98 [some (.int l0), some (.int l1), some (.int l2)] [.int x16] (n, kd, I, R) (q3_worked n kd I R r) := by
                obtain rfl := Option.some.inj h
                exact ev_end_i dX3_worked_98 rfl rfl ⟨rfl, rfl⟩
              clear h
              have h := e17
              clear e17
              refine ev_icmp_ge dX3_worked_90 (tgt := 97) (by decide) (fun c15 => ?_) (fun c15 => ?_)
              · replace h := zit c15 h
                refine ev_iconst dX3_worked_97 (v := (0 : Int32)) zci_0 ?_
                obtain rfl := h
                exact k18
              · replace h := zif c15 h
                refine ev_iconst dX3_worked_93 (v := (1 : Int32)) zci_1 ?_
                refine ev_goto dX3_worked_94 (tgt := 98) (by decide) ?_
                obtain rfl := h
                exact k18
            · replace h := zif c14 h
              by_cases c19 : l0 = (-12 : Int32)
              · replace h := zit c19 h
                refine ev_tableIn dX3_worked_1 (by rw [c19]; decide) (by rw [c19]; decide) (off := 73) (by rw [c19]; rfl) (tgt := 74) (by decide) ?_
                refine ev_iload_n dX3_worked_74 rfl rfl ?_
                obtain ⟨x22, e23, h⟩ := zld h
                have k24 : EV w d 0 0 Y3_worked 87 [some (.int l0), some (.int l1), some (.int l2)] [.int x22] (n, kd, I, R) (q3_worked n kd I R r) := by
                  obtain rfl := Option.some.inj h
                  exact ev_end_i dX3_worked_87 rfl rfl ⟨rfl, rfl⟩
                clear h
                have h := e23
                clear e23
                refine ev_if_eq dX3_worked_75 (tgt := 86) (by decide) (fun c20 => ?_) (fun c20 => ?_)
                · replace h := zit c20 h
                  refine ev_iconst dX3_worked_86 (v := (0 : Int32)) zci_0 ?_
                  obtain rfl := h
                  exact k24
                · replace h := zif c20 h
                  refine ev_iload_n dX3_worked_78 rfl rfl ?_
                  refine ev_if_eq dX3_worked_79 (tgt := 86) (by decide) (fun c21 => ?_) (fun c21 => ?_)
                  · replace h := zit c21 h
                    refine ev_iconst dX3_worked_86 (v := (0 : Int32)) zci_0 ?_
                    obtain rfl := h
                    exact k24
                  · replace h := zif c21 h
                    refine ev_iconst dX3_worked_82 (v := (1 : Int32)) zci_1 ?_
                    refine ev_goto dX3_worked_83 (tgt := 87) (by decide) ?_
                    obtain rfl := h
                    exact k24
              · replace h := zif c19 h
                by_cases c25 : l0 = (-11 : Int32)
                · replace h := zit c25 h
                  refine ev_tableIn dX3_worked_1 (by rw [c25]; decide) (by rw [c25]; decide) (off := 59) (by rw [c25]; rfl) (tgt := 60) (by decide) ?_
                  refine ev_iload_n dX3_worked_60 rfl rfl ?_
                  obtain ⟨x28, e29, h⟩ := zld h
                  have k30 : EV w d 0 0 Y3_worked 73 [some (.int l0), some (.int l1), some (.int l2)] [.int x28] (n, kd, I, R) (q3_worked n kd I R r) := by
                    obtain rfl := Option.some.inj h
                    exact ev_end_i dX3_worked_73 rfl rfl ⟨rfl, rfl⟩
                  clear h
                  have h := e29
                  clear e29
                  refine ev_if_ne dX3_worked_61 (tgt := 68) (by decide) (fun c26 => ?_) (fun c26 => ?_)
                  · replace h := zif c26 h
                    refine ev_iconst dX3_worked_68 (v := (1 : Int32)) zci_1 ?_
                    refine ev_goto dX3_worked_69 (tgt := 73) (by decide) ?_
                    obtain rfl := h
                    exact k30
                  · replace h := zit c26 h
                    refine ev_iload_n dX3_worked_64 rfl rfl ?_
                    refine ev_if_eq dX3_worked_65 (tgt := 72) (by decide) (fun c27 => ?_) (fun c27 => ?_)
                    · replace h := zit c27 h
                      refine ev_iconst dX3_worked_72 (v := (0 : Int32)) zci_0 ?_
                      obtain rfl := h
                      exact k30
                    · replace h := zif c27 h
                      refine ev_iconst dX3_worked_68 (v := (1 : Int32)) zci_1 ?_
                      refine ev_goto dX3_worked_69 (tgt := 73) (by decide) ?_
                      obtain rfl := h
                      exact k30
                · replace h := zif c25 h
                  refine ev_tableD dX3_worked_1 ?_ (tgt := 132) (by decide) ?_
                  · have q0 := lv_neT c1 (a := -21) (by decide)
                    have q1 := lv_neT c6 (a := -17) (by decide)
                    have q2 := lv_neT c7 (a := -16) (by decide)
                    have q3 := lv_neT c8 (a := -15) (by decide)
                    have q4 := lv_neT c9 (a := -14) (by decide)
                    have q5 := lv_neT c14 (a := -13) (by decide)
                    have q6 := lv_neT c19 (a := -12) (by decide)
                    have q7 := lv_neT c25 (a := -11) (by decide)
                    rcases (show l0.toInt < -21 ∨ -11 < l0.toInt ∨ l0.toInt = -20 ∨ l0.toInt = -19 ∨ l0.toInt = -18 by omega) with q | q | q | q | q
                    · exact Or.inl q
                    · exact Or.inr (Or.inl q)
                    · rw [q]; exact Or.inr (Or.inr rfl)
                    · rw [q]; exact Or.inr (Or.inr rfl)
                    · rw [q]; exact Or.inr (Or.inr rfl)
                  refine ev_iload_n dX3_worked_132 rfl rfl ?_
                  refine ev_ineg dX3_worked_133 rfl ?_
                  obtain rfl := Option.some.inj h
                  exact ev_end_i dX3_worked_134 rfl rfl ⟨rfl, rfl⟩
abbrev q3_bounded (n : Nat) (kd : zMK) (I : zMI) (R : zMR) (r : Int32) : Option Value → zM → Prop := fun v μ1 => v = some (.int r) ∧ μ1 = (n, kd, I, R)
set_option maxHeartbeats 4000000 in
set_option maxRecDepth 100000 in
theorem e3_bounded {w : zW} {d : Nat} {n : Nat} {kd : zMK} {I : zMI} {R : zMR} {r : Int32} {l0 : Int32} {l1 : Int32} (hw : zst w = zSt0) (hS : zSh n kd) (hd : 2 ≤ d)  (h : f3_bounded l0 l1 = some r) : EV w d 0 0 Y3_bounded 0 [some (.int l0), some (.int l1)] [] (n, kd, I, R) (q3_bounded n kd I R r) := by
  unfold f3_bounded at h
  refine ev_iload_n dX3_bounded_0 rfl rfl ?_
  refine ev_iconst dX3_bounded_1 (v := (2 : Int32)) zci_2 ?_
  refine ev_icmp_ne dX3_bounded_2 (tgt := 18) (by decide) (fun c1 => ?_) (fun c1 => ?_)
  · replace h := zif c1 h
    refine ev_bipush dX3_bounded_18 (v := (20 : Int32)) zcb_20 ?_
    refine ev_iconst dX3_bounded_20 (v := (1 : Int32)) zci_1 ?_
    refine ev_iload_n dX3_bounded_21 rfl rfl ?_
    obtain ⟨x2, e3, h⟩ := zld h
    refine ev_max dX3_bounded_22 zl_NineHeaps_Law_45 zmm_max_s zn_java_lang_Math zmm_max_c (by omega) (Nat.le_of_ble_eq_true rfl) e3 ?_
    obtain ⟨x4, e5, h⟩ := zld h
    refine ev_min dX3_bounded_25 zl_NineHeaps_Law_58 zmm_min_s zn_java_lang_Math zmm_min_c (by omega) (Nat.le_of_ble_eq_true rfl) e5 ?_
    obtain rfl := Option.some.inj h
    exact ev_end_i dX3_bounded_28 rfl rfl ⟨rfl, rfl⟩
  · replace h := zit c1 h
    refine ev_bipush dX3_bounded_5 (v := (99 : Int32)) zcb_99 ?_
    refine ev_iconst dX3_bounded_7 (v := (0 : Int32)) zci_0 ?_
    refine ev_iload_n dX3_bounded_8 rfl rfl ?_
    obtain ⟨x6, e7, h⟩ := zld h
    refine ev_max dX3_bounded_9 zl_NineHeaps_Law_45 zmm_max_s zn_java_lang_Math zmm_max_c (by omega) (Nat.le_of_ble_eq_true rfl) e7 ?_
    obtain ⟨x8, e9, h⟩ := zld h
    refine ev_min dX3_bounded_12 zl_NineHeaps_Law_58 zmm_min_s zn_java_lang_Math zmm_min_c (by omega) (Nat.le_of_ble_eq_true rfl) e9 ?_
    refine ev_goto dX3_bounded_15 (tgt := 28) (by decide) ?_
    obtain rfl := Option.some.inj h
    exact ev_end_i dX3_bounded_28 rfl rfl ⟨rfl, rfl⟩
abbrev q3_says (n : Nat) (kd : zMK) (R : zMR) (r : Int32 × zMI) : Option Value → zM → Prop := fun v μ1 => v = some (.int r.1) ∧ μ1 = (n, kd, r.2, R)
set_option maxHeartbeats 4000000 in
set_option maxRecDepth 100000 in
theorem e3_says_B228 {w : zW} {d : Nat} {n : Nat} {kd : zMK} {R : zMR} {r : Int32 × zMI} {k109 : Nat → Int32 → Int32 → Int32 → zMI → Option (Int32 × zMI)} (hw : zst w = zSt0) (hS : zSh n kd) (hd : 3 ≤ d)  (hk109 : ∀ (l0 : Nat) (l1 : Int32) (l7 : Int32) (l8 : Int32) (I : zMI), k109 l0 l1 l7 l8 I = some r → EV w d 0 0 Y3_says 109 [some (.ref l0), some (.int l1), none, none, none, none, none, some (.int l7), some (.int l8), none, none, none] [] (n, kd, I, R) (q3_says n kd R r)) : ∀ (l0 : Nat) (l1 : Int32) (l8 : Int32) (l11 : Int32) (s0 : Nat) (s1 : Int32) (s2 : Int32) (I : zMI), f3_says_B228 n kd R k109 l0 l1 l8 l11 s0 s1 s2 I = some r → EV w d 0 0 Y3_says 228 [some (.ref l0), some (.int l1), none, none, none, none, none, none, some (.int l8), none, none, some (.int l11)] [.int s2, .int s1, .ref s0] (n, kd, I, R) (q3_says n kd R r) := by
  intro l0 l1 l8 l11 s0 s1 s2 I h
  unfold f3_says_B228 at h
  obtain ⟨g1, h⟩ := zgd h
  obtain ⟨g2, h⟩ := zgd h
  obtain ⟨J3, e4, h⟩ := zld h
  refine em_iastG dX3_says_228 (zKdB_hasR hS (by decide) g1) (N := (kd s0).2) rfl g2 e4 ?_
  refine ev_iload dX3_says_229 rfl ?_
  refine ev_iconst dX3_says_231 (v := (1 : Int32)) zci_1 ?_
  refine ev_iadd dX3_says_232 rfl ?_
  refine ev_istore dX3_says_233 (by decide) rfl ?_
  refine ev_iinc dX3_says_235 (v := l8 + (1 : Int32)) rfl rfl (by decide) rfl ?_
  refine ev_goto dX3_says_238 (tgt := 109) (by decide) ?_
  exact EV.mask [true, true, false, false, false, false, false, true, true, false, false, false] rfl (hk109 l0 l1 (l11 + (1 : Int32)) (l8 + (1 : Int32)) J3 h)
set_option maxHeartbeats 4000000 in
set_option maxRecDepth 100000 in
theorem e3_says_L109 {w : zW} {d : Nat} {n : Nat} {kd : zMK} {R : zMR} {r : Int32 × zMI} {k241 : Nat → Int32 → Int32 → zMI → Option (Int32 × zMI)} (hw : zst w = zSt0) (hS : zSh n kd) (hd : 3 ≤ d)  (hk241 : ∀ (l0 : Nat) (l1 : Int32) (l7 : Int32) (I : zMI), k241 l0 l1 l7 I = some r → EV w d 0 0 Y3_says 241 [some (.ref l0), some (.int l1), none, none, none, none, none, some (.int l7), none, none, none, none] [] (n, kd, I, R) (q3_says n kd R r)) : ∀ (q : Nat) (l0 : Nat) (l1 : Int32) (l7 : Int32) (l8 : Int32) (I : zMI), f3_says_L109 n kd R k241 q l0 l1 l7 l8 I = some r → EV w d 0 0 Y3_says 109 [some (.ref l0), some (.int l1), none, none, none, none, none, some (.int l7), some (.int l8), none, none, none] [] (n, kd, I, R) (q3_says n kd R r) := by
  intro q
  induction q with
  | zero =>
    intro l0 l1 l7 l8 I h
    cases h
  | succ q ih =>
    intro l0 l1 l7 l8 I h
    unfold f3_says_L109 at h
    refine ev_iload dX3_says_109 rfl ?_
    refine ev_aload_n dX3_says_111 rfl rfl ?_
    obtain ⟨g5, h⟩ := zgd h
    rcases zopt (R l0 1) with o7 | ⟨a6, o7⟩
    · have h9 := zmn o7 h
      cases h9
    replace h := zms o7 h
    refine em_getO dX3_says_112 zf_NineHeaps_Law_29 rfl (zKdB_hasR hS (by decide) g5) hw (hS.st (zKdB_hasR hS (by decide) g5) (by decide +kernel) _) o7 ?_
    refine ev_iload_n dX3_says_115 rfl rfl ?_
    refine ev_iconst dX3_says_116 (v := (1 : Int32)) zci_1 ?_
    refine ev_iadd dX3_says_117 rfl ?_
    obtain ⟨g8, h⟩ := zgd h
    obtain ⟨g9, h⟩ := zgd h
    refine em_ialdG dX3_says_118 (zKdB_hasR hS (by decide) g8) (N := (kd a6).2) rfl g9 rfl ?_
    refine ev_icmp_ge dX3_says_119 (tgt := 241) (by decide) (fun c10 => ?_) (fun c10 => ?_)
    · replace h := zit c10 h
      exact EV.mask [true, true, false, false, false, false, false, true, false, false, false, false] rfl (hk241 l0 l1 l7 I h)
    · replace h := zif c10 h
      refine ev_iload dX3_says_122 rfl ?_
      refine ev_aload_n dX3_says_124 rfl rfl ?_
      rcases zopt (R l0 0) with o12 | ⟨a11, o12⟩
      · have h9 := zmn o12 h
        cases h9
      replace h := zms o12 h
      refine em_getO dX3_says_125 zf_NineHeaps_Law_26 rfl (zKdB_hasR hS (by decide) g5) hw (hS.st (zKdB_hasR hS (by decide) g5) (by decide +kernel) _) o12 ?_
      obtain ⟨g13, h⟩ := zgd h
      refine em_alen dX3_says_128 (zKdB_hasR hS (by decide) g13) (by decide) rfl rfl ?_
      refine ev_icmp_ge dX3_says_129 (tgt := 241) (by decide) (fun c14 => ?_) (fun c14 => ?_)
      · replace h := zit c14 h
        exact EV.mask [true, true, false, false, false, false, false, true, false, false, false, false] rfl (hk241 l0 l1 l7 I h)
      · replace h := zif c14 h
        refine ev_aload_n dX3_says_132 rfl rfl ?_
        rcases zopt (R l0 0) with o16 | ⟨a15, o16⟩
        · have h9 := zmn o16 h
          cases h9
        replace h := zms o16 h
        refine em_getO dX3_says_133 zf_NineHeaps_Law_26 rfl (zKdB_hasR hS (by decide) g5) hw (hS.st (zKdB_hasR hS (by decide) g5) (by decide +kernel) _) o16 ?_
        refine ev_iload dX3_says_136 rfl ?_
        obtain ⟨g17, h⟩ := zgd h
        obtain ⟨g18, h⟩ := zgd h
        refine em_ialdG dX3_says_138 (zKdB_hasR hS (by decide) g17) (N := (kd a15).2) rfl g18 rfl ?_
        refine ev_istore dX3_says_139 (by decide) rfl ?_
        refine ev_iload dX3_says_141 rfl ?_
        refine ev_bipush dX3_says_143 (v := (-6 : Int32)) zcb_m6 ?_
        obtain ⟨x21, e22, h⟩ := zld h
        have k40 : EV w d 0 0 Y3_says 164 [some (.ref l0), some (.int l1), none, none, none, none, none, some (.int l7), some (.int l8), some (.int (I a15 l8.toNatClampNeg)), none, none] [.int x21] (n, kd, I, R) (q3_says n kd R r) := by
          refine ev_istore dX3_says_164 (by decide) rfl ?_
          refine ev_iload dX3_says_166 rfl ?_
          refine ev_iload dX3_says_168 rfl ?_
          refine ev_isub dX3_says_170 rfl ?_
          refine ev_istore dX3_says_171 (by decide) rfl ?_
          refine ev_iload dX3_says_173 rfl ?_
          refine ev_if_lt dX3_says_175 (tgt := 185) (by decide) (fun c23 => ?_) (fun c23 => ?_)
          · replace h := zit c23 h
            refine ev_iconst dX3_says_185 (v := (0 : Int32)) zci_0 ?_
            obtain rfl := Option.some.inj h
            exact ev_end_i dX3_says_186 rfl rfl ⟨rfl, rfl⟩
          · replace h := zif c23 h
            refine ev_iload dX3_says_178 rfl ?_
            refine ev_bipush dX3_says_180 (v := (40 : Int32)) zcb_40 ?_
            refine ev_icmp_lt dX3_says_182 (tgt := 187) (by decide) (fun c24 => ?_) (fun c24 => ?_)
            · replace h := zit c24 h
              refine ev_aload_n dX3_says_187 rfl rfl ?_
              rcases zopt (R l0 2) with o26 | ⟨a25, o26⟩
              · have h9 := zmn o26 h
                cases h9
              replace h := zms o26 h
              refine em_getO dX3_says_188 zf_NineHeaps_Law_11 rfl (zKdB_hasR hS (by decide) g5) hw (hS.st (zKdB_hasR hS (by decide) g5) (by decide +kernel) _) o26 ?_
              refine ev_iload dX3_says_191 rfl ?_
              refine ev_iload dX3_says_193 rfl ?_
              refine ev_if_ne dX3_says_195 (tgt := 207) (by decide) (fun c27 => ?_) (fun c27 => ?_)
              · replace h := zif c27 h
                refine ev_iload dX3_says_207 rfl ?_
                refine ev_aload_n dX3_says_209 rfl rfl ?_
                rcases zopt (R l0 2) with o29 | ⟨a28, o29⟩
                · have h9 := zmn o29 h
                  cases h9
                replace h := zms o29 h
                refine em_getO dX3_says_210 zf_NineHeaps_Law_11 rfl (zKdB_hasR hS (by decide) g5) hw (hS.st (zKdB_hasR hS (by decide) g5) (by decide +kernel) _) o29 ?_
                refine ev_iload dX3_says_213 rfl ?_
                obtain ⟨g30, h⟩ := zgd h
                obtain ⟨g31, h⟩ := zgd h
                refine em_ialdG dX3_says_215 (zKdB_hasR hS (by decide) g30) (N := (kd a28).2) rfl g31 rfl ?_
                refine ev_aload_n dX3_says_216 rfl rfl ?_
                rcases zopt (R l0 2) with o33 | ⟨a32, o33⟩
                · have h9 := zmn o33 h
                  cases h9
                replace h := zms o33 h
                refine em_getO dX3_says_217 zf_NineHeaps_Law_11 rfl (zKdB_hasR hS (by decide) g5) hw (hS.st (zKdB_hasR hS (by decide) g5) (by decide +kernel) _) o33 ?_
                refine ev_iload dX3_says_220 rfl ?_
                refine ev_iconst dX3_says_222 (v := (1 : Int32)) zci_1 ?_
                refine ev_isub dX3_says_223 rfl ?_
                obtain ⟨g34, h⟩ := zgd h
                obtain ⟨g35, h⟩ := zgd h
                refine em_ialdG dX3_says_224 (zKdB_hasR hS (by decide) g34) (N := (kd a32).2) rfl g35 rfl ?_
                obtain ⟨p36, e37, h⟩ := zbd h
                refine ev_callS0 dX3_says_225 zm3_worked zl_NineHeaps_Law_54 zs3_worked (As := [.int (I a15 l8.toNatClampNeg), .int (I a28 (l7 - x21).toNatClampNeg), .int (I a32 (l7 - (1 : Int32)).toNatClampNeg)]) (rest := [.int (l7 - x21), .ref a25]) rfl rfl (Nat.le_of_ble_eq_true rfl) rfl (Nat.le_of_ble_eq_true rfl) (d' := 1) (by omega) (e3_worked hw hS (Nat.le_refl _) e37) (fun v μ1 q => ?_)
                obtain ⟨rfl, rfl⟩ := q
                exact EV.mask [true, true, false, false, false, false, false, false, true, false, false, true] rfl (e3_says_B228 hw hS hd (fun l0' l1' l7' l8' I' h' => ih l0' l1' l7' l8' I' h') l0 l1 l8 (l7 - x21) a25 (l7 - x21) p36 I h)
              · replace h := zit c27 h
                refine ev_aload_n dX3_says_198 rfl rfl ?_
                refine ev_iload dX3_says_199 rfl ?_
                obtain ⟨p38, e39, h⟩ := zbd h
                refine ev_callV0 dX3_says_201 zm3_read zl_NineHeaps_Law_50 zi3_read zv3_read (zrcLw hS g5) (As := [.int (I a15 l8.toNatClampNeg)]) (rest := [.int (l7 - x21), .ref a25]) rfl rfl (Nat.le_of_ble_eq_true rfl) rfl (Nat.le_of_ble_eq_true rfl) (d' := 1) (by omega) (e3_read hw hS (Nat.le_refl _) e39) (fun v μ1 q => ?_)
                obtain ⟨rfl, rfl⟩ := q
                refine ev_goto dX3_says_204 (tgt := 228) (by decide) ?_
                exact EV.mask [true, true, false, false, false, false, false, false, true, false, false, true] rfl (e3_says_B228 hw hS hd (fun l0' l1' l7' l8' I' h' => ih l0' l1' l7' l8' I' h') l0 l1 l8 (l7 - x21) a25 (l7 - x21) p38 I h)
            · replace h := zif c24 h
              refine ev_iconst dX3_says_185 (v := (0 : Int32)) zci_0 ?_
              obtain rfl := Option.some.inj h
              exact ev_end_i dX3_says_186 rfl rfl ⟨rfl, rfl⟩
        clear h
        have h := e22
        clear e22
        refine ev_icmp_lt dX3_says_145 (tgt := 152) (by decide) (fun c19 => ?_) (fun c19 => ?_)
        · replace h := zit c19 h
          refine ev_iload dX3_says_152 rfl ?_
          refine ev_bipush dX3_says_154 (v := (-19 : Int32)) zcb_m19 ?_
          refine ev_icmp_lt dX3_says_156 (tgt := 163) (by decide) (fun c20 => ?_) (fun c20 => ?_)
          · replace h := zit c20 h
            refine ev_iconst dX3_says_163 (v := (1 : Int32)) zci_1 ?_
            obtain rfl := h
            exact k40
          · replace h := zif c20 h
            refine ev_iconst dX3_says_159 (v := (2 : Int32)) zci_2 ?_
            refine ev_goto dX3_says_160 (tgt := 164) (by decide) ?_
            obtain rfl := h
            exact k40
        · replace h := zif c19 h
          refine ev_iconst dX3_says_148 (v := (0 : Int32)) zci_0 ?_
          refine ev_goto dX3_says_149 (tgt := 164) (by decide) ?_
          obtain rfl := h
          exact k40
set_option maxHeartbeats 4000000 in
set_option maxRecDepth 100000 in
theorem e3_says_B241 {w : zW} {d : Nat} {n : Nat} {kd : zMK} {R : zMR} {r : Int32 × zMI}  (hw : zst w = zSt0) (hS : zSh n kd) (hd : 3 ≤ d)   : ∀ (l0 : Nat) (l1 : Int32) (l7 : Int32) (I : zMI), f3_says_B241 n kd R l0 l1 l7 I = some r → EV w d 0 0 Y3_says 241 [some (.ref l0), some (.int l1), none, none, none, none, none, some (.int l7), none, none, none, none] [] (n, kd, I, R) (q3_says n kd R r) := by
  intro l0 l1 l7 I h
  unfold f3_says_B241 at h
  refine ev_iload_n dX3_says_241 rfl rfl ?_
  refine ev_iload dX3_says_242 rfl ?_
  refine ev_iconst dX3_says_244 (v := (1 : Int32)) zci_1 ?_
  obtain ⟨x47, e48, h⟩ := zbd h
  have k51 : EV w d 0 0 Y3_says 258 [some (.ref l0), some (.int l1), none, none, none, none, none, some (.int l7), none, none, none, none] [.int x47, .int l1] (n, kd, I, R) (q3_says n kd R r) := by
    obtain ⟨p49, e50, h⟩ := zbd h
    refine ev_callS0 dX3_says_258 zm3_bounded zl_NineHeaps_Law_32 zs3_bounded (As := [.int l1, .int x47]) (rest := []) rfl rfl (Nat.le_of_ble_eq_true rfl) rfl (Nat.le_of_ble_eq_true rfl) (d' := 2) (by omega) (e3_bounded hw hS (Nat.le_refl _) e50) (fun v μ1 q => ?_)
    obtain ⟨rfl, rfl⟩ := q
    obtain rfl := Option.some.inj h
    exact ev_end_i dX3_says_261 rfl rfl ⟨rfl, rfl⟩
  clear h
  have h := e48
  clear e48
  refine ev_icmp_ne dX3_says_245 (tgt := 257) (by decide) (fun c41 => ?_) (fun c41 => ?_)
  · replace h := zif c41 h
    refine ev_iconst dX3_says_257 (v := (0 : Int32)) zci_0 ?_
    obtain rfl := Option.some.inj h
    exact k51
  · replace h := zit c41 h
    refine ev_aload_n dX3_says_248 rfl rfl ?_
    obtain ⟨g42, h⟩ := zgd h
    rcases zopt (R l0 2) with o44 | ⟨a43, o44⟩
    · have h9 := zmn o44 h
      cases h9
    replace h := zms o44 h
    refine em_getO dX3_says_249 zf_NineHeaps_Law_11 rfl (zKdB_hasR hS (by decide) g42) hw (hS.st (zKdB_hasR hS (by decide) g42) (by decide +kernel) _) o44 ?_
    refine ev_iconst dX3_says_252 (v := (0 : Int32)) zci_0 ?_
    obtain ⟨g45, h⟩ := zgd h
    obtain ⟨g46, h⟩ := zgd h
    refine em_ialdG dX3_says_253 (zKdB_hasR hS (by decide) g45) (N := (kd a43).2) rfl g46 rfl ?_
    refine ev_goto dX3_says_254 (tgt := 258) (by decide) ?_
    obtain rfl := Option.some.inj h
    exact k51
set_option maxHeartbeats 4000000 in
set_option maxRecDepth 100000 in
theorem e3_says {w : zW} {d : Nat} {n : Nat} {kd : zMK} {I : zMI} {R : zMR} {r : Int32 × zMI} {l0 : Nat} {l1 : Int32} {l2 : Option Nat} {l3 : Int32} {l4 : Int32} {l5 : Int32} {l6 : Int32} (hw : zst w = zSt0) (hS : zSh n kd) (hd : 3 ≤ d)  (h : f3_says n kd R l0 l1 l2 l3 l4 l5 l6 I = some r) : EV w d 0 0 Y3_says 0 [some (.ref l0), some (.int l1), some (va_rf l2), some (.int l3), some (.int l4), some (.int l5), some (.int l6), none, none, none, none, none] [] (n, kd, I, R) (q3_says n kd R r) := by
  unfold f3_says at h
  refine ev_iload_n dX3_says_0 rfl rfl ?_
  refine ev_if_lt dX3_says_1 (tgt := 24) (by decide) (fun c52 => ?_) (fun c52 => ?_)
  · replace h := zit c52 h
    refine ev_iconst dX3_says_24 (v := (0 : Int32)) zci_0 ?_
    obtain rfl := Option.some.inj h
    exact ev_end_i dX3_says_25 rfl rfl ⟨rfl, rfl⟩
  · replace h := zif c52 h
    refine ev_iload_n dX3_says_4 rfl rfl ?_
    refine ev_iconst dX3_says_5 (v := (3 : Int32)) zci_3 ?_
    refine ev_icmp_ge dX3_says_6 (tgt := 24) (by decide) (fun c53 => ?_) (fun c53 => ?_)
    · replace h := zit c53 h
      refine ev_iconst dX3_says_24 (v := (0 : Int32)) zci_0 ?_
      obtain rfl := Option.some.inj h
      exact ev_end_i dX3_says_25 rfl rfl ⟨rfl, rfl⟩
    · replace h := zif c53 h
      refine ev_iload_n dX3_says_9 rfl rfl ?_
      refine ev_iconst dX3_says_10 (v := (1 : Int32)) zci_1 ?_
      refine ev_iadd dX3_says_11 rfl ?_
      refine ev_aload_n dX3_says_12 rfl rfl ?_
      obtain ⟨g54, h⟩ := zgd h
      rcases zopt (R l0 1) with o56 | ⟨a55, o56⟩
      · have h9 := zmn o56 h
        cases h9
      replace h := zms o56 h
      refine em_getO dX3_says_13 zf_NineHeaps_Law_29 rfl (zKdB_hasR hS (by decide) g54) hw (hS.st (zKdB_hasR hS (by decide) g54) (by decide +kernel) _) o56 ?_
      obtain ⟨g57, h⟩ := zgd h
      refine em_alen dX3_says_16 (zKdB_hasR hS (by decide) g57) (by decide) rfl rfl ?_
      refine ev_icmp_ge dX3_says_17 (tgt := 24) (by decide) (fun c58 => ?_) (fun c58 => ?_)
      · replace h := zit c58 h
        refine ev_iconst dX3_says_24 (v := (0 : Int32)) zci_0 ?_
        obtain rfl := Option.some.inj h
        exact ev_end_i dX3_says_25 rfl rfl ⟨rfl, rfl⟩
      · replace h := zif c58 h
        refine ev_aload_no dX3_says_20 rfl rfl ?_
        refine ev_ifnonnull_o dX3_says_21 (tgt := 26) (by decide) (fun a59 o60 => ?_) (fun o60 => ?_)
        · replace h := zms o60 h
          refine ev_aload_n dX3_says_26 rfl rfl ?_
          rcases zopt (R l0 4) with o62 | ⟨a61, o62⟩
          · have h9 := zmn o62 h
            cases h9
          replace h := zms o62 h
          refine em_getO dX3_says_27 zf_NineHeaps_Law_18 rfl (zKdB_hasR hS (by decide) g54) hw (hS.st (zKdB_hasR hS (by decide) g54) (by decide +kernel) _) o62 ?_
          refine ev_iload_n dX3_says_30 rfl rfl ?_
          obtain ⟨g63, h⟩ := zgd h
          obtain ⟨g64, h⟩ := zgd h
          refine em_ialdG dX3_says_31 (zKdB_hasR hS (by decide) g63) (N := (kd a61).2) rfl g64 rfl ?_
          refine ev_iconst dX3_says_32 (v := (-1 : Int32)) zci_m1 ?_
          refine ev_icmp_eq dX3_says_33 (tgt := 43) (by decide) (fun c65 => ?_) (fun c65 => ?_)
          · replace h := zit c65 h
            refine ev_aload_n dX3_says_43 rfl rfl ?_
            rcases zopt (R l0 3) with o67 | ⟨a66, o67⟩
            · have h9 := zmn o67 h
              cases h9
            replace h := zms o67 h
            refine em_getO dX3_says_44 zf_NineHeaps_Law_15 rfl (zKdB_hasR hS (by decide) g54) hw (hS.st (zKdB_hasR hS (by decide) g54) (by decide +kernel) _) o67 ?_
            refine ev_iconst dX3_says_47 (v := (0 : Int32)) zci_0 ?_
            refine ev_iload_n dX3_says_48 rfl rfl ?_
            obtain ⟨g68, h⟩ := zgd h
            obtain ⟨g69, h⟩ := zgd h
            obtain ⟨J70, e71, h⟩ := zld h
            refine em_iastG dX3_says_49 (zKdB_hasR hS (by decide) g68) (N := (kd a66).2) rfl g69 e71 ?_
            refine ev_aload_n dX3_says_50 rfl rfl ?_
            rcases zopt (R l0 3) with o73 | ⟨a72, o73⟩
            · have h9 := zmn o73 h
              cases h9
            replace h := zms o73 h
            refine em_getO dX3_says_51 zf_NineHeaps_Law_15 rfl (zKdB_hasR hS (by decide) g54) hw (hS.st (zKdB_hasR hS (by decide) g54) (by decide +kernel) _) o73 ?_
            refine ev_iconst dX3_says_54 (v := (1 : Int32)) zci_1 ?_
            first | refine ev_aload_nk dX3_says_55 rfl o60 rfl ?_ | refine ev_aload_nk dX3_says_55 rfl rfl rfl ?_
            obtain ⟨g74, h⟩ := zgd h
            obtain ⟨cg74, wg74, yg74⟩ := zWkB_hasR hS g74
            refine em_getI dX3_says_56 (zf_NineHeaps_Law_36 wg74) (by rcases wg74 with rfl | rfl | rfl | rfl | rfl | rfl <;> rfl) yg74 rfl ?_
            obtain ⟨g75, h⟩ := zgd h
            obtain ⟨g76, h⟩ := zgd h
            obtain ⟨J77, e78, h⟩ := zld h
            refine em_iastG dX3_says_59 (zKdB_hasR hS (by decide) g75) (N := (kd a72).2) rfl g76 e78 ?_
            refine ev_aload_n dX3_says_60 rfl rfl ?_
            rcases zopt (R l0 3) with o80 | ⟨a79, o80⟩
            · have h9 := zmn o80 h
              cases h9
            replace h := zms o80 h
            refine em_getO dX3_says_61 zf_NineHeaps_Law_15 rfl (zKdB_hasR hS (by decide) g54) hw (hS.st (zKdB_hasR hS (by decide) g54) (by decide +kernel) _) o80 ?_
            refine ev_iconst dX3_says_64 (v := (2 : Int32)) zci_2 ?_
            first | refine ev_aload_nk dX3_says_65 rfl o60 rfl ?_ | refine ev_aload_nk dX3_says_65 rfl rfl rfl ?_
            refine em_getI dX3_says_66 (zf_NineHeaps_Law_42 wg74) (by rcases wg74 with rfl | rfl | rfl | rfl | rfl | rfl <;> rfl) yg74 rfl ?_
            obtain ⟨g81, h⟩ := zgd h
            obtain ⟨g82, h⟩ := zgd h
            obtain ⟨J83, e84, h⟩ := zld h
            refine em_iastG dX3_says_69 (zKdB_hasR hS (by decide) g81) (N := (kd a79).2) rfl g82 e84 ?_
            refine ev_aload_n dX3_says_70 rfl rfl ?_
            rcases zopt (R l0 3) with o86 | ⟨a85, o86⟩
            · have h9 := zmn o86 h
              cases h9
            replace h := zms o86 h
            refine em_getO dX3_says_71 zf_NineHeaps_Law_15 rfl (zKdB_hasR hS (by decide) g54) hw (hS.st (zKdB_hasR hS (by decide) g54) (by decide +kernel) _) o86 ?_
            refine ev_iconst dX3_says_74 (v := (3 : Int32)) zci_3 ?_
            refine ev_iload dX3_says_75 rfl ?_
            obtain ⟨g87, h⟩ := zgd h
            obtain ⟨g88, h⟩ := zgd h
            obtain ⟨J89, e90, h⟩ := zld h
            refine em_iastG dX3_says_77 (zKdB_hasR hS (by decide) g87) (N := (kd a85).2) rfl g88 e90 ?_
            refine ev_aload_n dX3_says_78 rfl rfl ?_
            rcases zopt (R l0 3) with o92 | ⟨a91, o92⟩
            · have h9 := zmn o92 h
              cases h9
            replace h := zms o92 h
            refine em_getO dX3_says_79 zf_NineHeaps_Law_15 rfl (zKdB_hasR hS (by decide) g54) hw (hS.st (zKdB_hasR hS (by decide) g54) (by decide +kernel) _) o92 ?_
            refine ev_iconst dX3_says_82 (v := (4 : Int32)) zci_4 ?_
            refine ev_iload dX3_says_83 rfl ?_
            obtain ⟨g93, h⟩ := zgd h
            obtain ⟨g94, h⟩ := zgd h
            obtain ⟨J95, e96, h⟩ := zld h
            refine em_iastG dX3_says_85 (zKdB_hasR hS (by decide) g93) (N := (kd a91).2) rfl g94 e96 ?_
            refine ev_aload_n dX3_says_86 rfl rfl ?_
            rcases zopt (R l0 3) with o98 | ⟨a97, o98⟩
            · have h9 := zmn o98 h
              cases h9
            replace h := zms o98 h
            refine em_getO dX3_says_87 zf_NineHeaps_Law_15 rfl (zKdB_hasR hS (by decide) g54) hw (hS.st (zKdB_hasR hS (by decide) g54) (by decide +kernel) _) o98 ?_
            refine ev_iconst dX3_says_90 (v := (5 : Int32)) zci_5 ?_
            refine ev_iload dX3_says_91 rfl ?_
            obtain ⟨g99, h⟩ := zgd h
            obtain ⟨g100, h⟩ := zgd h
            obtain ⟨J101, e102, h⟩ := zld h
            refine em_iastG dX3_says_93 (zKdB_hasR hS (by decide) g99) (N := (kd a97).2) rfl g100 e102 ?_
            refine ev_iconst dX3_says_94 (v := (0 : Int32)) zci_0 ?_
            refine ev_istore dX3_says_95 (by decide) rfl ?_
            refine ev_iconst dX3_says_97 (v := (0 : Int32)) zci_0 ?_
            refine ev_aload_n dX3_says_98 rfl rfl ?_
            rcases zopt (R l0 1) with o104 | ⟨a103, o104⟩
            · have h9 := zmn o104 h
              cases h9
            replace h := zms o104 h
            refine em_getO dX3_says_99 zf_NineHeaps_Law_29 rfl (zKdB_hasR hS (by decide) g54) hw (hS.st (zKdB_hasR hS (by decide) g54) (by decide +kernel) _) o104 ?_
            refine ev_iload_n dX3_says_102 rfl rfl ?_
            obtain ⟨g105, h⟩ := zgd h
            obtain ⟨g106, h⟩ := zgd h
            refine em_ialdG dX3_says_103 (zKdB_hasR hS (by decide) g105) (N := (kd a103).2) rfl g106 rfl ?_
            obtain ⟨x107, e108, h⟩ := zld h
            refine ev_max dX3_says_104 zl_NineHeaps_Law_45 zmm_max_s zn_java_lang_Math zmm_max_c (by omega) (Nat.le_of_ble_eq_true rfl) e108 ?_
            refine ev_istore dX3_says_107 (by decide) rfl ?_
            first | exact EV.mask [true, true, false, false, false, false, false, true, true, false, false, false] rfl (e3_says_L109 hw hS hd (fun l0' l1' l7' I' h' => e3_says_B241 hw hS hd l0' l1' l7' I' h') zF l0 l1 (0 : Int32) x107 J101 h) | (rw [← o60]; exact EV.mask [true, true, false, false, false, false, false, true, true, false, false, false] rfl (e3_says_L109 hw hS hd (fun l0' l1' l7' I' h' => e3_says_B241 hw hS hd l0' l1' l7' I' h') zF l0 l1 (0 : Int32) x107 J101 h))
          · replace h := zif c65 h
            refine ev_aload_n dX3_says_36 rfl rfl ?_
            rcases zopt (R l0 4) with o110 | ⟨a109, o110⟩
            · have h9 := zmn o110 h
              cases h9
            replace h := zms o110 h
            refine em_getO dX3_says_37 zf_NineHeaps_Law_18 rfl (zKdB_hasR hS (by decide) g54) hw (hS.st (zKdB_hasR hS (by decide) g54) (by decide +kernel) _) o110 ?_
            refine ev_iload_n dX3_says_40 rfl rfl ?_
            obtain ⟨g111, h⟩ := zgd h
            obtain ⟨g112, h⟩ := zgd h
            refine em_ialdG dX3_says_41 (zKdB_hasR hS (by decide) g111) (N := (kd a109).2) rfl g112 rfl ?_
            obtain rfl := Option.some.inj h
            exact ev_end_i dX3_says_42 rfl rfl ⟨rfl, rfl⟩
        · replace h := zmn o60 h
          refine ev_iconst dX3_says_24 (v := (0 : Int32)) zci_0 ?_
          obtain rfl := Option.some.inj h
          exact ev_end_i dX3_says_25 rfl rfl ⟨rfl, rfl⟩
abbrev q0_badness (n : Nat) (kd : zMK) (R : zMR) (r : Int32 × zMI) : Option Value → zM → Prop := fun v μ1 => v = some (.int r.1) ∧ μ1 = (n, kd, r.2, R)
set_option maxHeartbeats 4000000 in
set_option maxRecDepth 100000 in
theorem e0_badness_B62 {w : zW} {d : Nat} {n : Nat} {kd : zMK} {R : zMR} {r : Int32 × zMI} {k4 : Int32 → Int32 → zMI → Option (Int32 × zMI)} (hw : zst w = zSt0) (hS : zSh n kd) (hd : 4 ≤ d)  (hk4 : ∀ (l1 : Int32) (l2 : Int32) (I : zMI), k4 l1 l2 I = some r → EV w d 0 0 Y0_badness 4 [some (.ref 42), some (.int l1), some (.int l2), none] [] (n, kd, I, R) (q0_badness n kd R r)) : ∀ (l1 : Int32) (l2 : Int32) (I : zMI), f0_badness_B62 n kd R k4 l1 l2 I = some r → EV w d 0 0 Y0_badness 62 [some (.ref 42), some (.int l1), some (.int l2), none] [] (n, kd, I, R) (q0_badness n kd R r) := by
  intro l1 l2 I h
  unfold f0_badness_B62 at h
  refine ev_iinc dX0_badness_62 (v := l2 + (1 : Int32)) rfl rfl (by decide) rfl ?_
  refine ev_goto dX0_badness_65 (tgt := 4) (by decide) ?_
  exact EV.mask [true, true, true, false] rfl (hk4 l1 (l2 + (1 : Int32)) I h)
set_option maxHeartbeats 4000000 in
set_option maxRecDepth 100000 in
theorem e0_badness_L4 {w : zW} {d : Nat} {n : Nat} {kd : zMK} {R : zMR} {r : Int32 × zMI}  (hw : zst w = zSt0) (hS : zSh n kd) (hd : 4 ≤ d)   : ∀ (q : Nat) (l1 : Int32) (l2 : Int32) (I : zMI), f0_badness_L4 n kd R q l1 l2 I = some r → EV w d 0 0 Y0_badness 4 [some (.ref 42), some (.int l1), some (.int l2), none] [] (n, kd, I, R) (q0_badness n kd R r) := by
  intro q
  induction q with
  | zero =>
    intro l1 l2 I h
    cases h
  | succ q ih =>
    intro l1 l2 I h
    unfold f0_badness_L4 at h
    refine ev_iload_n dX0_badness_4 rfl rfl ?_
    refine ev_aload_n dX0_badness_5 rfl rfl ?_
    refine em_getI dX0_badness_6 zf_NineHeaps_Going_45 rfl (hS.has 42 (by decide) (by decide) rfl) rfl ?_
    refine ev_icmp_ge dX0_badness_9 (tgt := 68) (by decide) (fun c1 => ?_) (fun c1 => ?_)
    · replace h := zit c1 h
      refine ev_iload_n dX0_badness_68 rfl rfl ?_
      obtain rfl := Option.some.inj h
      exact ev_end_i dX0_badness_69 rfl rfl ⟨rfl, rfl⟩
    · replace h := zif c1 h
      refine ev_iload_n dX0_badness_12 rfl rfl ?_
      refine ev_iconst dX0_badness_13 (v := (5 : Int32)) zci_5 ?_
      refine ev_icmp_ge dX0_badness_14 (tgt := 68) (by decide) (fun c2 => ?_) (fun c2 => ?_)
      · replace h := zit c2 h
        refine ev_iload_n dX0_badness_68 rfl rfl ?_
        obtain rfl := Option.some.inj h
        exact ev_end_i dX0_badness_69 rfl rfl ⟨rfl, rfl⟩
      · replace h := zif c2 h
        refine ev_aload_n dX0_badness_17 rfl rfl ?_
        refine em_getA dX0_badness_18 zf_NineHeaps_Going_19 rfl (hS.has 42 (by decide) (by decide) rfl) hw rfl ?_
        refine ev_iload_n dX0_badness_21 rfl rfl ?_
        obtain ⟨g3, h⟩ := zgd h
        refine em_aaldO dX0_badness_22 hS (by decide) (by decide) (N := 5) rfl (by decide) (by decide) hw (fun _ => rfl) g3 rfl ?_
        refine ev_astore_no dX0_badness_23 rfl (by decide) rfl ?_
        refine ev_aload_no dX0_badness_24 rfl rfl ?_
        refine ev_ifnull_o dX0_badness_25 (tgt := 62) (by decide) (fun o5 => ?_) (fun a4 o5 => ?_)
        · replace h := zmn o5 h
          exact EV.mask [true, true, true, false] rfl (e0_badness_B62 hw hS hd (fun l1' l2' I' h' => ih l1' l2' I' h') l1 l2 I h)
        · replace h := zms o5 h
          refine ev_aload_n dX0_badness_28 rfl rfl ?_
          refine em_getO dX0_badness_29 zf_NineHeaps_Going_34 rfl (hS.has 42 (by decide) (by decide) rfl) hw rfl rfl ?_
          refine ev_ifnull_o dX0_badness_32 (tgt := 62) (by decide) (fun o7 => ?_) (fun a6 o7 => ?_)
          · replace h := zmn o7 h
            first | exact EV.mask [true, true, true, false] rfl (e0_badness_B62 hw hS hd (fun l1' l2' I' h' => ih l1' l2' I' h') l1 l2 I h) | (rw [← o5]; exact EV.mask [true, true, true, false] rfl (e0_badness_B62 hw hS hd (fun l1' l2' I' h' => ih l1' l2' I' h') l1 l2 I h))
          · replace h := zms o7 h
            refine ev_iload_n dX0_badness_35 rfl rfl ?_
            first | refine ev_aload_nk dX0_badness_36 rfl o5 rfl ?_ | refine ev_aload_nk dX0_badness_36 rfl rfl rfl ?_
            obtain ⟨g8, h⟩ := zgd h
            obtain ⟨cg8, wg8, yg8⟩ := zWkB_hasR hS g8
            refine em_getI dX0_badness_37 (zf_NineHeaps_Going_83 wg8) (by rcases wg8 with rfl | rfl | rfl | rfl | rfl | rfl <;> rfl) yg8 rfl ?_
            refine ev_aload_n dX0_badness_40 rfl rfl ?_
            refine em_getO (o := some a6) dX0_badness_41 zf_NineHeaps_Going_34 rfl (hS.has 42 (by decide) (by decide) rfl) hw rfl o7 ?_
            refine ev_iconst dX0_badness_44 (v := (2 : Int32)) zci_2 ?_
            first | refine ev_aload_nk dX0_badness_45 rfl o5 rfl ?_ | refine ev_aload_nk dX0_badness_45 rfl rfl rfl ?_
            refine ev_iconst dX0_badness_46 (v := (0 : Int32)) zci_0 ?_
            refine ev_iconst dX0_badness_47 (v := (0 : Int32)) zci_0 ?_
            first | refine ev_aload_nk dX0_badness_48 rfl o5 rfl ?_ | refine ev_aload_nk dX0_badness_48 rfl rfl rfl ?_
            refine em_getI dX0_badness_49 (zf_NineHeaps_Going_88 wg8) (by rcases wg8 with rfl | rfl | rfl | rfl | rfl | rfl <;> rfl) yg8 rfl ?_
            refine ev_aload_n dX0_badness_52 rfl rfl ?_
            refine em_getI dX0_badness_53 zf_NineHeaps_Going_42 rfl (hS.has 42 (by decide) (by decide) rfl) rfl ?_
            obtain ⟨g9, h⟩ := zgd h
            obtain ⟨p10, e11, h⟩ := zbd h
            refine ev_callV0 dX0_badness_56 zm3_says zl_NineHeaps_Going_91 zi3_says zv3_says (zrcLw hS g9) (As := [.int (2 : Int32), .ref a4, .int (0 : Int32), .int (0 : Int32), .int (I a4 6), .int (I 42 3)]) (rest := [.int (I a4 7), .int l1]) rfl rfl (Nat.le_of_ble_eq_true rfl) rfl (Nat.le_of_ble_eq_true rfl) (d' := 3) (by omega) (e3_says hw hS (Nat.le_refl _) e11) (fun v μ1 q => ?_)
            obtain ⟨rfl, rfl⟩ := q
            refine ev_imul dX0_badness_59 rfl ?_
            refine ev_iadd dX0_badness_60 rfl ?_
            obtain ⟨x12, e13, h⟩ := zld h
            refine ev_nm e13 ?_
            refine ev_istore_n dX0_badness_61 rfl (by decide) rfl ?_
            first | exact EV.mask [true, true, true, false] rfl (e0_badness_B62 hw hS hd (fun l1' l2' I' h' => ih l1' l2' I' h') x12 l2 p10.2 h) | (rw [← o5]; exact EV.mask [true, true, true, false] rfl (e0_badness_B62 hw hS hd (fun l1' l2' I' h' => ih l1' l2' I' h') x12 l2 p10.2 h))
set_option maxHeartbeats 4000000 in
set_option maxRecDepth 100000 in
theorem e0_badness {w : zW} {d : Nat} {n : Nat} {kd : zMK} {I : zMI} {R : zMR} {r : Int32 × zMI}  (hw : zst w = zSt0) (hS : zSh n kd) (hd : 4 ≤ d)  (h : f0_badness n kd R I = some r) : EV w d 0 0 Y0_badness 0 [some (.ref 42), none, none, none] [] (n, kd, I, R) (q0_badness n kd R r) := by
  unfold f0_badness at h
  refine ev_iconst dX0_badness_0 (v := (0 : Int32)) zci_0 ?_
  refine ev_istore_n dX0_badness_1 rfl (by decide) rfl ?_
  refine ev_iconst dX0_badness_2 (v := (0 : Int32)) zci_0 ?_
  refine ev_istore_n dX0_badness_3 rfl (by decide) rfl ?_
  exact EV.mask [true, true, true, false] rfl (e0_badness_L4 hw hS hd zF (0 : Int32) (0 : Int32) I h)
abbrev q0_endProgramme (n : Nat) (kd : zMK) (R : zMR) (r : zMI) : Option Value → zM → Prop := fun v μ1 => v = none ∧ μ1 = (n, kd, r, R)
set_option maxHeartbeats 4000000 in
set_option maxRecDepth 100000 in
theorem e0_endProgramme_B119 {w : zW} {d : Nat} {n : Nat} {kd : zMK} {R : zMR} {r : zMI}  (hw : zst w = zSt0) (hS : zSh n kd) (hd : 1 ≤ d)   : ∀ (l1 : Nat) (I : zMI), f0_endProgramme_B119 n kd l1 I = some r → EV w d 0 0 Y0_endProgramme 119 [none, some (.ref l1)] [] (n, kd, I, R) (q0_endProgramme n kd R r) := by
  intro l1 I h
  unfold f0_endProgramme_B119 at h
  refine ev_aload_n dX0_endProgramme_119 rfl rfl ?_
  refine ev_dup dX0_endProgramme_120 rfl ?_
  obtain ⟨g1, h⟩ := zgd h
  obtain ⟨cg1, wg1, yg1⟩ := zWkB_hasR hS g1
  refine em_getI dX0_endProgramme_121 (zf_NineHeaps_Going_88 wg1) (by rcases wg1 with rfl | rfl | rfl | rfl | rfl | rfl <;> rfl) yg1 rfl ?_
  refine ev_iconst dX0_endProgramme_124 (v := (1 : Int32)) zci_1 ?_
  refine ev_iadd dX0_endProgramme_125 rfl ?_
  obtain ⟨J2, e3, h⟩ := zld h
  refine em_putI dX0_endProgramme_126 (zf_NineHeaps_Going_88 wg1)  (by rcases wg1 with rfl | rfl | rfl | rfl | rfl | rfl <;> exact Or.inl rfl)  (by rcases wg1 with rfl | rfl | rfl | rfl | rfl | rfl <;> rfl)  (by rcases wg1 with rfl | rfl | rfl | rfl | rfl | rfl <;> rfl) (by rcases wg1 with rfl | rfl | rfl | rfl | rfl | rfl <;> rfl) yg1 e3 ?_
  refine ev_aload_n dX0_endProgramme_129 rfl rfl ?_
  refine ev_iconst dX0_endProgramme_130 (v := (0 : Int32)) zci_0 ?_
  obtain ⟨J4, e5, h⟩ := zld h
  refine em_putI dX0_endProgramme_131 (zf_NineHeaps_Going_138 wg1)  (by rcases wg1 with rfl | rfl | rfl | rfl | rfl | rfl <;> exact Or.inl rfl)  (by rcases wg1 with rfl | rfl | rfl | rfl | rfl | rfl <;> rfl)  (by rcases wg1 with rfl | rfl | rfl | rfl | rfl | rfl <;> rfl) (by rcases wg1 with rfl | rfl | rfl | rfl | rfl | rfl <;> rfl) yg1 e5 ?_
  refine ev_aload_n dX0_endProgramme_134 rfl rfl ?_
  refine ev_iconst dX0_endProgramme_135 (v := (0 : Int32)) zci_0 ?_
  obtain ⟨J6, e7, h⟩ := zld h
  refine em_putI dX0_endProgramme_136 (zf_NineHeaps_Going_131 wg1)  (by rcases wg1 with rfl | rfl | rfl | rfl | rfl | rfl <;> exact Or.inl rfl)  (by rcases wg1 with rfl | rfl | rfl | rfl | rfl | rfl <;> rfl)  (by rcases wg1 with rfl | rfl | rfl | rfl | rfl | rfl <;> rfl) (by rcases wg1 with rfl | rfl | rfl | rfl | rfl | rfl <;> rfl) yg1 e7 ?_
  refine ev_aload_n dX0_endProgramme_139 rfl rfl ?_
  refine ev_iconst dX0_endProgramme_140 (v := (0 : Int32)) zci_0 ?_
  obtain ⟨J8, e9, h⟩ := zld h
  refine em_putI dX0_endProgramme_141 (zf_NineHeaps_Going_135 wg1)  (by rcases wg1 with rfl | rfl | rfl | rfl | rfl | rfl <;> exact Or.inl rfl)  (by rcases wg1 with rfl | rfl | rfl | rfl | rfl | rfl <;> rfl)  (by rcases wg1 with rfl | rfl | rfl | rfl | rfl | rfl <;> rfl) (by rcases wg1 with rfl | rfl | rfl | rfl | rfl | rfl <;> rfl) yg1 e9 ?_
  obtain rfl := Option.some.inj h
  exact ev_end_v dX0_endProgramme_144 rfl ⟨rfl, rfl⟩
set_option maxHeartbeats 4000000 in
set_option maxRecDepth 100000 in
theorem e0_endProgramme_B90 {w : zW} {d : Nat} {n : Nat} {kd : zMK} {R : zMR} {r : zMI}  (hw : zst w = zSt0) (hS : zSh n kd) (hd : 1 ≤ d)   : ∀ (l1 : Nat) (I : zMI), f0_endProgramme_B90 n kd l1 I = some r → EV w d 0 0 Y0_endProgramme 90 [some (.ref 42), some (.ref l1)] [] (n, kd, I, R) (q0_endProgramme n kd R r) := by
  intro l1 I h
  unfold f0_endProgramme_B90 at h
  refine ev_aload_n dX0_endProgramme_90 rfl rfl ?_
  refine ev_dup dX0_endProgramme_91 rfl ?_
  refine em_getI dX0_endProgramme_92 zf_NineHeaps_Going_54 rfl (hS.has 42 (by decide) (by decide) rfl) rfl ?_
  refine ev_iconst dX0_endProgramme_95 (v := (1 : Int32)) zci_1 ?_
  refine ev_iadd dX0_endProgramme_96 rfl ?_
  obtain ⟨J10, e11, h⟩ := zld h
  refine em_putI dX0_endProgramme_97 zf_NineHeaps_Going_54 (Or.inl rfl) rfl rfl rfl (hS.has 42 (by decide) (by decide) rfl) e11 ?_
  refine ev_aload_n dX0_endProgramme_100 rfl rfl ?_
  refine em_getI dX0_endProgramme_101 zf_NineHeaps_Going_54 rfl (hS.has 42 (by decide) (by decide) rfl) rfl ?_
  refine ev_aload_n dX0_endProgramme_104 rfl rfl ?_
  refine em_getI dX0_endProgramme_105 zf_NineHeaps_Going_38 rfl (hS.has 42 (by decide) (by decide) rfl) rfl ?_
  refine ev_icmp_ne dX0_endProgramme_108 (tgt := 119) (by decide) (fun c12 => ?_) (fun c12 => ?_)
  · replace h := zif c12 h
    exact EV.mask [false, true] rfl (e0_endProgramme_B119 hw hS hd l1 J10 h)
  · replace h := zit c12 h
    refine ev_aload_n dX0_endProgramme_111 rfl rfl ?_
    refine ev_aload_n dX0_endProgramme_112 rfl rfl ?_
    refine em_getI dX0_endProgramme_113 zf_NineHeaps_Going_48 rfl (hS.has 42 (by decide) (by decide) rfl) rfl ?_
    obtain ⟨J13, e14, h⟩ := zld h
    refine em_putI dX0_endProgramme_116 zf_NineHeaps_Going_63 (Or.inl rfl) rfl rfl rfl (hS.has 42 (by decide) (by decide) rfl) e14 ?_
    exact EV.mask [false, true] rfl (e0_endProgramme_B119 hw hS hd l1 J13 h)
set_option maxHeartbeats 4000000 in
set_option maxRecDepth 100000 in
theorem e0_endProgramme_B51 {w : zW} {d : Nat} {n : Nat} {kd : zMK} {R : zMR} {r : zMI}  (hw : zst w = zSt0) (hS : zSh n kd) (hd : 1 ≤ d)   : ∀ (l1 : Nat) (I : zMI), f0_endProgramme_B51 n kd l1 I = some r → EV w d 0 0 Y0_endProgramme 51 [some (.ref 42), some (.ref l1)] [] (n, kd, I, R) (q0_endProgramme n kd R r) := by
  intro l1 I h
  unfold f0_endProgramme_B51 at h
  refine ev_aload_n dX0_endProgramme_51 rfl rfl ?_
  refine em_getI dX0_endProgramme_52 zf_NineHeaps_Going_51 rfl (hS.has 42 (by decide) (by decide) rfl) rfl ?_
  refine ev_if_lt dX0_endProgramme_55 (tgt := 90) (by decide) (fun c15 => ?_) (fun c15 => ?_)
  · replace h := zit c15 h
    exact EV.mask [true, true] rfl (e0_endProgramme_B90 hw hS hd l1 I h)
  · replace h := zif c15 h
    refine ev_aload_n dX0_endProgramme_58 rfl rfl ?_
    refine em_getI dX0_endProgramme_59 zf_NineHeaps_Going_51 rfl (hS.has 42 (by decide) (by decide) rfl) rfl ?_
    refine ev_bipush dX0_endProgramme_62 (v := (40 : Int32)) zcb_40 ?_
    refine ev_icmp_ge dX0_endProgramme_64 (tgt := 90) (by decide) (fun c16 => ?_) (fun c16 => ?_)
    · replace h := zit c16 h
      exact EV.mask [true, true] rfl (e0_endProgramme_B90 hw hS hd l1 I h)
    · replace h := zif c16 h
      refine ev_aload_n dX0_endProgramme_67 rfl rfl ?_
      refine em_getA dX0_endProgramme_68 zf_NineHeaps_Going_23 rfl (hS.has 42 (by decide) (by decide) rfl) hw rfl ?_
      refine ev_aload_n dX0_endProgramme_71 rfl rfl ?_
      refine em_getI dX0_endProgramme_72 zf_NineHeaps_Going_51 rfl (hS.has 42 (by decide) (by decide) rfl) rfl ?_
      refine ev_aload_n dX0_endProgramme_75 rfl rfl ?_
      refine em_getI dX0_endProgramme_76 zf_NineHeaps_Going_54 rfl (hS.has 42 (by decide) (by decide) rfl) rfl ?_
      obtain ⟨g17, h⟩ := zgd h
      obtain ⟨J18, e19, h⟩ := zld h
      refine em_iast dX0_endProgramme_79 hS (by decide) (by decide) (N := 40) rfl g17 e19 ?_
      refine ev_aload_n dX0_endProgramme_80 rfl rfl ?_
      refine ev_dup dX0_endProgramme_81 rfl ?_
      refine em_getI dX0_endProgramme_82 zf_NineHeaps_Going_51 rfl (hS.has 42 (by decide) (by decide) rfl) rfl ?_
      refine ev_iconst dX0_endProgramme_85 (v := (1 : Int32)) zci_1 ?_
      refine ev_iadd dX0_endProgramme_86 rfl ?_
      obtain ⟨J20, e21, h⟩ := zld h
      refine em_putI dX0_endProgramme_87 zf_NineHeaps_Going_51 (Or.inl rfl) rfl rfl rfl (hS.has 42 (by decide) (by decide) rfl) e21 ?_
      exact EV.mask [true, true] rfl (e0_endProgramme_B90 hw hS hd l1 J20 h)
set_option maxHeartbeats 4000000 in
set_option maxRecDepth 100000 in
theorem e0_endProgramme_B37 {w : zW} {d : Nat} {n : Nat} {kd : zMK} {R : zMR} {r : zMI}  (hw : zst w = zSt0) (hS : zSh n kd) (hd : 1 ≤ d)   : ∀ (l1 : Nat) (I : zMI), f0_endProgramme_B37 n kd l1 I = some r → EV w d 0 0 Y0_endProgramme 37 [some (.ref 42), some (.ref l1)] [] (n, kd, I, R) (q0_endProgramme n kd R r) := by
  intro l1 I h
  unfold f0_endProgramme_B37 at h
  refine ev_aload_n dX0_endProgramme_37 rfl rfl ?_
  obtain ⟨g22, h⟩ := zgd h
  obtain ⟨cg22, wg22, yg22⟩ := zWkB_hasR hS g22
  refine em_getI dX0_endProgramme_38 (zf_NineHeaps_Going_135 wg22) (by rcases wg22 with rfl | rfl | rfl | rfl | rfl | rfl <;> rfl) yg22 rfl ?_
  refine ev_if_ne dX0_endProgramme_41 (tgt := 51) (by decide) (fun c23 => ?_) (fun c23 => ?_)
  · replace h := zif c23 h
    exact EV.mask [true, true] rfl (e0_endProgramme_B51 hw hS hd l1 I h)
  · replace h := zit c23 h
    refine ev_aload_n dX0_endProgramme_44 rfl rfl ?_
    refine em_getI dX0_endProgramme_45 (zf_NineHeaps_Going_131 wg22) (by rcases wg22 with rfl | rfl | rfl | rfl | rfl | rfl <;> rfl) yg22 rfl ?_
    refine ev_if_eq dX0_endProgramme_48 (tgt := 90) (by decide) (fun c24 => ?_) (fun c24 => ?_)
    · replace h := zit c24 h
      exact EV.mask [true, true] rfl (e0_endProgramme_B90 hw hS hd l1 I h)
    · replace h := zif c24 h
      exact EV.mask [true, true] rfl (e0_endProgramme_B51 hw hS hd l1 I h)
set_option maxHeartbeats 4000000 in
set_option maxRecDepth 100000 in
theorem e0_endProgramme {w : zW} {d : Nat} {n : Nat} {kd : zMK} {I : zMI} {R : zMR} {r : zMI} {l1 : Nat} (hw : zst w = zSt0) (hS : zSh n kd) (hd : 1 ≤ d)  (h : f0_endProgramme n kd l1 I = some r) : EV w d 0 0 Y0_endProgramme 0 [some (.ref 42), some (.ref l1)] [] (n, kd, I, R) (q0_endProgramme n kd R r) := by
  unfold f0_endProgramme at h
  refine ev_aload_n dX0_endProgramme_0 rfl rfl ?_
  obtain ⟨g25, h⟩ := zgd h
  obtain ⟨cg25, wg25, yg25⟩ := zWkB_hasR hS g25
  refine em_getI dX0_endProgramme_1 (zf_NineHeaps_Going_135 wg25) (by rcases wg25 with rfl | rfl | rfl | rfl | rfl | rfl <;> rfl) yg25 rfl ?_
  refine ev_if_eq dX0_endProgramme_4 (tgt := 20) (by decide) (fun c26 => ?_) (fun c26 => ?_)
  · replace h := zit c26 h
    refine ev_aload_n dX0_endProgramme_20 rfl rfl ?_
    refine em_getI dX0_endProgramme_21 (zf_NineHeaps_Going_131 wg25) (by rcases wg25 with rfl | rfl | rfl | rfl | rfl | rfl <;> rfl) yg25 rfl ?_
    refine ev_if_eq dX0_endProgramme_24 (tgt := 37) (by decide) (fun c27 => ?_) (fun c27 => ?_)
    · replace h := zit c27 h
      exact EV.mask [true, true] rfl (e0_endProgramme_B37 hw hS hd l1 I h)
    · replace h := zif c27 h
      refine ev_aload_n dX0_endProgramme_27 rfl rfl ?_
      refine ev_dup dX0_endProgramme_28 rfl ?_
      refine em_getI dX0_endProgramme_29 zf_NineHeaps_Going_57 rfl (hS.has 42 (by decide) (by decide) rfl) rfl ?_
      refine ev_iconst dX0_endProgramme_32 (v := (1 : Int32)) zci_1 ?_
      refine ev_iadd dX0_endProgramme_33 rfl ?_
      obtain ⟨J28, e29, h⟩ := zld h
      refine em_putI dX0_endProgramme_34 zf_NineHeaps_Going_57 (Or.inl rfl) rfl rfl rfl (hS.has 42 (by decide) (by decide) rfl) e29 ?_
      exact EV.mask [true, true] rfl (e0_endProgramme_B37 hw hS hd l1 J28 h)
  · replace h := zif c26 h
    refine ev_aload_n dX0_endProgramme_7 rfl rfl ?_
    refine ev_dup dX0_endProgramme_8 rfl ?_
    refine em_getI dX0_endProgramme_9 zf_NineHeaps_Going_60 rfl (hS.has 42 (by decide) (by decide) rfl) rfl ?_
    refine ev_iconst dX0_endProgramme_12 (v := (1 : Int32)) zci_1 ?_
    refine ev_iadd dX0_endProgramme_13 rfl ?_
    obtain ⟨J30, e31, h⟩ := zld h
    refine em_putI dX0_endProgramme_14 zf_NineHeaps_Going_60 (Or.inl rfl) rfl rfl rfl (hS.has 42 (by decide) (by decide) rfl) e31 ?_
    refine ev_goto dX0_endProgramme_17 (tgt := 37) (by decide) ?_
    exact EV.mask [true, true] rfl (e0_endProgramme_B37 hw hS hd l1 J30 h)
abbrev q0_stepOf (n : Nat) (kd : zMK) (R : zMR) (r : Int32 × zMI) : Option Value → zM → Prop := fun v μ1 => v = some (.int r.1) ∧ μ1 = (n, kd, r.2, R)
set_option maxHeartbeats 4000000 in
set_option maxRecDepth 100000 in
theorem e0_stepOf_B33 {w : zW} {d : Nat} {n : Nat} {kd : zMK} {R : zMR} {r : Int32 × zMI}  (hw : zst w = zSt0) (hS : zSh n kd) (hd : 4 ≤ d)   : ∀ (l1 : Nat) (s0 : Int32) (I : zMI), f0_stepOf_B33 n kd R l1 s0 I = some r → EV w d 0 0 Y0_stepOf 33 [none, some (.ref l1), none, none, none] [.int s0] (n, kd, I, R) (q0_stepOf n kd R r) := by
  intro l1 s0 I h
  unfold f0_stepOf_B33 at h
  refine ev_istore dX0_stepOf_33 (by decide) rfl ?_
  refine ev_iconst dX0_stepOf_35 (v := (1 : Int32)) zci_1 ?_
  refine ev_aload_n dX0_stepOf_36 rfl rfl ?_
  refine ev_iload dX0_stepOf_37 rfl ?_
  obtain ⟨g1, h⟩ := zgd h
  obtain ⟨cg1, wg1, yg1⟩ := zWkB_hasR hS g1
  obtain ⟨p2, e3, h⟩ := zbd h
  refine ec_stepFor dX0_stepOf_39 zl_NineHeaps_Going_159 hw hS g1 e3 (by omega) (rest := [.int (1 : Int32)]) (Nat.le_of_ble_eq_true rfl) ?_
  obtain ⟨x4, e5, h⟩ := zld h
  refine ev_max dX0_stepOf_42 zl_NineHeaps_Going_156 zmm_max_s zn_java_lang_Math zmm_max_c (by omega) (Nat.le_of_ble_eq_true rfl) e5 ?_
  obtain rfl := Option.some.inj h
  exact ev_end_i dX0_stepOf_45 rfl rfl ⟨rfl, rfl⟩
set_option maxHeartbeats 4000000 in
set_option maxRecDepth 100000 in
theorem e0_stepOf {w : zW} {d : Nat} {n : Nat} {kd : zMK} {I : zMI} {R : zMR} {r : Int32 × zMI} {l1 : Nat} {l2 : Nat} {l3 : Int32} (hw : zst w = zSt0) (hS : zSh n kd) (hd : 4 ≤ d)  (h : f0_stepOf n kd R l1 l2 l3 I = some r) : EV w d 0 0 Y0_stepOf 0 [some (.ref 42), some (.ref l1), some (.ref l2), some (.int l3), none] [] (n, kd, I, R) (q0_stepOf n kd R r) := by
  unfold f0_stepOf at h
  refine ev_aload_n dX0_stepOf_0 rfl rfl ?_
  refine em_getO dX0_stepOf_1 zf_NineHeaps_Going_34 rfl (hS.has 42 (by decide) (by decide) rfl) hw rfl rfl ?_
  refine ev_ifnonnull_o dX0_stepOf_4 (tgt := 11) (by decide) (fun a6 o7 => ?_) (fun o7 => ?_)
  · replace h := zms o7 h
    refine ev_aload_n dX0_stepOf_11 rfl rfl ?_
    refine em_getO (o := some a6) dX0_stepOf_12 zf_NineHeaps_Going_34 rfl (hS.has 42 (by decide) (by decide) rfl) hw rfl o7 ?_
    refine ev_iconst dX0_stepOf_15 (v := (1 : Int32)) zci_1 ?_
    refine ev_aload_n dX0_stepOf_16 rfl rfl ?_
    refine ev_aload_n dX0_stepOf_17 rfl rfl ?_
    obtain ⟨g8, h⟩ := zgd h
    refine em_getI dX0_stepOf_18 zf_NineHeaps_Going_147 rfl (zHpB_has hS g8) rfl ?_
    refine ev_aload_n dX0_stepOf_21 rfl rfl ?_
    refine em_getI dX0_stepOf_22 zf_NineHeaps_Going_150 rfl (zHpB_has hS g8) rfl ?_
    refine ev_iload_n dX0_stepOf_25 rfl rfl ?_
    refine ev_aload_n dX0_stepOf_26 rfl rfl ?_
    refine em_getI dX0_stepOf_27 zf_NineHeaps_Going_42 rfl (hS.has 42 (by decide) (by decide) rfl) rfl ?_
    obtain ⟨g9, h⟩ := zgd h
    obtain ⟨p10, e11, h⟩ := zbd h
    refine ev_callV0 dX0_stepOf_30 zm3_says zl_NineHeaps_Going_91 zi3_says zv3_says (zrcLw hS g9) (As := [.int (1 : Int32), .ref l1, .int (I l2 0), .int (I l2 1), .int l3, .int (I 42 3)]) (rest := []) rfl rfl (Nat.le_of_ble_eq_true rfl) rfl (Nat.le_of_ble_eq_true rfl) (d' := 3) (by omega) (e3_says hw hS (Nat.le_refl _) e11) (fun v μ1 q => ?_)
    obtain ⟨rfl, rfl⟩ := q
    exact EV.mask [false, true, false, false, false] rfl (e0_stepOf_B33 hw hS hd l1 p10.1 p10.2 h)
  · replace h := zmn o7 h
    refine ev_iconst dX0_stepOf_7 (v := (1 : Int32)) zci_1 ?_
    refine ev_goto dX0_stepOf_8 (tgt := 33) (by decide) ?_
    exact EV.mask [false, true, false, false, false] rfl (e0_stepOf_B33 hw hS hd l1 (1 : Int32) I h)
abbrev q0_endTaking (n : Nat) (kd : zMK) (R : zMR) (r : zMI) : Option Value → zM → Prop := fun v μ1 => v = none ∧ μ1 = (n, kd, r, R)
set_option maxHeartbeats 4000000 in
set_option maxRecDepth 100000 in
theorem e0_endTaking_B66 {w : zW} {d : Nat} {n : Nat} {kd : zMK} {R : zMR} {r : zMI}  (hw : zst w = zSt0) (hS : zSh n kd) (hd : 5 ≤ d)   : ∀ (l1 : Nat) (l2 : Nat) (I : zMI), f0_endTaking_B66 n kd R l1 l2 I = some r → EV w d 0 0 Y0_endTaking 66 [some (.ref 42), some (.ref l1), some (.ref l2), none] [] (n, kd, I, R) (q0_endTaking n kd R r) := by
  intro l1 l2 I h
  unfold f0_endTaking_B66 at h
  refine ev_aload_n dX0_endTaking_66 rfl rfl ?_
  refine ev_iconst dX0_endTaking_67 (v := (0 : Int32)) zci_0 ?_
  obtain ⟨g1, h⟩ := zgd h
  obtain ⟨cg1, wg1, yg1⟩ := zWkB_hasR hS g1
  obtain ⟨J2, e3, h⟩ := zld h
  refine em_putI dX0_endTaking_68 (zf_NineHeaps_Going_109 wg1)  (by rcases wg1 with rfl | rfl | rfl | rfl | rfl | rfl <;> exact Or.inl rfl)  (by rcases wg1 with rfl | rfl | rfl | rfl | rfl | rfl <;> rfl)  (by rcases wg1 with rfl | rfl | rfl | rfl | rfl | rfl <;> rfl) (by rcases wg1 with rfl | rfl | rfl | rfl | rfl | rfl <;> rfl) yg1 e3 ?_
  refine ev_aload_n dX0_endTaking_71 rfl rfl ?_
  refine ev_aload_n dX0_endTaking_72 rfl rfl ?_
  refine ev_aload_n dX0_endTaking_73 rfl rfl ?_
  refine ev_aload_n dX0_endTaking_74 rfl rfl ?_
  refine ev_aload_n dX0_endTaking_75 rfl rfl ?_
  refine em_getI dX0_endTaking_76 (zf_NineHeaps_Going_88 wg1) (by rcases wg1 with rfl | rfl | rfl | rfl | rfl | rfl <;> rfl) yg1 rfl ?_
  obtain ⟨p4, e5, h⟩ := zbd h
  refine ev_callV0 dX0_endTaking_79 zm0_stepOf zl_NineHeaps_Going_144 zi0_stepOf zv0_stepOf (zrcG hS) (As := [.ref l1, .ref l2, .int (J2 l1 6)]) (rest := [.ref l1]) rfl rfl (Nat.le_of_ble_eq_true rfl) rfl (Nat.le_of_ble_eq_true rfl) (d' := 4) (by omega) (e0_stepOf hw hS (Nat.le_refl _) e5) (fun v μ1 q => ?_)
  obtain ⟨rfl, rfl⟩ := q
  obtain ⟨J6, e7, h⟩ := zld h
  refine em_putI dX0_endTaking_82 (zf_NineHeaps_Going_95 wg1)  (by rcases wg1 with rfl | rfl | rfl | rfl | rfl | rfl <;> exact Or.inl rfl)  (by rcases wg1 with rfl | rfl | rfl | rfl | rfl | rfl <;> rfl)  (by rcases wg1 with rfl | rfl | rfl | rfl | rfl | rfl <;> rfl) (by rcases wg1 with rfl | rfl | rfl | rfl | rfl | rfl <;> rfl) yg1 e7 ?_
  refine ev_aload_n dX0_endTaking_85 rfl rfl ?_
  refine ev_aload_n dX0_endTaking_86 rfl rfl ?_
  refine em_getI dX0_endTaking_87 (zf_NineHeaps_Going_102 wg1) (by rcases wg1 with rfl | rfl | rfl | rfl | rfl | rfl <;> rfl) yg1 rfl ?_
  refine ev_iconst dX0_endTaking_90 (v := (1 : Int32)) zci_1 ?_
  refine ev_iadd dX0_endTaking_91 rfl ?_
  refine ev_bipush dX0_endTaking_92 (v := (9 : Int32)) zcb_9 ?_
  refine ev_irem dX0_endTaking_94 (by decide) rfl ?_
  obtain ⟨J8, e9, h⟩ := zld h
  refine em_putI dX0_endTaking_95 (zf_NineHeaps_Going_102 wg1)  (by rcases wg1 with rfl | rfl | rfl | rfl | rfl | rfl <;> exact Or.inl rfl)  (by rcases wg1 with rfl | rfl | rfl | rfl | rfl | rfl <;> rfl)  (by rcases wg1 with rfl | rfl | rfl | rfl | rfl | rfl <;> rfl) (by rcases wg1 with rfl | rfl | rfl | rfl | rfl | rfl <;> rfl) yg1 e9 ?_
  obtain rfl := Option.some.inj h
  exact ev_end_v dX0_endTaking_98 rfl ⟨rfl, rfl⟩
set_option maxHeartbeats 4000000 in
set_option maxRecDepth 100000 in
theorem e0_endTaking_B42 {w : zW} {d : Nat} {n : Nat} {kd : zMK} {R : zMR} {r : zMI}  (hw : zst w = zSt0) (hS : zSh n kd) (hd : 5 ≤ d)   : ∀ (l1 : Nat) (l2 : Nat) (I : zMI), f0_endTaking_B42 n kd R l1 l2 I = some r → EV w d 0 0 Y0_endTaking 42 [some (.ref 42), some (.ref l1), some (.ref l2), none] [] (n, kd, I, R) (q0_endTaking n kd R r) := by
  intro l1 l2 I h
  unfold f0_endTaking_B42 at h
  refine ev_aload_n dX0_endTaking_42 rfl rfl ?_
  refine ev_dup dX0_endTaking_43 rfl ?_
  obtain ⟨g10, h⟩ := zgd h
  obtain ⟨cg10, wg10, yg10⟩ := zWkB_hasR hS g10
  refine em_getI dX0_endTaking_44 (zf_NineHeaps_Going_138 wg10) (by rcases wg10 with rfl | rfl | rfl | rfl | rfl | rfl <;> rfl) yg10 rfl ?_
  refine ev_iconst dX0_endTaking_47 (v := (1 : Int32)) zci_1 ?_
  refine ev_iadd dX0_endTaking_48 rfl ?_
  obtain ⟨J11, e12, h⟩ := zld h
  refine em_putI dX0_endTaking_49 (zf_NineHeaps_Going_138 wg10)  (by rcases wg10 with rfl | rfl | rfl | rfl | rfl | rfl <;> exact Or.inl rfl)  (by rcases wg10 with rfl | rfl | rfl | rfl | rfl | rfl <;> rfl)  (by rcases wg10 with rfl | rfl | rfl | rfl | rfl | rfl <;> rfl) (by rcases wg10 with rfl | rfl | rfl | rfl | rfl | rfl <;> rfl) yg10 e12 ?_
  refine ev_aload_n dX0_endTaking_52 rfl rfl ?_
  refine em_getI dX0_endTaking_53 (zf_NineHeaps_Going_138 wg10) (by rcases wg10 with rfl | rfl | rfl | rfl | rfl | rfl <;> rfl) yg10 rfl ?_
  refine ev_bipush dX0_endTaking_56 (v := (9 : Int32)) zcb_9 ?_
  refine ev_icmp_ne dX0_endTaking_58 (tgt := 66) (by decide) (fun c13 => ?_) (fun c13 => ?_)
  · replace h := zif c13 h
    exact EV.mask [true, true, true, false] rfl (e0_endTaking_B66 hw hS hd l1 l2 J11 h)
  · replace h := zit c13 h
    refine ev_aload_n dX0_endTaking_61 rfl rfl ?_
    refine ev_aload_n dX0_endTaking_62 rfl rfl ?_
    obtain ⟨p14, e15, h⟩ := zbd h
    refine ev_callV0 dX0_endTaking_63 zm0_endProgramme zl_NineHeaps_Going_141 zi0_endProgramme zv0_endProgramme (zrcG hS) (As := [.ref l1]) (rest := []) rfl rfl (Nat.le_of_ble_eq_true rfl) rfl (Nat.le_of_ble_eq_true rfl) (d' := 1) (by omega) (e0_endProgramme hw hS (Nat.le_refl _) e15) (fun v μ1 q => ?_)
    obtain ⟨rfl, rfl⟩ := q
    exact EV.mask [true, true, true, false] rfl (e0_endTaking_B66 hw hS hd l1 l2 p14 h)
set_option maxHeartbeats 4000000 in
set_option maxRecDepth 100000 in
theorem e0_endTaking {w : zW} {d : Nat} {n : Nat} {kd : zMK} {I : zMI} {R : zMR} {r : zMI} {l1 : Nat} {l2 : Nat} (hw : zst w = zSt0) (hS : zSh n kd) (hd : 5 ≤ d)  (h : f0_endTaking n kd R l1 l2 I = some r) : EV w d 0 0 Y0_endTaking 0 [some (.ref 42), some (.ref l1), some (.ref l2), none] [] (n, kd, I, R) (q0_endTaking n kd R r) := by
  unfold f0_endTaking at h
  refine ev_aload_n dX0_endTaking_0 rfl rfl ?_
  refine ev_dup dX0_endTaking_1 rfl ?_
  obtain ⟨g16, h⟩ := zgd h
  refine em_getI dX0_endTaking_2 zf_NineHeaps_Going_116 rfl (zHpB_has hS g16) rfl ?_
  refine ev_iconst dX0_endTaking_5 (v := (1 : Int32)) zci_1 ?_
  refine ev_isub dX0_endTaking_6 rfl ?_
  obtain ⟨J17, e18, h⟩ := zld h
  refine em_putI dX0_endTaking_7 zf_NineHeaps_Going_116 (Or.inl rfl) rfl rfl rfl (zHpB_has hS g16) e18 ?_
  refine ev_aload_n dX0_endTaking_10 rfl rfl ?_
  refine ev_aload_n dX0_endTaking_11 rfl rfl ?_
  refine em_getI dX0_endTaking_12 zf_NineHeaps_Going_48 rfl (hS.has 42 (by decide) (by decide) rfl) rfl ?_
  obtain ⟨p19, e20, h⟩ := zbd h
  refine ev_callV0 dX0_endTaking_15 zm2_lift zl_NineHeaps_Going_127 zi2_lift zv2_lift (zrcHp hS g16) (As := [.int (J17 42 5)]) (rest := []) rfl rfl (Nat.le_of_ble_eq_true rfl) rfl (Nat.le_of_ble_eq_true rfl) (d' := 1) (by omega) (e2_lift hw hS (Nat.le_refl _) e20) (fun v μ1 q => ?_)
  obtain ⟨rfl, rfl⟩ := q
  refine ev_istore_n dX0_endTaking_18 rfl (by decide) rfl ?_
  refine ev_iload_n dX0_endTaking_19 rfl rfl ?_
  refine ev_iconst dX0_endTaking_20 (v := (1 : Int32)) zci_1 ?_
  refine ev_icmp_ne dX0_endTaking_21 (tgt := 32) (by decide) (fun c21 => ?_) (fun c21 => ?_)
  · replace h := zif c21 h
    refine ev_iload_n dX0_endTaking_32 rfl rfl ?_
    refine ev_iconst dX0_endTaking_33 (v := (2 : Int32)) zci_2 ?_
    refine ev_icmp_ne dX0_endTaking_34 (tgt := 42) (by decide) (fun c22 => ?_) (fun c22 => ?_)
    · replace h := zif c22 h
      exact EV.mask [true, true, true, false] rfl (e0_endTaking_B42 hw hS hd l1 l2 p19.2 h)
    · replace h := zit c22 h
      refine ev_aload_n dX0_endTaking_37 rfl rfl ?_
      refine ev_iconst dX0_endTaking_38 (v := (1 : Int32)) zci_1 ?_
      obtain ⟨g23, h⟩ := zgd h
      obtain ⟨cg23, wg23, yg23⟩ := zWkB_hasR hS g23
      obtain ⟨J24, e25, h⟩ := zld h
      refine em_putI dX0_endTaking_39 (zf_NineHeaps_Going_135 wg23)  (by rcases wg23 with rfl | rfl | rfl | rfl | rfl | rfl <;> exact Or.inl rfl)  (by rcases wg23 with rfl | rfl | rfl | rfl | rfl | rfl <;> rfl)  (by rcases wg23 with rfl | rfl | rfl | rfl | rfl | rfl <;> rfl) (by rcases wg23 with rfl | rfl | rfl | rfl | rfl | rfl <;> rfl) yg23 e25 ?_
      exact EV.mask [true, true, true, false] rfl (e0_endTaking_B42 hw hS hd l1 l2 J24 h)
  · replace h := zit c21 h
    refine ev_aload_n dX0_endTaking_24 rfl rfl ?_
    refine ev_iconst dX0_endTaking_25 (v := (1 : Int32)) zci_1 ?_
    obtain ⟨g26, h⟩ := zgd h
    obtain ⟨cg26, wg26, yg26⟩ := zWkB_hasR hS g26
    obtain ⟨J27, e28, h⟩ := zld h
    refine em_putI dX0_endTaking_26 (zf_NineHeaps_Going_131 wg26)  (by rcases wg26 with rfl | rfl | rfl | rfl | rfl | rfl <;> exact Or.inl rfl)  (by rcases wg26 with rfl | rfl | rfl | rfl | rfl | rfl <;> rfl)  (by rcases wg26 with rfl | rfl | rfl | rfl | rfl | rfl <;> rfl) (by rcases wg26 with rfl | rfl | rfl | rfl | rfl | rfl <;> rfl) yg26 e28 ?_
    refine ev_goto dX0_endTaking_29 (tgt := 42) (by decide) ?_
    exact EV.mask [true, true, true, false] rfl (e0_endTaking_B42 hw hS hd l1 l2 J27 h)
abbrev q0_takesOf (n : Nat) (kd : zMK) (R : zMR) (r : Int32 × zMI) : Option Value → zM → Prop := fun v μ1 => v = some (.int r.1) ∧ μ1 = (n, kd, r.2, R)
set_option maxHeartbeats 4000000 in
set_option maxRecDepth 100000 in
theorem e0_takesOf_B33 {w : zW} {d : Nat} {n : Nat} {kd : zMK} {R : zMR} {r : Int32 × zMI}  (hw : zst w = zSt0) (hS : zSh n kd) (hd : 4 ≤ d)   : ∀ (l1 : Nat) (l3 : Int32) (s0 : Int32) (I : zMI), f0_takesOf_B33 n kd R l1 l3 s0 I = some r → EV w d 0 0 Y0_takesOf 33 [none, some (.ref l1), none, some (.int l3), none] [.int s0] (n, kd, I, R) (q0_takesOf n kd R r) := by
  intro l1 l3 s0 I h
  unfold f0_takesOf_B33 at h
  refine ev_istore dX0_takesOf_33 (by decide) rfl ?_
  refine ev_iconst dX0_takesOf_35 (v := (1 : Int32)) zci_1 ?_
  refine ev_aload_n dX0_takesOf_36 rfl rfl ?_
  refine ev_iload dX0_takesOf_37 rfl ?_
  refine ev_iload_n dX0_takesOf_39 rfl rfl ?_
  obtain ⟨g1, h⟩ := zgd h
  obtain ⟨cg1, wg1, yg1⟩ := zWkB_hasR hS g1
  obtain ⟨p2, e3, h⟩ := zbd h
  refine ec_takesFor dX0_takesOf_40 zl_NineHeaps_Going_153 hw hS g1 e3 (by omega) (rest := [.int (1 : Int32)]) (Nat.le_of_ble_eq_true rfl) ?_
  obtain ⟨x4, e5, h⟩ := zld h
  refine ev_max dX0_takesOf_43 zl_NineHeaps_Going_156 zmm_max_s zn_java_lang_Math zmm_max_c (by omega) (Nat.le_of_ble_eq_true rfl) e5 ?_
  obtain rfl := Option.some.inj h
  exact ev_end_i dX0_takesOf_46 rfl rfl ⟨rfl, rfl⟩
set_option maxHeartbeats 4000000 in
set_option maxRecDepth 100000 in
theorem e0_takesOf {w : zW} {d : Nat} {n : Nat} {kd : zMK} {I : zMI} {R : zMR} {r : Int32 × zMI} {l1 : Nat} {l2 : Nat} {l3 : Int32} (hw : zst w = zSt0) (hS : zSh n kd) (hd : 4 ≤ d)  (h : f0_takesOf n kd R l1 l2 l3 I = some r) : EV w d 0 0 Y0_takesOf 0 [some (.ref 42), some (.ref l1), some (.ref l2), some (.int l3), none] [] (n, kd, I, R) (q0_takesOf n kd R r) := by
  unfold f0_takesOf at h
  refine ev_aload_n dX0_takesOf_0 rfl rfl ?_
  refine em_getO dX0_takesOf_1 zf_NineHeaps_Going_34 rfl (hS.has 42 (by decide) (by decide) rfl) hw rfl rfl ?_
  refine ev_ifnonnull_o dX0_takesOf_4 (tgt := 11) (by decide) (fun a6 o7 => ?_) (fun o7 => ?_)
  · replace h := zms o7 h
    refine ev_aload_n dX0_takesOf_11 rfl rfl ?_
    refine em_getO (o := some a6) dX0_takesOf_12 zf_NineHeaps_Going_34 rfl (hS.has 42 (by decide) (by decide) rfl) hw rfl o7 ?_
    refine ev_iconst dX0_takesOf_15 (v := (0 : Int32)) zci_0 ?_
    refine ev_aload_n dX0_takesOf_16 rfl rfl ?_
    refine ev_aload_n dX0_takesOf_17 rfl rfl ?_
    obtain ⟨g8, h⟩ := zgd h
    refine em_getI dX0_takesOf_18 zf_NineHeaps_Going_147 rfl (zHpB_has hS g8) rfl ?_
    refine ev_aload_n dX0_takesOf_21 rfl rfl ?_
    refine em_getI dX0_takesOf_22 zf_NineHeaps_Going_150 rfl (zHpB_has hS g8) rfl ?_
    refine ev_iload_n dX0_takesOf_25 rfl rfl ?_
    refine ev_aload_n dX0_takesOf_26 rfl rfl ?_
    refine em_getI dX0_takesOf_27 zf_NineHeaps_Going_42 rfl (hS.has 42 (by decide) (by decide) rfl) rfl ?_
    obtain ⟨g9, h⟩ := zgd h
    obtain ⟨p10, e11, h⟩ := zbd h
    refine ev_callV0 dX0_takesOf_30 zm3_says zl_NineHeaps_Going_91 zi3_says zv3_says (zrcLw hS g9) (As := [.int (0 : Int32), .ref l1, .int (I l2 0), .int (I l2 1), .int l3, .int (I 42 3)]) (rest := []) rfl rfl (Nat.le_of_ble_eq_true rfl) rfl (Nat.le_of_ble_eq_true rfl) (d' := 3) (by omega) (e3_says hw hS (Nat.le_refl _) e11) (fun v μ1 q => ?_)
    obtain ⟨rfl, rfl⟩ := q
    exact EV.mask [false, true, false, true, false] rfl (e0_takesOf_B33 hw hS hd l1 l3 p10.1 p10.2 h)
  · replace h := zmn o7 h
    refine ev_iconst dX0_takesOf_7 (v := (1 : Int32)) zci_1 ?_
    refine ev_goto dX0_takesOf_8 (tgt := 33) (by decide) ?_
    exact EV.mask [false, true, false, true, false] rfl (e0_takesOf_B33 hw hS hd l1 l3 (1 : Int32) I h)
abbrev q0_moveOn (n : Nat) (kd : zMK) (R : zMR) (r : zMI) : Option Value → zM → Prop := fun v μ1 => v = none ∧ μ1 = (n, kd, r, R)
set_option maxHeartbeats 4000000 in
set_option maxRecDepth 100000 in
theorem e0_moveOn_B63 {w : zW} {d : Nat} {n : Nat} {kd : zMK} {R : zMR} {r : zMI}  (hw : zst w = zSt0) (hS : zSh n kd) (hd : 6 ≤ d)   : ∀ (l1 : Nat) (l2 : Nat) (I : zMI), f0_moveOn_B63 n kd R l1 l2 I = some r → EV w d 0 0 Y0_moveOn 63 [some (.ref 42), some (.ref l1), some (.ref l2)] [] (n, kd, I, R) (q0_moveOn n kd R r) := by
  intro l1 l2 I h
  unfold f0_moveOn_B63 at h
  refine ev_aload_n dX0_moveOn_63 rfl rfl ?_
  refine ev_iconst dX0_moveOn_64 (v := (2 : Int32)) zci_2 ?_
  obtain ⟨g1, h⟩ := zgd h
  obtain ⟨cg1, wg1, yg1⟩ := zWkB_hasR hS g1
  obtain ⟨J2, e3, h⟩ := zld h
  refine em_putI dX0_moveOn_65 (zf_NineHeaps_Going_109 wg1)  (by rcases wg1 with rfl | rfl | rfl | rfl | rfl | rfl <;> exact Or.inl rfl)  (by rcases wg1 with rfl | rfl | rfl | rfl | rfl | rfl <;> rfl)  (by rcases wg1 with rfl | rfl | rfl | rfl | rfl | rfl <;> rfl) (by rcases wg1 with rfl | rfl | rfl | rfl | rfl | rfl <;> rfl) yg1 e3 ?_
  refine ev_aload_n dX0_moveOn_68 rfl rfl ?_
  refine ev_aload_n dX0_moveOn_69 rfl rfl ?_
  refine ev_aload_n dX0_moveOn_70 rfl rfl ?_
  refine ev_aload_n dX0_moveOn_71 rfl rfl ?_
  refine ev_aload_n dX0_moveOn_72 rfl rfl ?_
  refine em_getI dX0_moveOn_73 (zf_NineHeaps_Going_88 wg1) (by rcases wg1 with rfl | rfl | rfl | rfl | rfl | rfl <;> rfl) yg1 rfl ?_
  obtain ⟨p4, e5, h⟩ := zbd h
  refine ev_callV0 dX0_moveOn_76 zm0_takesOf zl_NineHeaps_Going_123 zi0_takesOf zv0_takesOf (zrcG hS) (As := [.ref l1, .ref l2, .int (J2 l1 6)]) (rest := [.ref l1]) rfl rfl (Nat.le_of_ble_eq_true rfl) rfl (Nat.le_of_ble_eq_true rfl) (d' := 4) (by omega) (e0_takesOf hw hS (Nat.le_refl _) e5) (fun v μ1 q => ?_)
  obtain ⟨rfl, rfl⟩ := q
  obtain ⟨J6, e7, h⟩ := zld h
  refine em_putI dX0_moveOn_79 (zf_NineHeaps_Going_95 wg1)  (by rcases wg1 with rfl | rfl | rfl | rfl | rfl | rfl <;> exact Or.inl rfl)  (by rcases wg1 with rfl | rfl | rfl | rfl | rfl | rfl <;> rfl)  (by rcases wg1 with rfl | rfl | rfl | rfl | rfl | rfl <;> rfl) (by rcases wg1 with rfl | rfl | rfl | rfl | rfl | rfl <;> rfl) yg1 e7 ?_
  refine ev_aload_n dX0_moveOn_82 rfl rfl ?_
  refine ev_dup dX0_moveOn_83 rfl ?_
  obtain ⟨g8, h⟩ := zgd h
  refine em_getI dX0_moveOn_84 zf_NineHeaps_Going_116 rfl (zHpB_has hS g8) rfl ?_
  refine ev_iconst dX0_moveOn_87 (v := (1 : Int32)) zci_1 ?_
  refine ev_iadd dX0_moveOn_88 rfl ?_
  obtain ⟨J9, e10, h⟩ := zld h
  refine em_putI dX0_moveOn_89 zf_NineHeaps_Going_116 (Or.inl rfl) rfl rfl rfl (zHpB_has hS g8) e10 ?_
  obtain rfl := Option.some.inj h
  exact ev_end_v dX0_moveOn_92 rfl ⟨rfl, rfl⟩
set_option maxHeartbeats 4000000 in
set_option maxRecDepth 100000 in
theorem e0_moveOn {w : zW} {d : Nat} {n : Nat} {kd : zMK} {I : zMI} {R : zMR} {r : zMI} {l1 : Nat} (hw : zst w = zSt0) (hS : zSh n kd) (hd : 6 ≤ d)  (h : f0_moveOn n kd R l1 I = some r) : EV w d 0 0 Y0_moveOn 0 [some (.ref 42), some (.ref l1), none] [] (n, kd, I, R) (q0_moveOn n kd R r) := by
  unfold f0_moveOn at h
  refine ev_aload_n dX0_moveOn_0 rfl rfl ?_
  refine ev_aload_n dX0_moveOn_1 rfl rfl ?_
  obtain ⟨g11, h⟩ := zgd h
  obtain ⟨cg11, wg11, yg11⟩ := zWkB_hasR hS g11
  refine em_getI dX0_moveOn_2 (zf_NineHeaps_Going_102 wg11) (by rcases wg11 with rfl | rfl | rfl | rfl | rfl | rfl <;> rfl) yg11 rfl ?_
  obtain ⟨p12, e13, h⟩ := zbd h
  refine ev_callV0 dX0_moveOn_5 zm0_heapAt zl_NineHeaps_Going_105 zi0_heapAt zv0_heapAt (zrcG hS) (As := [.int (I l1 3)]) (rest := []) rfl rfl (Nat.le_of_ble_eq_true rfl) rfl (Nat.le_of_ble_eq_true rfl) (d' := 2) (by omega) (e0_heapAt hw hS (Nat.le_refl _) e13) (fun v μ1 q => ?_)
  obtain ⟨rfl, rfl⟩ := q
  refine ev_astore_n dX0_moveOn_8 rfl (by decide) rfl ?_
  refine ev_aload_n dX0_moveOn_9 rfl rfl ?_
  refine ev_iconst dX0_moveOn_10 (v := (0 : Int32)) zci_0 ?_
  obtain ⟨J14, e15, h⟩ := zld h
  refine em_putI dX0_moveOn_11 (zf_NineHeaps_Going_95 wg11)  (by rcases wg11 with rfl | rfl | rfl | rfl | rfl | rfl <;> exact Or.inl rfl)  (by rcases wg11 with rfl | rfl | rfl | rfl | rfl | rfl <;> rfl)  (by rcases wg11 with rfl | rfl | rfl | rfl | rfl | rfl <;> rfl) (by rcases wg11 with rfl | rfl | rfl | rfl | rfl | rfl <;> rfl) yg11 e15 ?_
  refine ev_aload_n dX0_moveOn_14 rfl rfl ?_
  refine em_getI dX0_moveOn_15 (zf_NineHeaps_Going_109 wg11) (by rcases wg11 with rfl | rfl | rfl | rfl | rfl | rfl <;> rfl) yg11 rfl ?_
  refine ev_iconst dX0_moveOn_18 (v := (2 : Int32)) zci_2 ?_
  refine ev_icmp_ne dX0_moveOn_19 (tgt := 31) (by decide) (fun c16 => ?_) (fun c16 => ?_)
  · replace h := zif c16 h
    refine ev_aload_n dX0_moveOn_31 rfl rfl ?_
    obtain ⟨g17, h⟩ := zgd h
    refine em_getI dX0_moveOn_32 zf_NineHeaps_Going_116 rfl (zHpB_has hS g17) rfl ?_
    refine ev_if_le dX0_moveOn_35 (tgt := 63) (by decide) (fun c18 => ?_) (fun c18 => ?_)
    · replace h := zit c18 h
      exact EV.mask [true, true, true] rfl (e0_moveOn_B63 hw hS hd l1 p12 J14 h)
    · replace h := zif c18 h
      refine ev_aload_n dX0_moveOn_38 rfl rfl ?_
      obtain ⟨p19, e20, h⟩ := zbd h
      refine ec_waits dX0_moveOn_39 zl_NineHeaps_Going_119 hw hS g11 e20 (by omega) (rest := []) (Nat.le_of_ble_eq_true rfl) ?_
      refine ev_if_eq dX0_moveOn_42 (tgt := 63) (by decide) (fun c21 => ?_) (fun c21 => ?_)
      · replace h := zit c21 h
        exact EV.mask [true, true, true] rfl (e0_moveOn_B63 hw hS hd l1 p12 J14 h)
      · replace h := zif c21 h
        refine ev_aload_n dX0_moveOn_45 rfl rfl ?_
        refine ev_iconst dX0_moveOn_46 (v := (1 : Int32)) zci_1 ?_
        obtain ⟨J22, e23, h⟩ := zld h
        refine em_putI dX0_moveOn_47 (zf_NineHeaps_Going_109 wg11)  (by rcases wg11 with rfl | rfl | rfl | rfl | rfl | rfl <;> exact Or.inl rfl)  (by rcases wg11 with rfl | rfl | rfl | rfl | rfl | rfl <;> rfl)  (by rcases wg11 with rfl | rfl | rfl | rfl | rfl | rfl <;> rfl) (by rcases wg11 with rfl | rfl | rfl | rfl | rfl | rfl <;> rfl) yg11 e23 ?_
        refine ev_aload_n dX0_moveOn_50 rfl rfl ?_
        refine ev_dup dX0_moveOn_51 rfl ?_
        refine em_getI dX0_moveOn_52 (zf_NineHeaps_Going_83 wg11) (by rcases wg11 with rfl | rfl | rfl | rfl | rfl | rfl <;> rfl) yg11 rfl ?_
        refine ev_iconst dX0_moveOn_55 (v := (1 : Int32)) zci_1 ?_
        refine ev_iadd dX0_moveOn_56 rfl ?_
        obtain ⟨J24, e25, h⟩ := zld h
        refine em_putI dX0_moveOn_57 (zf_NineHeaps_Going_83 wg11)  (by rcases wg11 with rfl | rfl | rfl | rfl | rfl | rfl <;> exact Or.inl rfl)  (by rcases wg11 with rfl | rfl | rfl | rfl | rfl | rfl <;> rfl)  (by rcases wg11 with rfl | rfl | rfl | rfl | rfl | rfl <;> rfl) (by rcases wg11 with rfl | rfl | rfl | rfl | rfl | rfl <;> rfl) yg11 e25 ?_
        refine ev_goto dX0_moveOn_60 (tgt := 92) (by decide) ?_
        obtain rfl := Option.some.inj h
        exact ev_end_v dX0_moveOn_92 rfl ⟨rfl, rfl⟩
  · replace h := zit c16 h
    refine ev_aload_n dX0_moveOn_22 rfl rfl ?_
    refine ev_aload_n dX0_moveOn_23 rfl rfl ?_
    refine ev_aload_n dX0_moveOn_24 rfl rfl ?_
    obtain ⟨p26, e27, h⟩ := zbd h
    refine ev_callV0 dX0_moveOn_25 zm0_endTaking zl_NineHeaps_Going_112 zi0_endTaking zv0_endTaking (zrcG hS) (As := [.ref l1, .ref p12]) (rest := []) rfl rfl (Nat.le_of_ble_eq_true rfl) rfl (Nat.le_of_ble_eq_true rfl) (d' := 5) (by omega) (e0_endTaking hw hS (Nat.le_refl _) e27) (fun v μ1 q => ?_)
    obtain ⟨rfl, rfl⟩ := q
    refine ev_goto dX0_moveOn_28 (tgt := 92) (by decide) ?_
    obtain rfl := Option.some.inj h
    exact ev_end_v dX0_moveOn_92 rfl ⟨rfl, rfl⟩
abbrev q0_pass (n : Nat) (kd : zMK) (R : zMR) (r : zMI) : Option Value → zM → Prop := fun v μ1 => v = none ∧ μ1 = (n, kd, r, R)
set_option maxHeartbeats 4000000 in
set_option maxRecDepth 100000 in
theorem e0_pass_B69 {w : zW} {d : Nat} {n : Nat} {kd : zMK} {R : zMR} {r : zMI} {k9 : Int32 → Int32 → Int32 → zMI → Option (zMI)} (hw : zst w = zSt0) (hS : zSh n kd) (hd : 7 ≤ d)  (hk9 : ∀ (l1 : Int32) (l2 : Int32) (l3 : Int32) (I : zMI), k9 l1 l2 l3 I = some r → EV w d 0 0 Y0_pass 9 [some (.ref 42), some (.int l1), some (.int l2), some (.int l3), none] [] (n, kd, I, R) (q0_pass n kd R r)) : ∀ (l1 : Int32) (l2 : Int32) (l3 : Int32) (I : zMI), f0_pass_B69 n kd R k9 l1 l2 l3 I = some r → EV w d 0 0 Y0_pass 69 [some (.ref 42), some (.int l1), some (.int l2), some (.int l3), none] [] (n, kd, I, R) (q0_pass n kd R r) := by
  intro l1 l2 l3 I h
  unfold f0_pass_B69 at h
  refine ev_iinc dX0_pass_69 (v := l3 + (1 : Int32)) rfl rfl (by decide) rfl ?_
  refine ev_goto dX0_pass_72 (tgt := 9) (by decide) ?_
  exact EV.mask [true, true, true, true, false] rfl (hk9 l1 l2 (l3 + (1 : Int32)) I h)
set_option maxHeartbeats 4000000 in
set_option maxRecDepth 100000 in
theorem e0_pass_B58 {w : zW} {d : Nat} {n : Nat} {kd : zMK} {R : zMR} {r : zMI} {k9 : Int32 → Int32 → Int32 → zMI → Option (zMI)} (hw : zst w = zSt0) (hS : zSh n kd) (hd : 7 ≤ d)  (hk9 : ∀ (l1 : Int32) (l2 : Int32) (l3 : Int32) (I : zMI), k9 l1 l2 l3 I = some r → EV w d 0 0 Y0_pass 9 [some (.ref 42), some (.int l1), some (.int l2), some (.int l3), none] [] (n, kd, I, R) (q0_pass n kd R r)) : ∀ (l1 : Int32) (l2 : Int32) (l3 : Int32) (l4 : Option Nat) (I : zMI), f0_pass_B58 n kd R k9 l1 l2 l3 l4 I = some r → EV w d 0 0 Y0_pass 58 [some (.ref 42), some (.int l1), some (.int l2), some (.int l3), some (va_rf l4)] [] (n, kd, I, R) (q0_pass n kd R r) := by
  intro l1 l2 l3 l4 I h
  unfold f0_pass_B58 at h
  refine ev_aload_o dX0_pass_58 rfl ?_
  refine ev_ifnull_o dX0_pass_60 (tgt := 69) (by decide) (fun o2 => ?_) (fun a1 o2 => ?_)
  · replace h := zmn o2 h
    exact EV.mask [true, true, true, true, false] rfl (e0_pass_B69 hw hS hd hk9 l1 l2 l3 I h)
  · replace h := zms o2 h
    refine ev_aload_n dX0_pass_63 rfl rfl ?_
    first | refine ev_aload_k dX0_pass_64 o2 rfl ?_ | refine ev_aload_k dX0_pass_64 rfl rfl ?_
    obtain ⟨p3, e4, h⟩ := zbd h
    refine ev_callV0 dX0_pass_66 zm0_moveOn zl_NineHeaps_Going_98 zi0_moveOn zv0_moveOn (zrcG hS) (As := [.ref a1]) (rest := []) rfl rfl (Nat.le_of_ble_eq_true rfl) rfl (Nat.le_of_ble_eq_true rfl) (d' := 6) (by omega) (e0_moveOn hw hS (Nat.le_refl _) e4) (fun v μ1 q => ?_)
    obtain ⟨rfl, rfl⟩ := q
    first | exact EV.mask [true, true, true, true, false] rfl (e0_pass_B69 hw hS hd hk9 l1 l2 l3 p3 h) | (rw [← o2]; exact EV.mask [true, true, true, true, false] rfl (e0_pass_B69 hw hS hd hk9 l1 l2 l3 p3 h))
set_option maxHeartbeats 4000000 in
set_option maxRecDepth 100000 in
theorem e0_pass_L9 {w : zW} {d : Nat} {n : Nat} {kd : zMK} {R : zMR} {r : zMI} {k75 : Int32 → Int32 → zMI → Option (zMI)} (hw : zst w = zSt0) (hS : zSh n kd) (hd : 7 ≤ d)  (hk75 : ∀ (l1 : Int32) (l2 : Int32) (I : zMI), k75 l1 l2 I = some r → EV w d 0 0 Y0_pass 75 [some (.ref 42), some (.int l1), some (.int l2), none, none] [] (n, kd, I, R) (q0_pass n kd R r)) : ∀ (q : Nat) (l1 : Int32) (l2 : Int32) (l3 : Int32) (I : zMI), f0_pass_L9 n kd R k75 q l1 l2 l3 I = some r → EV w d 0 0 Y0_pass 9 [some (.ref 42), some (.int l1), some (.int l2), some (.int l3), none] [] (n, kd, I, R) (q0_pass n kd R r) := by
  intro q
  induction q with
  | zero =>
    intro l1 l2 l3 I h
    cases h
  | succ q ih =>
    intro l1 l2 l3 I h
    unfold f0_pass_L9 at h
    refine ev_iload_n dX0_pass_9 rfl rfl ?_
    refine ev_aload_n dX0_pass_10 rfl rfl ?_
    refine em_getI dX0_pass_11 zf_NineHeaps_Going_45 rfl (hS.has 42 (by decide) (by decide) rfl) rfl ?_
    refine ev_icmp_ge dX0_pass_14 (tgt := 75) (by decide) (fun c5 => ?_) (fun c5 => ?_)
    · replace h := zit c5 h
      exact EV.mask [true, true, true, false, false] rfl (hk75 l1 l2 I h)
    · replace h := zif c5 h
      refine ev_iload_n dX0_pass_17 rfl rfl ?_
      refine ev_iconst dX0_pass_18 (v := (5 : Int32)) zci_5 ?_
      refine ev_icmp_ge dX0_pass_19 (tgt := 75) (by decide) (fun c6 => ?_) (fun c6 => ?_)
      · replace h := zit c6 h
        exact EV.mask [true, true, true, false, false] rfl (hk75 l1 l2 I h)
      · replace h := zif c6 h
        refine ev_aload_n dX0_pass_22 rfl rfl ?_
        refine em_getA dX0_pass_23 zf_NineHeaps_Going_19 rfl (hS.has 42 (by decide) (by decide) rfl) hw rfl ?_
        refine ev_iload_n dX0_pass_26 rfl rfl ?_
        obtain ⟨g7, h⟩ := zgd h
        refine em_aaldO dX0_pass_27 hS (by decide) (by decide) (N := 5) rfl (by decide) (by decide) hw (fun _ => rfl) g7 rfl ?_
        refine ev_astore_o dX0_pass_28 (by decide) rfl ?_
        refine ev_aload_o dX0_pass_30 rfl ?_
        refine ev_ifnull_o dX0_pass_32 (tgt := 58) (by decide) (fun o9 => ?_) (fun a8 o9 => ?_)
        · replace h := zmn o9 h
          exact EV.mask [true, true, true, true, true] rfl (e0_pass_B58 hw hS hd (fun l1' l2' l3' I' h' => ih l1' l2' l3' I' h') l1 l2 l3 (R 44 l3.toNatClampNeg) I h)
        · replace h := zms o9 h
          first | refine ev_aload_k dX0_pass_35 o9 rfl ?_ | refine ev_aload_k dX0_pass_35 rfl rfl ?_
          obtain ⟨g10, h⟩ := zgd h
          obtain ⟨cg10, wg10, yg10⟩ := zWkB_hasR hS g10
          refine em_getI dX0_pass_37 (zf_NineHeaps_Going_95 wg10) (by rcases wg10 with rfl | rfl | rfl | rfl | rfl | rfl <;> rfl) yg10 rfl ?_
          refine ev_iconst dX0_pass_40 (v := (1 : Int32)) zci_1 ?_
          refine ev_icmp_le dX0_pass_41 (tgt := 58) (by decide) (fun c11 => ?_) (fun c11 => ?_)
          · replace h := zit c11 h
            first | exact EV.mask [true, true, true, true, true] rfl (e0_pass_B58 hw hS hd (fun l1' l2' l3' I' h' => ih l1' l2' l3' I' h') l1 l2 l3 (R 44 l3.toNatClampNeg) I h) | (rw [← o9]; exact EV.mask [true, true, true, true, true] rfl (e0_pass_B58 hw hS hd (fun l1' l2' l3' I' h' => ih l1' l2' l3' I' h') l1 l2 l3 (R 44 l3.toNatClampNeg) I h))
          · replace h := zif c11 h
            first | refine ev_aload_k dX0_pass_44 o9 rfl ?_ | refine ev_aload_k dX0_pass_44 rfl rfl ?_
            refine ev_dup dX0_pass_46 rfl ?_
            refine em_getI dX0_pass_47 (zf_NineHeaps_Going_95 wg10) (by rcases wg10 with rfl | rfl | rfl | rfl | rfl | rfl <;> rfl) yg10 rfl ?_
            refine ev_iconst dX0_pass_50 (v := (1 : Int32)) zci_1 ?_
            refine ev_isub dX0_pass_51 rfl ?_
            obtain ⟨J12, e13, h⟩ := zld h
            refine em_putI dX0_pass_52 (zf_NineHeaps_Going_95 wg10)  (by rcases wg10 with rfl | rfl | rfl | rfl | rfl | rfl <;> exact Or.inl rfl)  (by rcases wg10 with rfl | rfl | rfl | rfl | rfl | rfl <;> rfl)  (by rcases wg10 with rfl | rfl | rfl | rfl | rfl | rfl <;> rfl) (by rcases wg10 with rfl | rfl | rfl | rfl | rfl | rfl <;> rfl) yg10 e13 ?_
            refine ev_goto dX0_pass_55 (tgt := 69) (by decide) ?_
            first | exact EV.mask [true, true, true, true, false] rfl (e0_pass_B69 hw hS hd (fun l1' l2' l3' I' h' => ih l1' l2' l3' I' h') l1 l2 l3 J12 h) | (rw [← o9]; exact EV.mask [true, true, true, true, false] rfl (e0_pass_B69 hw hS hd (fun l1' l2' l3' I' h' => ih l1' l2' l3' I' h') l1 l2 l3 J12 h))
set_option maxHeartbeats 4000000 in
set_option maxRecDepth 100000 in
theorem e0_pass_B75 {w : zW} {d : Nat} {n : Nat} {kd : zMK} {R : zMR} {r : zMI} {k2 : Int32 → Int32 → zMI → Option (zMI)} (hw : zst w = zSt0) (hS : zSh n kd) (hd : 7 ≤ d)  (hk2 : ∀ (l1 : Int32) (l2 : Int32) (I : zMI), k2 l1 l2 I = some r → EV w d 0 0 Y0_pass 2 [some (.ref 42), some (.int l1), some (.int l2), none, none] [] (n, kd, I, R) (q0_pass n kd R r)) : ∀ (l1 : Int32) (l2 : Int32) (I : zMI), f0_pass_B75 n kd R k2 l1 l2 I = some r → EV w d 0 0 Y0_pass 75 [some (.ref 42), some (.int l1), some (.int l2), none, none] [] (n, kd, I, R) (q0_pass n kd R r) := by
  intro l1 l2 I h
  unfold f0_pass_B75 at h
  refine ev_aload_n dX0_pass_75 rfl rfl ?_
  refine ev_dup dX0_pass_76 rfl ?_
  refine em_getI dX0_pass_77 zf_NineHeaps_Going_48 rfl (hS.has 42 (by decide) (by decide) rfl) rfl ?_
  refine ev_iconst dX0_pass_80 (v := (1 : Int32)) zci_1 ?_
  refine ev_iadd dX0_pass_81 rfl ?_
  obtain ⟨J14, e15, h⟩ := zld h
  refine em_putI dX0_pass_82 zf_NineHeaps_Going_48 (Or.inl rfl) rfl rfl rfl (hS.has 42 (by decide) (by decide) rfl) e15 ?_
  refine ev_iinc dX0_pass_85 (v := l2 + (1 : Int32)) rfl rfl (by decide) rfl ?_
  refine ev_goto dX0_pass_88 (tgt := 2) (by decide) ?_
  exact EV.mask [true, true, true, false, false] rfl (hk2 l1 (l2 + (1 : Int32)) J14 h)
set_option maxHeartbeats 4000000 in
set_option maxRecDepth 100000 in
theorem e0_pass_L2 {w : zW} {d : Nat} {n : Nat} {kd : zMK} {R : zMR} {r : zMI}  (hw : zst w = zSt0) (hS : zSh n kd) (hd : 7 ≤ d)   : ∀ (q : Nat) (l1 : Int32) (l2 : Int32) (I : zMI), f0_pass_L2 n kd R q l1 l2 I = some r → EV w d 0 0 Y0_pass 2 [some (.ref 42), some (.int l1), some (.int l2), none, none] [] (n, kd, I, R) (q0_pass n kd R r) := by
  intro q
  induction q with
  | zero =>
    intro l1 l2 I h
    cases h
  | succ q ih =>
    intro l1 l2 I h
    unfold f0_pass_L2 at h
    refine ev_iload_n dX0_pass_2 rfl rfl ?_
    refine ev_iload_n dX0_pass_3 rfl rfl ?_
    refine ev_icmp_ge dX0_pass_4 (tgt := 91) (by decide) (fun c16 => ?_) (fun c16 => ?_)
    · replace h := zit c16 h
      obtain rfl := Option.some.inj h
      exact ev_end_v dX0_pass_91 rfl ⟨rfl, rfl⟩
    · replace h := zif c16 h
      refine ev_iconst dX0_pass_7 (v := (0 : Int32)) zci_0 ?_
      refine ev_istore_n dX0_pass_8 rfl (by decide) rfl ?_
      exact EV.mask [true, true, true, true, false] rfl (e0_pass_L9 hw hS hd (fun l1' l2' I' h' => e0_pass_B75 hw hS hd (fun l1' l2' I' h' => ih l1' l2' I' h') l1' l2' I' h') zF l1 l2 (0 : Int32) I h)
set_option maxHeartbeats 4000000 in
set_option maxRecDepth 100000 in
theorem e0_pass {w : zW} {d : Nat} {n : Nat} {kd : zMK} {I : zMI} {R : zMR} {r : zMI} {l1 : Int32} (hw : zst w = zSt0) (hS : zSh n kd) (hd : 7 ≤ d)  (h : f0_pass n kd R l1 I = some r) : EV w d 0 0 Y0_pass 0 [some (.ref 42), some (.int l1), none, none, none] [] (n, kd, I, R) (q0_pass n kd R r) := by
  unfold f0_pass at h
  refine ev_iconst dX0_pass_0 (v := (0 : Int32)) zci_0 ?_
  refine ev_istore_n dX0_pass_1 rfl (by decide) rfl ?_
  exact EV.mask [true, true, true, false, false] rfl (e0_pass_L2 hw hS hd zF l1 (0 : Int32) I h)
abbrev q7_add (n : Nat) (kd : zMK) (R : zMR) (r : zMI) : Option Value → zM → Prop := fun v μ1 => v = none ∧ μ1 = (n, kd, r, R)
set_option maxHeartbeats 4000000 in
set_option maxRecDepth 100000 in
theorem e7_add {w : zW} {d : Nat} {n : Nat} {kd : zMK} {I : zMI} {R : zMR} {r : zMI} {l1 : Int32} (hw : zst w = zSt0) (hS : zSh n kd) (hd : 1 ≤ d)  (h : f7_add l1 I = some r) : EV w d 0 0 Y7_add 0 [some (.ref 37), some (.int l1)] [] (n, kd, I, R) (q7_add n kd R r) := by
  unfold f7_add at h
  refine ev_aload_n dX7_add_0 rfl rfl ?_
  refine em_getI dX7_add_1 zf_NineHeaps_Tape_23 rfl (hS.has 37 (by decide) (by decide) rfl) rfl ?_
  refine ev_if_lt dX7_add_4 (tgt := 37) (by decide) (fun c1 => ?_) (fun c1 => ?_)
  · replace h := zit c1 h
    obtain rfl := Option.some.inj h
    exact ev_end_v dX7_add_37 rfl ⟨rfl, rfl⟩
  · replace h := zif c1 h
    refine ev_aload_n dX7_add_7 rfl rfl ?_
    refine em_getI dX7_add_8 zf_NineHeaps_Tape_23 rfl (hS.has 37 (by decide) (by decide) rfl) rfl ?_
    refine ev_sipush dX7_add_11 (v := (160 : Int32)) zcs_160 ?_
    refine ev_icmp_ge dX7_add_14 (tgt := 37) (by decide) (fun c2 => ?_) (fun c2 => ?_)
    · replace h := zit c2 h
      obtain rfl := Option.some.inj h
      exact ev_end_v dX7_add_37 rfl ⟨rfl, rfl⟩
    · replace h := zif c2 h
      refine ev_aload_n dX7_add_17 rfl rfl ?_
      refine em_getA dX7_add_18 zf_NineHeaps_Tape_9 rfl (hS.has 37 (by decide) (by decide) rfl) hw rfl ?_
      refine ev_aload_n dX7_add_21 rfl rfl ?_
      refine em_getI dX7_add_22 zf_NineHeaps_Tape_23 rfl (hS.has 37 (by decide) (by decide) rfl) rfl ?_
      refine ev_iload_n dX7_add_25 rfl rfl ?_
      obtain ⟨g3, h⟩ := zgd h
      obtain ⟨J4, e5, h⟩ := zld h
      refine em_iast dX7_add_26 hS (by decide) (by decide) (N := 160) rfl g3 e5 ?_
      refine ev_aload_n dX7_add_27 rfl rfl ?_
      refine ev_dup dX7_add_28 rfl ?_
      refine em_getI dX7_add_29 zf_NineHeaps_Tape_23 rfl (hS.has 37 (by decide) (by decide) rfl) rfl ?_
      refine ev_iconst dX7_add_32 (v := (1 : Int32)) zci_1 ?_
      refine ev_iadd dX7_add_33 rfl ?_
      obtain ⟨J6, e7, h⟩ := zld h
      refine em_putI dX7_add_34 zf_NineHeaps_Tape_23 (Or.inl rfl) rfl rfl rfl (hS.has 37 (by decide) (by decide) rfl) e7 ?_
      obtain rfl := Option.some.inj h
      exact ev_end_v dX7_add_37 rfl ⟨rfl, rfl⟩
abbrev q7_byteAt (n : Nat) (kd : zMK) (I : zMI) (R : zMR) (r : Int32) : Option Value → zM → Prop := fun v μ1 => v = some (.int r) ∧ μ1 = (n, kd, I, R)
set_option maxHeartbeats 4000000 in
set_option maxRecDepth 100000 in
theorem e7_byteAt {w : zW} {d : Nat} {n : Nat} {kd : zMK} {I : zMI} {R : zMR} {r : Int32} {l1 : Int32} (hw : zst w = zSt0) (hS : zSh n kd) (hd : 1 ≤ d)  (h : f7_byteAt I l1 = some r) : EV w d 0 0 Y7_byteAt 0 [some (.ref 37), some (.int l1)] [] (n, kd, I, R) (q7_byteAt n kd I R r) := by
  unfold f7_byteAt at h
  refine ev_iload_n dX7_byteAt_0 rfl rfl ?_
  obtain ⟨x5, e6, h⟩ := zbd h
  have k7 : EV w d 0 0 Y7_byteAt 29 [some (.ref 37), some (.int l1)] [.int x5] (n, kd, I, R) (q7_byteAt n kd I R r) := by
    obtain rfl := Option.some.inj h
    exact ev_end_i dX7_byteAt_29 rfl rfl ⟨rfl, rfl⟩
  clear h
  have h := e6
  clear e6
  refine ev_if_lt dX7_byteAt_1 (tgt := 28) (by decide) (fun c1 => ?_) (fun c1 => ?_)
  · replace h := zit c1 h
    refine ev_iconst dX7_byteAt_28 (v := (-1 : Int32)) zci_m1 ?_
    obtain rfl := Option.some.inj h
    exact k7
  · replace h := zif c1 h
    refine ev_iload_n dX7_byteAt_4 rfl rfl ?_
    refine ev_aload_n dX7_byteAt_5 rfl rfl ?_
    refine em_getI dX7_byteAt_6 zf_NineHeaps_Tape_23 rfl (hS.has 37 (by decide) (by decide) rfl) rfl ?_
    refine ev_icmp_ge dX7_byteAt_9 (tgt := 28) (by decide) (fun c2 => ?_) (fun c2 => ?_)
    · replace h := zit c2 h
      refine ev_iconst dX7_byteAt_28 (v := (-1 : Int32)) zci_m1 ?_
      obtain rfl := Option.some.inj h
      exact k7
    · replace h := zif c2 h
      refine ev_iload_n dX7_byteAt_12 rfl rfl ?_
      refine ev_sipush dX7_byteAt_13 (v := (160 : Int32)) zcs_160 ?_
      refine ev_icmp_ge dX7_byteAt_16 (tgt := 28) (by decide) (fun c3 => ?_) (fun c3 => ?_)
      · replace h := zit c3 h
        refine ev_iconst dX7_byteAt_28 (v := (-1 : Int32)) zci_m1 ?_
        obtain rfl := Option.some.inj h
        exact k7
      · replace h := zif c3 h
        refine ev_aload_n dX7_byteAt_19 rfl rfl ?_
        refine em_getA dX7_byteAt_20 zf_NineHeaps_Tape_9 rfl (hS.has 37 (by decide) (by decide) rfl) hw rfl ?_
        refine ev_iload_n dX7_byteAt_23 rfl rfl ?_
        obtain ⟨g4, h⟩ := zgd h
        refine em_iald dX7_byteAt_24 hS (by decide) (by decide) (N := 160) rfl g4 rfl ?_
        refine ev_goto dX7_byteAt_25 (tgt := 29) (by decide) ?_
        obtain rfl := Option.some.inj h
        exact k7
abbrev q7_isLetter (n : Nat) (kd : zMK) (I : zMI) (R : zMR) (r : Int32) : Option Value → zM → Prop := fun v μ1 => v = some (.int r) ∧ μ1 = (n, kd, I, R)
set_option maxHeartbeats 4000000 in
set_option maxRecDepth 100000 in
theorem e7_isLetter {w : zW} {d : Nat} {n : Nat} {kd : zMK} {I : zMI} {R : zMR} {r : Int32} {l0 : Int32} (hw : zst w = zSt0) (hS : zSh n kd) (hd : 1 ≤ d)  (h : f7_isLetter l0 = some r) : EV w d 0 0 Y7_isLetter 0 [some (.int l0)] [] (n, kd, I, R) (q7_isLetter n kd I R r) := by
  unfold f7_isLetter at h
  refine ev_iload_n dX7_isLetter_0 rfl rfl ?_
  refine ev_bipush dX7_isLetter_1 (v := (97 : Int32)) zcb_97 ?_
  obtain ⟨x3, e4, h⟩ := zld h
  have k6 : EV w d 0 0 Y7_isLetter 17 [some (.int l0)] [.int x3] (n, kd, I, R) (q7_isLetter n kd I R r) := by
    obtain ⟨g5, h⟩ := zgd h
    obtain rfl := Option.some.inj h
    exact ev_end_i dX7_isLetter_17 rfl (zbB_n g5) ⟨rfl, rfl⟩
  clear h
  have h := e4
  clear e4
  refine ev_icmp_lt dX7_isLetter_3 (tgt := 16) (by decide) (fun c1 => ?_) (fun c1 => ?_)
  · replace h := zit c1 h
    refine ev_iconst dX7_isLetter_16 (v := (0 : Int32)) zci_0 ?_
    obtain rfl := h
    exact k6
  · replace h := zif c1 h
    refine ev_iload_n dX7_isLetter_6 rfl rfl ?_
    refine ev_bipush dX7_isLetter_7 (v := (122 : Int32)) zcb_122 ?_
    refine ev_icmp_gt dX7_isLetter_9 (tgt := 16) (by decide) (fun c2 => ?_) (fun c2 => ?_)
    · replace h := zit c2 h
      refine ev_iconst dX7_isLetter_16 (v := (0 : Int32)) zci_0 ?_
      obtain rfl := h
      exact k6
    · replace h := zif c2 h
      refine ev_iconst dX7_isLetter_12 (v := (1 : Int32)) zci_1 ?_
      refine ev_goto dX7_isLetter_13 (tgt := 17) (by decide) ?_
      obtain rfl := h
      exact k6
abbrev q7_spells (n : Nat) (kd : zMK) (I : zMI) (R : zMR) (r : Int32) : Option Value → zM → Prop := fun v μ1 => v = some (.int r) ∧ μ1 = (n, kd, I, R)
set_option maxHeartbeats 4000000 in
set_option maxRecDepth 100000 in
theorem e7_spells_L20 {w : zW} {d : Nat} {n : Nat} {kd : zMK} {I : zMI} {R : zMR} {r : Int32}  (hw : zst w = zSt0) (hS : zSh n kd) (hd : 5 ≤ d)   : ∀ (q : Nat) (l1 : Nat) (l2 : Int32) , f7_spells_L20 I q l1 l2 = some r → EV w d 0 0 Y7_spells 20 [some (.ref 37), some (.ref (2 + l1)), some (.int l2), none] [] (n, kd, I, R) (q7_spells n kd I R r) := by
  intro q
  induction q with
  | zero =>
    intro l1 l2 h
    cases h
  | succ q ih =>
    intro l1 l2 h
    unfold f7_spells_L20 at h
    refine ev_iload_n dX7_spells_20 rfl rfl ?_
    refine ev_aload_n dX7_spells_21 rfl rfl ?_
    obtain ⟨g1, h⟩ := zgd h
    obtain ⟨p2, e3, h⟩ := zbd h
    refine ev_callV0 dX7_spells_22 zmJ0_length_8abf5 zl_NineHeaps_Tape_149 ziJ0_length_8abf5 zvJ0_length_8abf5 (zrcv_str (of_decide_eq_true g1)) (As := []) (rest := [.int l2]) rfl rfl (Nat.le_of_ble_eq_true rfl) rfl (Nat.le_of_ble_eq_true rfl) (d' := 2) (by omega) (eJ0_length_8abf5 hw hS (Nat.le_refl _) e3) (fun v μ1 q => ?_)
    obtain ⟨rfl, rfl⟩ := q
    refine ev_icmp_ge dX7_spells_25 (tgt := 68) (by decide) (fun c4 => ?_) (fun c4 => ?_)
    · replace h := zit c4 h
      refine ev_iconst dX7_spells_68 (v := (1 : Int32)) zci_1 ?_
      obtain rfl := Option.some.inj h
      exact ev_end_i dX7_spells_69 rfl rfl ⟨rfl, rfl⟩
    · replace h := zif c4 h
      refine ev_aload_n dX7_spells_28 rfl rfl ?_
      refine em_getI dX7_spells_29 zf_NineHeaps_Tape_99 rfl (hS.has 37 (by decide) (by decide) rfl) rfl ?_
      refine ev_iload_n dX7_spells_32 rfl rfl ?_
      refine ev_iadd dX7_spells_33 rfl ?_
      refine ev_istore_n dX7_spells_34 rfl (by decide) rfl ?_
      refine ev_iload_n dX7_spells_35 rfl rfl ?_
      refine ev_if_lt dX7_spells_36 (tgt := 60) (by decide) (fun c5 => ?_) (fun c5 => ?_)
      · replace h := zit c5 h
        refine ev_iconst dX7_spells_60 (v := (0 : Int32)) zci_0 ?_
        obtain rfl := Option.some.inj h
        exact ev_end_i dX7_spells_61 rfl rfl ⟨rfl, rfl⟩
      · replace h := zif c5 h
        refine ev_iload_n dX7_spells_39 rfl rfl ?_
        refine ev_sipush dX7_spells_40 (v := (160 : Int32)) zcs_160 ?_
        refine ev_icmp_ge dX7_spells_43 (tgt := 60) (by decide) (fun c6 => ?_) (fun c6 => ?_)
        · replace h := zit c6 h
          refine ev_iconst dX7_spells_60 (v := (0 : Int32)) zci_0 ?_
          obtain rfl := Option.some.inj h
          exact ev_end_i dX7_spells_61 rfl rfl ⟨rfl, rfl⟩
        · replace h := zif c6 h
          refine ev_aload_n dX7_spells_46 rfl rfl ?_
          refine em_getA dX7_spells_47 zf_NineHeaps_Tape_9 rfl (hS.has 37 (by decide) (by decide) rfl) hw rfl ?_
          refine ev_iload_n dX7_spells_50 rfl rfl ?_
          obtain ⟨g7, h⟩ := zgd h
          refine em_iald dX7_spells_51 hS (by decide) (by decide) (N := 160) rfl g7 rfl ?_
          refine ev_aload_n dX7_spells_52 rfl rfl ?_
          refine ev_iload_n dX7_spells_53 rfl rfl ?_
          obtain ⟨p8, e9, h⟩ := zbd h
          refine ev_callV0 dX7_spells_54 zmJ0_charAt_5068e zl_NineHeaps_Tape_155 ziJ0_charAt_5068e zvJ0_charAt_5068e (zrcv_str (of_decide_eq_true g1)) (As := [.int l2]) (rest := [.int (I 38 ((I 37 4) + l2).toNatClampNeg)]) rfl rfl (Nat.le_of_ble_eq_true rfl) rfl (Nat.le_of_ble_eq_true rfl) (d' := 4) (by omega) (eJ0_charAt_5068e hw hS (Nat.le_refl _) e9) (fun v μ1 q => ?_)
          obtain ⟨rfl, rfl⟩ := q
          refine ev_icmp_eq dX7_spells_57 (tgt := 62) (by decide) (fun c10 => ?_) (fun c10 => ?_)
          · replace h := zit c10 h
            refine ev_iinc dX7_spells_62 (v := l2 + (1 : Int32)) rfl rfl (by decide) rfl ?_
            refine ev_goto dX7_spells_65 (tgt := 20) (by decide) ?_
            exact EV.mask [true, true, true, false] rfl (ih l1 (l2 + (1 : Int32)) h)
          · replace h := zif c10 h
            refine ev_iconst dX7_spells_60 (v := (0 : Int32)) zci_0 ?_
            obtain rfl := Option.some.inj h
            exact ev_end_i dX7_spells_61 rfl rfl ⟨rfl, rfl⟩
set_option maxHeartbeats 4000000 in
set_option maxRecDepth 100000 in
theorem e7_spells {w : zW} {d : Nat} {n : Nat} {kd : zMK} {I : zMI} {R : zMR} {r : Int32} {l1 : Nat} (hw : zst w = zSt0) (hS : zSh n kd) (hd : 5 ≤ d)  (h : f7_spells I l1 = some r) : EV w d 0 0 Y7_spells 0 [some (.ref 37), some (.ref (2 + l1)), none, none] [] (n, kd, I, R) (q7_spells n kd I R r) := by
  unfold f7_spells at h
  refine ev_aload_n dX7_spells_0 rfl rfl ?_
  obtain ⟨g11, h⟩ := zgd h
  obtain ⟨p12, e13, h⟩ := zbd h
  refine ev_callV0 dX7_spells_1 zmJ0_length_8abf5 zl_NineHeaps_Tape_149 ziJ0_length_8abf5 zvJ0_length_8abf5 (zrcv_str (of_decide_eq_true g11)) (As := []) (rest := []) rfl rfl (Nat.le_of_ble_eq_true rfl) rfl (Nat.le_of_ble_eq_true rfl) (d' := 2) (by omega) (eJ0_length_8abf5 hw hS (Nat.le_refl _) e13) (fun v μ1 q => ?_)
  obtain ⟨rfl, rfl⟩ := q
  refine ev_aload_n dX7_spells_4 rfl rfl ?_
  refine em_getI dX7_spells_5 zf_NineHeaps_Tape_27 rfl (hS.has 37 (by decide) (by decide) rfl) rfl ?_
  refine ev_aload_n dX7_spells_8 rfl rfl ?_
  refine em_getI dX7_spells_9 zf_NineHeaps_Tape_99 rfl (hS.has 37 (by decide) (by decide) rfl) rfl ?_
  refine ev_isub dX7_spells_12 rfl ?_
  refine ev_icmp_eq dX7_spells_13 (tgt := 18) (by decide) (fun c14 => ?_) (fun c14 => ?_)
  · replace h := zit c14 h
    refine ev_iconst dX7_spells_18 (v := (0 : Int32)) zci_0 ?_
    refine ev_istore_n dX7_spells_19 rfl (by decide) rfl ?_
    exact EV.mask [true, true, true, false] rfl (e7_spells_L20 hw hS hd zF l1 (0 : Int32) h)
  · replace h := zif c14 h
    refine ev_iconst dX7_spells_16 (v := (0 : Int32)) zci_0 ?_
    obtain rfl := Option.some.inj h
    exact ev_end_i dX7_spells_17 rfl rfl ⟨rfl, rfl⟩
abbrev q7_takeWord (n : Nat) (kd : zMK) (R : zMR) (r : zMI) : Option Value → zM → Prop := fun v μ1 => v = none ∧ μ1 = (n, kd, r, R)
set_option maxHeartbeats 4000000 in
set_option maxRecDepth 100000 in
theorem e7_takeWord_L2 {w : zW} {d : Nat} {n : Nat} {kd : zMK} {R : zMR} {r : zMI} {k39 : zMI → Option (zMI)} (hw : zst w = zSt0) (hS : zSh n kd) (hd : 6 ≤ d)  (hk39 : ∀  (I : zMI), k39 I = some r → EV w d 0 0 Y7_takeWord 39 [some (.ref 37), none] [] (n, kd, I, R) (q7_takeWord n kd R r)) : ∀ (q : Nat) (l1 : Int32) (I : zMI), f7_takeWord_L2 k39 q l1 I = some r → EV w d 0 0 Y7_takeWord 2 [some (.ref 37), some (.int l1)] [] (n, kd, I, R) (q7_takeWord n kd R r) := by
  intro q
  induction q with
  | zero =>
    intro l1 I h
    cases h
  | succ q ih =>
    intro l1 I h
    unfold f7_takeWord_L2 at h
    refine ev_iload_n dX7_takeWord_2 rfl rfl ?_
    refine ev_sipush dX7_takeWord_3 (v := (160 : Int32)) zcs_160 ?_
    refine ev_icmp_ge dX7_takeWord_6 (tgt := 39) (by decide) (fun c1 => ?_) (fun c1 => ?_)
    · replace h := zit c1 h
      exact EV.mask [true, false] rfl (hk39 I h)
    · replace h := zif c1 h
      refine ev_aload_n dX7_takeWord_9 rfl rfl ?_
      refine ev_aload_n dX7_takeWord_10 rfl rfl ?_
      refine em_getI dX7_takeWord_11 zf_NineHeaps_Tape_27 rfl (hS.has 37 (by decide) (by decide) rfl) rfl ?_
      obtain ⟨p2, e3, h⟩ := zbd h
      refine ev_callV0 dX7_takeWord_14 zm7_byteAt zl_NineHeaps_Tape_102 zi7_byteAt zv7_byteAt (zrcT hS) (As := [.int (I 37 2)]) (rest := []) rfl rfl (Nat.le_of_ble_eq_true rfl) rfl (Nat.le_of_ble_eq_true rfl) (d' := 1) (by omega) (e7_byteAt hw hS (Nat.le_refl _) e3) (fun v μ1 q => ?_)
      obtain ⟨rfl, rfl⟩ := q
      obtain ⟨p4, e5, h⟩ := zbd h
      refine ev_callS0 dX7_takeWord_17 zm7_isLetter zl_NineHeaps_Tape_106 zs7_isLetter (As := [.int p2]) (rest := []) rfl rfl (Nat.le_of_ble_eq_true rfl) rfl (Nat.le_of_ble_eq_true rfl) (d' := 1) (by omega) (e7_isLetter hw hS (Nat.le_refl _) e5) (fun v μ1 q => ?_)
      obtain ⟨rfl, rfl⟩ := q
      refine ev_if_eq dX7_takeWord_20 (tgt := 39) (by decide) (fun c6 => ?_) (fun c6 => ?_)
      · replace h := zit c6 h
        exact EV.mask [true, false] rfl (hk39 I h)
      · replace h := zif c6 h
        refine ev_aload_n dX7_takeWord_23 rfl rfl ?_
        refine ev_dup dX7_takeWord_24 rfl ?_
        refine em_getI dX7_takeWord_25 zf_NineHeaps_Tape_27 rfl (hS.has 37 (by decide) (by decide) rfl) rfl ?_
        refine ev_iconst dX7_takeWord_28 (v := (1 : Int32)) zci_1 ?_
        refine ev_iadd dX7_takeWord_29 rfl ?_
        obtain ⟨J7, e8, h⟩ := zld h
        refine em_putI dX7_takeWord_30 zf_NineHeaps_Tape_27 (Or.inl rfl) rfl rfl rfl (hS.has 37 (by decide) (by decide) rfl) e8 ?_
        refine ev_iinc dX7_takeWord_33 (v := l1 + (1 : Int32)) rfl rfl (by decide) rfl ?_
        refine ev_goto dX7_takeWord_36 (tgt := 2) (by decide) ?_
        exact EV.mask [true, true] rfl (ih (l1 + (1 : Int32)) J7 h)
set_option maxHeartbeats 4000000 in
set_option maxRecDepth 100000 in
theorem e7_takeWord_B205 {w : zW} {d : Nat} {n : Nat} {kd : zMK} {R : zMR} {r : zMI}  (hw : zst w = zSt0) (hS : zSh n kd) (hd : 6 ≤ d)   : ∀ (s0 : Int32) (I : zMI), f7_takeWord_B205 s0 I = some r → EV w d 0 0 Y7_takeWord 205 [some (.ref 37), none] [.int s0] (n, kd, I, R) (q7_takeWord n kd R r) := by
  intro s0 I h
  unfold f7_takeWord_B205 at h
  refine ev_istore_n dX7_takeWord_205 rfl (by decide) rfl ?_
  refine ev_iload_n dX7_takeWord_206 rfl rfl ?_
  refine ev_iconst dX7_takeWord_207 (v := (-1 : Int32)) zci_m1 ?_
  refine ev_icmp_eq dX7_takeWord_208 (tgt := 223) (by decide) (fun c9 => ?_) (fun c9 => ?_)
  · replace h := zit c9 h
    obtain rfl := Option.some.inj h
    exact ev_end_v dX7_takeWord_223 rfl ⟨rfl, rfl⟩
  · replace h := zif c9 h
    refine ev_aload_n dX7_takeWord_211 rfl rfl ?_
    refine ev_iconst dX7_takeWord_212 (v := (3 : Int32)) zci_3 ?_
    obtain ⟨J10, e11, h⟩ := zld h
    refine em_putI dX7_takeWord_213 zf_NineHeaps_Tape_43 (Or.inl rfl) rfl rfl rfl (hS.has 37 (by decide) (by decide) rfl) e11 ?_
    refine ev_aload_n dX7_takeWord_216 rfl rfl ?_
    refine ev_iconst dX7_takeWord_217 (v := (-1 : Int32)) zci_m1 ?_
    refine ev_iload_n dX7_takeWord_218 rfl rfl ?_
    refine ev_isub dX7_takeWord_219 rfl ?_
    obtain ⟨J12, e13, h⟩ := zld h
    refine em_putI dX7_takeWord_220 zf_NineHeaps_Tape_96 (Or.inl rfl) rfl rfl rfl (hS.has 37 (by decide) (by decide) rfl) e13 ?_
    obtain rfl := Option.some.inj h
    exact ev_end_v dX7_takeWord_223 rfl ⟨rfl, rfl⟩
set_option maxHeartbeats 4000000 in
set_option maxRecDepth 100000 in
theorem e7_takeWord_B123 {w : zW} {d : Nat} {n : Nat} {kd : zMK} {R : zMR} {r : zMI}  (hw : zst w = zSt0) (hS : zSh n kd) (hd : 6 ≤ d)   : ∀ (s1 : Int32) (I : zMI), f7_takeWord_B123 s1 I = some r → EV w d 0 0 Y7_takeWord 123 [some (.ref 37), none] [.int s1, .ref 37] (n, kd, I, R) (q7_takeWord n kd R r) := by
  intro s1 I h
  unfold f7_takeWord_B123 at h
  obtain ⟨J14, e15, h⟩ := zld h
  refine em_putI dX7_takeWord_123 zf_NineHeaps_Tape_43 (Or.inl rfl) rfl rfl rfl (hS.has 37 (by decide) (by decide) rfl) e15 ?_
  refine ev_aload_n dX7_takeWord_126 rfl rfl ?_
  refine ev_ldcS (i := 6) dX7_takeWord_127 (by decide) rfl rfl ?_
  obtain ⟨p16, e17, h⟩ := zbd h
  refine ev_callV0 dX7_takeWord_129 zm7_spells zl_NineHeaps_Tape_123 zi7_spells zv7_spells (zrcT hS) (As := [.ref 8]) (rest := []) rfl rfl (Nat.le_of_ble_eq_true rfl) rfl (Nat.le_of_ble_eq_true rfl) (d' := 5) (by omega) (e7_spells hw hS (Nat.le_refl _) e17) (fun v μ1 q => ?_)
  obtain ⟨rfl, rfl⟩ := q
  refine ev_if_eq dX7_takeWord_132 (tgt := 139) (by decide) (fun c18 => ?_) (fun c18 => ?_)
  · replace h := zit c18 h
    refine ev_aload_n dX7_takeWord_139 rfl rfl ?_
    refine ev_ldcS (i := 7) dX7_takeWord_140 (by decide) rfl rfl ?_
    obtain ⟨p19, e20, h⟩ := zbd h
    refine ev_callV0 dX7_takeWord_142 zm7_spells zl_NineHeaps_Tape_123 zi7_spells zv7_spells (zrcT hS) (As := [.ref 9]) (rest := []) rfl rfl (Nat.le_of_ble_eq_true rfl) rfl (Nat.le_of_ble_eq_true rfl) (d' := 5) (by omega) (e7_spells hw hS (Nat.le_refl _) e20) (fun v μ1 q => ?_)
    obtain ⟨rfl, rfl⟩ := q
    refine ev_if_eq dX7_takeWord_145 (tgt := 152) (by decide) (fun c21 => ?_) (fun c21 => ?_)
    · replace h := zit c21 h
      refine ev_aload_n dX7_takeWord_152 rfl rfl ?_
      refine ev_ldcS (i := 8) dX7_takeWord_153 (by decide) rfl rfl ?_
      obtain ⟨p22, e23, h⟩ := zbd h
      refine ev_callV0 dX7_takeWord_155 zm7_spells zl_NineHeaps_Tape_123 zi7_spells zv7_spells (zrcT hS) (As := [.ref 10]) (rest := []) rfl rfl (Nat.le_of_ble_eq_true rfl) rfl (Nat.le_of_ble_eq_true rfl) (d' := 5) (by omega) (e7_spells hw hS (Nat.le_refl _) e23) (fun v μ1 q => ?_)
      obtain ⟨rfl, rfl⟩ := q
      refine ev_if_eq dX7_takeWord_158 (tgt := 165) (by decide) (fun c24 => ?_) (fun c24 => ?_)
      · replace h := zit c24 h
        refine ev_aload_n dX7_takeWord_165 rfl rfl ?_
        refine ev_ldcS (i := 9) dX7_takeWord_166 (by decide) rfl rfl ?_
        obtain ⟨p25, e26, h⟩ := zbd h
        refine ev_callV0 dX7_takeWord_168 zm7_spells zl_NineHeaps_Tape_123 zi7_spells zv7_spells (zrcT hS) (As := [.ref 11]) (rest := []) rfl rfl (Nat.le_of_ble_eq_true rfl) rfl (Nat.le_of_ble_eq_true rfl) (d' := 5) (by omega) (e7_spells hw hS (Nat.le_refl _) e26) (fun v μ1 q => ?_)
        obtain ⟨rfl, rfl⟩ := q
        refine ev_if_eq dX7_takeWord_171 (tgt := 178) (by decide) (fun c27 => ?_) (fun c27 => ?_)
        · replace h := zit c27 h
          refine ev_aload_n dX7_takeWord_178 rfl rfl ?_
          refine ev_ldcS (i := 10) dX7_takeWord_179 (by decide) rfl rfl ?_
          obtain ⟨p28, e29, h⟩ := zbd h
          refine ev_callV0 dX7_takeWord_181 zm7_spells zl_NineHeaps_Tape_123 zi7_spells zv7_spells (zrcT hS) (As := [.ref 12]) (rest := []) rfl rfl (Nat.le_of_ble_eq_true rfl) rfl (Nat.le_of_ble_eq_true rfl) (d' := 5) (by omega) (e7_spells hw hS (Nat.le_refl _) e29) (fun v μ1 q => ?_)
          obtain ⟨rfl, rfl⟩ := q
          refine ev_if_eq dX7_takeWord_184 (tgt := 191) (by decide) (fun c30 => ?_) (fun c30 => ?_)
          · replace h := zit c30 h
            refine ev_aload_n dX7_takeWord_191 rfl rfl ?_
            refine ev_ldcS (i := 11) dX7_takeWord_192 (by decide) rfl rfl ?_
            obtain ⟨p31, e32, h⟩ := zbd h
            refine ev_callV0 dX7_takeWord_194 zm7_spells zl_NineHeaps_Tape_123 zi7_spells zv7_spells (zrcT hS) (As := [.ref 13]) (rest := []) rfl rfl (Nat.le_of_ble_eq_true rfl) rfl (Nat.le_of_ble_eq_true rfl) (d' := 5) (by omega) (e7_spells hw hS (Nat.le_refl _) e32) (fun v μ1 q => ?_)
            obtain ⟨rfl, rfl⟩ := q
            refine ev_if_eq dX7_takeWord_197 (tgt := 204) (by decide) (fun c33 => ?_) (fun c33 => ?_)
            · replace h := zit c33 h
              refine ev_iconst dX7_takeWord_204 (v := (-1 : Int32)) zci_m1 ?_
              exact EV.mask [true, false] rfl (e7_takeWord_B205 hw hS hd (-1 : Int32) J14 h)
            · replace h := zif c33 h
              refine ev_iconst dX7_takeWord_200 (v := (5 : Int32)) zci_5 ?_
              refine ev_goto dX7_takeWord_201 (tgt := 205) (by decide) ?_
              exact EV.mask [true, false] rfl (e7_takeWord_B205 hw hS hd (5 : Int32) J14 h)
          · replace h := zif c30 h
            refine ev_iconst dX7_takeWord_187 (v := (4 : Int32)) zci_4 ?_
            refine ev_goto dX7_takeWord_188 (tgt := 205) (by decide) ?_
            exact EV.mask [true, false] rfl (e7_takeWord_B205 hw hS hd (4 : Int32) J14 h)
        · replace h := zif c27 h
          refine ev_iconst dX7_takeWord_174 (v := (3 : Int32)) zci_3 ?_
          refine ev_goto dX7_takeWord_175 (tgt := 205) (by decide) ?_
          exact EV.mask [true, false] rfl (e7_takeWord_B205 hw hS hd (3 : Int32) J14 h)
      · replace h := zif c24 h
        refine ev_iconst dX7_takeWord_161 (v := (2 : Int32)) zci_2 ?_
        refine ev_goto dX7_takeWord_162 (tgt := 205) (by decide) ?_
        exact EV.mask [true, false] rfl (e7_takeWord_B205 hw hS hd (2 : Int32) J14 h)
    · replace h := zif c21 h
      refine ev_iconst dX7_takeWord_148 (v := (1 : Int32)) zci_1 ?_
      refine ev_goto dX7_takeWord_149 (tgt := 205) (by decide) ?_
      exact EV.mask [true, false] rfl (e7_takeWord_B205 hw hS hd (1 : Int32) J14 h)
  · replace h := zif c18 h
    refine ev_iconst dX7_takeWord_135 (v := (0 : Int32)) zci_0 ?_
    refine ev_goto dX7_takeWord_136 (tgt := 205) (by decide) ?_
    exact EV.mask [true, false] rfl (e7_takeWord_B205 hw hS hd (0 : Int32) J14 h)
set_option maxHeartbeats 4000000 in
set_option maxRecDepth 100000 in
theorem e7_takeWord_B39 {w : zW} {d : Nat} {n : Nat} {kd : zMK} {R : zMR} {r : zMI}  (hw : zst w = zSt0) (hS : zSh n kd) (hd : 6 ≤ d)   : ∀  (I : zMI), f7_takeWord_B39 I = some r → EV w d 0 0 Y7_takeWord 39 [some (.ref 37), none] [] (n, kd, I, R) (q7_takeWord n kd R r) := by
  intro I h
  unfold f7_takeWord_B39 at h
  refine ev_aload_n dX7_takeWord_39 rfl rfl ?_
  refine ev_aload_n dX7_takeWord_40 rfl rfl ?_
  refine ev_ldcS (i := 0) dX7_takeWord_41 (by decide) rfl rfl ?_
  obtain ⟨p34, e35, h⟩ := zbd h
  refine ev_callV0 dX7_takeWord_43 zm7_spells zl_NineHeaps_Tape_123 zi7_spells zv7_spells (zrcT hS) (As := [.ref 2]) (rest := [.ref 37]) rfl rfl (Nat.le_of_ble_eq_true rfl) rfl (Nat.le_of_ble_eq_true rfl) (d' := 5) (by omega) (e7_spells hw hS (Nat.le_refl _) e35) (fun v μ1 q => ?_)
  obtain ⟨rfl, rfl⟩ := q
  refine ev_if_eq dX7_takeWord_46 (tgt := 53) (by decide) (fun c36 => ?_) (fun c36 => ?_)
  · replace h := zit c36 h
    refine ev_aload_n dX7_takeWord_53 rfl rfl ?_
    refine ev_ldcS (i := 1) dX7_takeWord_54 (by decide) rfl rfl ?_
    obtain ⟨p37, e38, h⟩ := zbd h
    refine ev_callV0 dX7_takeWord_56 zm7_spells zl_NineHeaps_Tape_123 zi7_spells zv7_spells (zrcT hS) (As := [.ref 3]) (rest := [.ref 37]) rfl rfl (Nat.le_of_ble_eq_true rfl) rfl (Nat.le_of_ble_eq_true rfl) (d' := 5) (by omega) (e7_spells hw hS (Nat.le_refl _) e38) (fun v μ1 q => ?_)
    obtain ⟨rfl, rfl⟩ := q
    refine ev_if_eq dX7_takeWord_59 (tgt := 66) (by decide) (fun c39 => ?_) (fun c39 => ?_)
    · replace h := zit c39 h
      refine ev_aload_n dX7_takeWord_66 rfl rfl ?_
      refine ev_ldcS (i := 2) dX7_takeWord_67 (by decide) rfl rfl ?_
      obtain ⟨p40, e41, h⟩ := zbd h
      refine ev_callV0 dX7_takeWord_69 zm7_spells zl_NineHeaps_Tape_123 zi7_spells zv7_spells (zrcT hS) (As := [.ref 4]) (rest := [.ref 37]) rfl rfl (Nat.le_of_ble_eq_true rfl) rfl (Nat.le_of_ble_eq_true rfl) (d' := 5) (by omega) (e7_spells hw hS (Nat.le_refl _) e41) (fun v μ1 q => ?_)
      obtain ⟨rfl, rfl⟩ := q
      refine ev_if_eq dX7_takeWord_72 (tgt := 80) (by decide) (fun c42 => ?_) (fun c42 => ?_)
      · replace h := zit c42 h
        refine ev_aload_n dX7_takeWord_80 rfl rfl ?_
        refine ev_ldcS (i := 3) dX7_takeWord_81 (by decide) rfl rfl ?_
        obtain ⟨p43, e44, h⟩ := zbd h
        refine ev_callV0 dX7_takeWord_83 zm7_spells zl_NineHeaps_Tape_123 zi7_spells zv7_spells (zrcT hS) (As := [.ref 5]) (rest := [.ref 37]) rfl rfl (Nat.le_of_ble_eq_true rfl) rfl (Nat.le_of_ble_eq_true rfl) (d' := 5) (by omega) (e7_spells hw hS (Nat.le_refl _) e44) (fun v μ1 q => ?_)
        obtain ⟨rfl, rfl⟩ := q
        refine ev_if_eq dX7_takeWord_86 (tgt := 94) (by decide) (fun c45 => ?_) (fun c45 => ?_)
        · replace h := zit c45 h
          refine ev_aload_n dX7_takeWord_94 rfl rfl ?_
          refine ev_ldcS (i := 4) dX7_takeWord_95 (by decide) rfl rfl ?_
          obtain ⟨p46, e47, h⟩ := zbd h
          refine ev_callV0 dX7_takeWord_97 zm7_spells zl_NineHeaps_Tape_123 zi7_spells zv7_spells (zrcT hS) (As := [.ref 6]) (rest := [.ref 37]) rfl rfl (Nat.le_of_ble_eq_true rfl) rfl (Nat.le_of_ble_eq_true rfl) (d' := 5) (by omega) (e7_spells hw hS (Nat.le_refl _) e47) (fun v μ1 q => ?_)
          obtain ⟨rfl, rfl⟩ := q
          refine ev_if_eq dX7_takeWord_100 (tgt := 108) (by decide) (fun c48 => ?_) (fun c48 => ?_)
          · replace h := zit c48 h
            refine ev_aload_n dX7_takeWord_108 rfl rfl ?_
            refine ev_ldcS (i := 5) dX7_takeWord_109 (by decide) rfl rfl ?_
            obtain ⟨p49, e50, h⟩ := zbd h
            refine ev_callV0 dX7_takeWord_111 zm7_spells zl_NineHeaps_Tape_123 zi7_spells zv7_spells (zrcT hS) (As := [.ref 7]) (rest := [.ref 37]) rfl rfl (Nat.le_of_ble_eq_true rfl) rfl (Nat.le_of_ble_eq_true rfl) (d' := 5) (by omega) (e7_spells hw hS (Nat.le_refl _) e50) (fun v μ1 q => ?_)
            obtain ⟨rfl, rfl⟩ := q
            refine ev_if_eq dX7_takeWord_114 (tgt := 122) (by decide) (fun c51 => ?_) (fun c51 => ?_)
            · replace h := zit c51 h
              refine ev_iconst dX7_takeWord_122 (v := (1 : Int32)) zci_1 ?_
              exact EV.mask [true, false] rfl (e7_takeWord_B123 hw hS hd (1 : Int32) I h)
            · replace h := zif c51 h
              refine ev_bipush dX7_takeWord_117 (v := (9 : Int32)) zcb_9 ?_
              refine ev_goto dX7_takeWord_119 (tgt := 123) (by decide) ?_
              exact EV.mask [true, false] rfl (e7_takeWord_B123 hw hS hd (9 : Int32) I h)
          · replace h := zif c48 h
            refine ev_bipush dX7_takeWord_103 (v := (8 : Int32)) zcb_8 ?_
            refine ev_goto dX7_takeWord_105 (tgt := 123) (by decide) ?_
            exact EV.mask [true, false] rfl (e7_takeWord_B123 hw hS hd (8 : Int32) I h)
        · replace h := zif c45 h
          refine ev_bipush dX7_takeWord_89 (v := (7 : Int32)) zcb_7 ?_
          refine ev_goto dX7_takeWord_91 (tgt := 123) (by decide) ?_
          exact EV.mask [true, false] rfl (e7_takeWord_B123 hw hS hd (7 : Int32) I h)
      · replace h := zif c42 h
        refine ev_bipush dX7_takeWord_75 (v := (6 : Int32)) zcb_6 ?_
        refine ev_goto dX7_takeWord_77 (tgt := 123) (by decide) ?_
        exact EV.mask [true, false] rfl (e7_takeWord_B123 hw hS hd (6 : Int32) I h)
    · replace h := zif c39 h
      refine ev_iconst dX7_takeWord_62 (v := (5 : Int32)) zci_5 ?_
      refine ev_goto dX7_takeWord_63 (tgt := 123) (by decide) ?_
      exact EV.mask [true, false] rfl (e7_takeWord_B123 hw hS hd (5 : Int32) I h)
  · replace h := zif c36 h
    refine ev_iconst dX7_takeWord_49 (v := (4 : Int32)) zci_4 ?_
    refine ev_goto dX7_takeWord_50 (tgt := 123) (by decide) ?_
    exact EV.mask [true, false] rfl (e7_takeWord_B123 hw hS hd (4 : Int32) I h)
set_option maxHeartbeats 4000000 in
set_option maxRecDepth 100000 in
theorem e7_takeWord {w : zW} {d : Nat} {n : Nat} {kd : zMK} {I : zMI} {R : zMR} {r : zMI}  (hw : zst w = zSt0) (hS : zSh n kd) (hd : 6 ≤ d)  (h : f7_takeWord I = some r) : EV w d 0 0 Y7_takeWord 0 [some (.ref 37), none] [] (n, kd, I, R) (q7_takeWord n kd R r) := by
  unfold f7_takeWord at h
  refine ev_iconst dX7_takeWord_0 (v := (0 : Int32)) zci_0 ?_
  refine ev_istore_n dX7_takeWord_1 rfl (by decide) rfl ?_
  exact EV.mask [true, true] rfl (e7_takeWord_L2 hw hS hd (fun I' h' => e7_takeWord_B39 hw hS hd I' h') zF (0 : Int32) I h)
abbrev q7_isDigit (n : Nat) (kd : zMK) (I : zMI) (R : zMR) (r : Int32) : Option Value → zM → Prop := fun v μ1 => v = some (.int r) ∧ μ1 = (n, kd, I, R)
set_option maxHeartbeats 4000000 in
set_option maxRecDepth 100000 in
theorem e7_isDigit {w : zW} {d : Nat} {n : Nat} {kd : zMK} {I : zMI} {R : zMR} {r : Int32} {l0 : Int32} (hw : zst w = zSt0) (hS : zSh n kd) (hd : 1 ≤ d)  (h : f7_isDigit l0 = some r) : EV w d 0 0 Y7_isDigit 0 [some (.int l0)] [] (n, kd, I, R) (q7_isDigit n kd I R r) := by
  unfold f7_isDigit at h
  refine ev_iload_n dX7_isDigit_0 rfl rfl ?_
  refine ev_bipush dX7_isDigit_1 (v := (48 : Int32)) zcb_48 ?_
  obtain ⟨x3, e4, h⟩ := zld h
  have k6 : EV w d 0 0 Y7_isDigit 17 [some (.int l0)] [.int x3] (n, kd, I, R) (q7_isDigit n kd I R r) := by
    obtain ⟨g5, h⟩ := zgd h
    obtain rfl := Option.some.inj h
    exact ev_end_i dX7_isDigit_17 rfl (zbB_n g5) ⟨rfl, rfl⟩
  clear h
  have h := e4
  clear e4
  refine ev_icmp_lt dX7_isDigit_3 (tgt := 16) (by decide) (fun c1 => ?_) (fun c1 => ?_)
  · replace h := zit c1 h
    refine ev_iconst dX7_isDigit_16 (v := (0 : Int32)) zci_0 ?_
    obtain rfl := h
    exact k6
  · replace h := zif c1 h
    refine ev_iload_n dX7_isDigit_6 rfl rfl ?_
    refine ev_bipush dX7_isDigit_7 (v := (57 : Int32)) zcb_57 ?_
    refine ev_icmp_gt dX7_isDigit_9 (tgt := 16) (by decide) (fun c2 => ?_) (fun c2 => ?_)
    · replace h := zit c2 h
      refine ev_iconst dX7_isDigit_16 (v := (0 : Int32)) zci_0 ?_
      obtain rfl := h
      exact k6
    · replace h := zif c2 h
      refine ev_iconst dX7_isDigit_12 (v := (1 : Int32)) zci_1 ?_
      refine ev_goto dX7_isDigit_13 (tgt := 17) (by decide) ?_
      obtain rfl := h
      exact k6
abbrev q7_takeNumber (n : Nat) (kd : zMK) (R : zMR) (r : zMI) : Option Value → zM → Prop := fun v μ1 => v = none ∧ μ1 = (n, kd, r, R)
set_option maxHeartbeats 4000000 in
set_option maxRecDepth 100000 in
theorem e7_takeNumber_L4 {w : zW} {d : Nat} {n : Nat} {kd : zMK} {R : zMR} {r : zMI} {k58 : Int32 → zMI → Option (zMI)} (hw : zst w = zSt0) (hS : zSh n kd) (hd : 2 ≤ d)  (hk58 : ∀ (l1 : Int32) (I : zMI), k58 l1 I = some r → EV w d 0 0 Y7_takeNumber 58 [some (.ref 37), some (.int l1), none] [] (n, kd, I, R) (q7_takeNumber n kd R r)) : ∀ (q : Nat) (l1 : Int32) (l2 : Int32) (I : zMI), f7_takeNumber_L4 k58 q l1 l2 I = some r → EV w d 0 0 Y7_takeNumber 4 [some (.ref 37), some (.int l1), some (.int l2)] [] (n, kd, I, R) (q7_takeNumber n kd R r) := by
  intro q
  induction q with
  | zero =>
    intro l1 l2 I h
    cases h
  | succ q ih =>
    intro l1 l2 I h
    unfold f7_takeNumber_L4 at h
    refine ev_iload_n dX7_takeNumber_4 rfl rfl ?_
    refine ev_sipush dX7_takeNumber_5 (v := (160 : Int32)) zcs_160 ?_
    refine ev_icmp_ge dX7_takeNumber_8 (tgt := 58) (by decide) (fun c1 => ?_) (fun c1 => ?_)
    · replace h := zit c1 h
      exact EV.mask [true, true, false] rfl (hk58 l1 I h)
    · replace h := zif c1 h
      refine ev_aload_n dX7_takeNumber_11 rfl rfl ?_
      refine ev_aload_n dX7_takeNumber_12 rfl rfl ?_
      refine em_getI dX7_takeNumber_13 zf_NineHeaps_Tape_27 rfl (hS.has 37 (by decide) (by decide) rfl) rfl ?_
      obtain ⟨p2, e3, h⟩ := zbd h
      refine ev_callV0 dX7_takeNumber_16 zm7_byteAt zl_NineHeaps_Tape_102 zi7_byteAt zv7_byteAt (zrcT hS) (As := [.int (I 37 2)]) (rest := []) rfl rfl (Nat.le_of_ble_eq_true rfl) rfl (Nat.le_of_ble_eq_true rfl) (d' := 1) (by omega) (e7_byteAt hw hS (Nat.le_refl _) e3) (fun v μ1 q => ?_)
      obtain ⟨rfl, rfl⟩ := q
      obtain ⟨p4, e5, h⟩ := zbd h
      refine ev_callS0 dX7_takeNumber_19 zm7_isDigit zl_NineHeaps_Tape_112 zs7_isDigit (As := [.int p2]) (rest := []) rfl rfl (Nat.le_of_ble_eq_true rfl) rfl (Nat.le_of_ble_eq_true rfl) (d' := 1) (by omega) (e7_isDigit hw hS (Nat.le_refl _) e5) (fun v μ1 q => ?_)
      obtain ⟨rfl, rfl⟩ := q
      refine ev_if_eq dX7_takeNumber_22 (tgt := 58) (by decide) (fun c6 => ?_) (fun c6 => ?_)
      · replace h := zit c6 h
        exact EV.mask [true, true, false] rfl (hk58 l1 I h)
      · replace h := zif c6 h
        refine ev_iload_n dX7_takeNumber_25 rfl rfl ?_
        refine ev_bipush dX7_takeNumber_26 (v := (10 : Int32)) zcb_10 ?_
        refine ev_imul dX7_takeNumber_28 rfl ?_
        refine ev_aload_n dX7_takeNumber_29 rfl rfl ?_
        refine ev_aload_n dX7_takeNumber_30 rfl rfl ?_
        refine em_getI dX7_takeNumber_31 zf_NineHeaps_Tape_27 rfl (hS.has 37 (by decide) (by decide) rfl) rfl ?_
        obtain ⟨p7, e8, h⟩ := zbd h
        refine ev_callV0 dX7_takeNumber_34 zm7_byteAt zl_NineHeaps_Tape_102 zi7_byteAt zv7_byteAt (zrcT hS) (As := [.int (I 37 2)]) (rest := [.int (l1 * (10 : Int32))]) rfl rfl (Nat.le_of_ble_eq_true rfl) rfl (Nat.le_of_ble_eq_true rfl) (d' := 1) (by omega) (e7_byteAt hw hS (Nat.le_refl _) e8) (fun v μ1 q => ?_)
        obtain ⟨rfl, rfl⟩ := q
        refine ev_iadd dX7_takeNumber_37 rfl ?_
        refine ev_bipush dX7_takeNumber_38 (v := (48 : Int32)) zcb_48 ?_
        refine ev_isub dX7_takeNumber_40 rfl ?_
        obtain ⟨x9, e10, h⟩ := zld h
        refine ev_nm e10 ?_
        refine ev_istore_n dX7_takeNumber_41 rfl (by decide) rfl ?_
        refine ev_aload_n dX7_takeNumber_42 rfl rfl ?_
        refine ev_dup dX7_takeNumber_43 rfl ?_
        refine em_getI dX7_takeNumber_44 zf_NineHeaps_Tape_27 rfl (hS.has 37 (by decide) (by decide) rfl) rfl ?_
        refine ev_iconst dX7_takeNumber_47 (v := (1 : Int32)) zci_1 ?_
        refine ev_iadd dX7_takeNumber_48 rfl ?_
        obtain ⟨J11, e12, h⟩ := zld h
        refine em_putI dX7_takeNumber_49 zf_NineHeaps_Tape_27 (Or.inl rfl) rfl rfl rfl (hS.has 37 (by decide) (by decide) rfl) e12 ?_
        refine ev_iinc dX7_takeNumber_52 (v := l2 + (1 : Int32)) rfl rfl (by decide) rfl ?_
        refine ev_goto dX7_takeNumber_55 (tgt := 4) (by decide) ?_
        exact EV.mask [true, true, true] rfl (ih x9 (l2 + (1 : Int32)) J11 h)
set_option maxHeartbeats 4000000 in
set_option maxRecDepth 100000 in
theorem e7_takeNumber_B58 {w : zW} {d : Nat} {n : Nat} {kd : zMK} {R : zMR} {r : zMI}  (hw : zst w = zSt0) (hS : zSh n kd) (hd : 2 ≤ d)   : ∀ (l1 : Int32) (I : zMI), f7_takeNumber_B58 l1 I = some r → EV w d 0 0 Y7_takeNumber 58 [some (.ref 37), some (.int l1), none] [] (n, kd, I, R) (q7_takeNumber n kd R r) := by
  intro l1 I h
  unfold f7_takeNumber_B58 at h
  refine ev_aload_n dX7_takeNumber_58 rfl rfl ?_
  refine ev_aload_n dX7_takeNumber_59 rfl rfl ?_
  refine em_getI dX7_takeNumber_60 zf_NineHeaps_Tape_27 rfl (hS.has 37 (by decide) (by decide) rfl) rfl ?_
  refine ev_aload_n dX7_takeNumber_63 rfl rfl ?_
  refine em_getI dX7_takeNumber_64 zf_NineHeaps_Tape_99 rfl (hS.has 37 (by decide) (by decide) rfl) rfl ?_
  refine ev_isub dX7_takeNumber_67 rfl ?_
  refine ev_iconst dX7_takeNumber_68 (v := (4 : Int32)) zci_4 ?_
  obtain ⟨x14, e15, h⟩ := zld h
  have k20 : EV w d 0 0 Y7_takeNumber 77 [some (.ref 37), some (.int l1), none] [.int x14, .ref 37] (n, kd, I, R) (q7_takeNumber n kd R r) := by
    obtain ⟨J16, e17, h⟩ := zld h
    refine em_putI dX7_takeNumber_77 zf_NineHeaps_Tape_43 (Or.inl rfl) rfl rfl rfl (hS.has 37 (by decide) (by decide) rfl) e17 ?_
    refine ev_aload_n dX7_takeNumber_80 rfl rfl ?_
    refine ev_iload_n dX7_takeNumber_81 rfl rfl ?_
    obtain ⟨J18, e19, h⟩ := zld h
    refine em_putI dX7_takeNumber_82 zf_NineHeaps_Tape_96 (Or.inl rfl) rfl rfl rfl (hS.has 37 (by decide) (by decide) rfl) e19 ?_
    obtain rfl := Option.some.inj h
    exact ev_end_v dX7_takeNumber_85 rfl ⟨rfl, rfl⟩
  clear h
  have h := e15
  clear e15
  refine ev_icmp_le dX7_takeNumber_69 (tgt := 76) (by decide) (fun c13 => ?_) (fun c13 => ?_)
  · replace h := zit c13 h
    refine ev_iconst dX7_takeNumber_76 (v := (2 : Int32)) zci_2 ?_
    obtain rfl := h
    exact k20
  · replace h := zif c13 h
    refine ev_iconst dX7_takeNumber_72 (v := (1 : Int32)) zci_1 ?_
    refine ev_goto dX7_takeNumber_73 (tgt := 77) (by decide) ?_
    obtain rfl := h
    exact k20
set_option maxHeartbeats 4000000 in
set_option maxRecDepth 100000 in
theorem e7_takeNumber {w : zW} {d : Nat} {n : Nat} {kd : zMK} {I : zMI} {R : zMR} {r : zMI}  (hw : zst w = zSt0) (hS : zSh n kd) (hd : 2 ≤ d)  (h : f7_takeNumber I = some r) : EV w d 0 0 Y7_takeNumber 0 [some (.ref 37), none, none] [] (n, kd, I, R) (q7_takeNumber n kd R r) := by
  unfold f7_takeNumber at h
  refine ev_iconst dX7_takeNumber_0 (v := (0 : Int32)) zci_0 ?_
  refine ev_istore_n dX7_takeNumber_1 rfl (by decide) rfl ?_
  refine ev_iconst dX7_takeNumber_2 (v := (0 : Int32)) zci_0 ?_
  refine ev_istore_n dX7_takeNumber_3 rfl (by decide) rfl ?_
  exact EV.mask [true, true, true] rfl (e7_takeNumber_L4 hw hS hd (fun l1' I' h' => e7_takeNumber_B58 hw hS hd l1' I' h') zF (0 : Int32) (0 : Int32) I h)
abbrev q7_isSign (n : Nat) (kd : zMK) (I : zMI) (R : zMR) (r : Int32) : Option Value → zM → Prop := fun v μ1 => v = some (.int r) ∧ μ1 = (n, kd, I, R)
set_option maxHeartbeats 4000000 in
set_option maxRecDepth 100000 in
theorem e7_isSign {w : zW} {d : Nat} {n : Nat} {kd : zMK} {I : zMI} {R : zMR} {r : Int32} {l0 : Int32} (hw : zst w = zSt0) (hS : zSh n kd) (hd : 1 ≤ d)  (h : f7_isSign l0 = some r) : EV w d 0 0 Y7_isSign 0 [some (.int l0)] [] (n, kd, I, R) (q7_isSign n kd I R r) := by
  unfold f7_isSign at h
  refine ev_iload_n dX7_isSign_0 rfl rfl ?_
  refine ev_bipush dX7_isSign_1 (v := (40 : Int32)) zcb_40 ?_
  obtain ⟨x9, e10, h⟩ := zld h
  have k12 : EV w d 0 0 Y7_isSign 53 [some (.int l0)] [.int x9] (n, kd, I, R) (q7_isSign n kd I R r) := by
    obtain ⟨g11, h⟩ := zgd h
    obtain rfl := Option.some.inj h
    exact ev_end_i dX7_isSign_53 rfl (zbB_n g11) ⟨rfl, rfl⟩
  clear h
  have h := e10
  clear e10
  refine ev_icmp_eq dX7_isSign_3 (tgt := 48) (by decide) (fun c1 => ?_) (fun c1 => ?_)
  · replace h := zit c1 h
    refine ev_iconst dX7_isSign_48 (v := (1 : Int32)) zci_1 ?_
    refine ev_goto dX7_isSign_49 (tgt := 53) (by decide) ?_
    obtain rfl := h
    exact k12
  · replace h := zif c1 h
    refine ev_iload_n dX7_isSign_6 rfl rfl ?_
    refine ev_bipush dX7_isSign_7 (v := (41 : Int32)) zcb_41 ?_
    refine ev_icmp_eq dX7_isSign_9 (tgt := 48) (by decide) (fun c2 => ?_) (fun c2 => ?_)
    · replace h := zit c2 h
      refine ev_iconst dX7_isSign_48 (v := (1 : Int32)) zci_1 ?_
      refine ev_goto dX7_isSign_49 (tgt := 53) (by decide) ?_
      obtain rfl := h
      exact k12
    · replace h := zif c2 h
      refine ev_iload_n dX7_isSign_12 rfl rfl ?_
      refine ev_bipush dX7_isSign_13 (v := (59 : Int32)) zcb_59 ?_
      refine ev_icmp_eq dX7_isSign_15 (tgt := 48) (by decide) (fun c3 => ?_) (fun c3 => ?_)
      · replace h := zit c3 h
        refine ev_iconst dX7_isSign_48 (v := (1 : Int32)) zci_1 ?_
        refine ev_goto dX7_isSign_49 (tgt := 53) (by decide) ?_
        obtain rfl := h
        exact k12
      · replace h := zif c3 h
        refine ev_iload_n dX7_isSign_18 rfl rfl ?_
        refine ev_bipush dX7_isSign_19 (v := (43 : Int32)) zcb_43 ?_
        refine ev_icmp_eq dX7_isSign_21 (tgt := 48) (by decide) (fun c4 => ?_) (fun c4 => ?_)
        · replace h := zit c4 h
          refine ev_iconst dX7_isSign_48 (v := (1 : Int32)) zci_1 ?_
          refine ev_goto dX7_isSign_49 (tgt := 53) (by decide) ?_
          obtain rfl := h
          exact k12
        · replace h := zif c4 h
          refine ev_iload_n dX7_isSign_24 rfl rfl ?_
          refine ev_bipush dX7_isSign_25 (v := (45 : Int32)) zcb_45 ?_
          refine ev_icmp_eq dX7_isSign_27 (tgt := 48) (by decide) (fun c5 => ?_) (fun c5 => ?_)
          · replace h := zit c5 h
            refine ev_iconst dX7_isSign_48 (v := (1 : Int32)) zci_1 ?_
            refine ev_goto dX7_isSign_49 (tgt := 53) (by decide) ?_
            obtain rfl := h
            exact k12
          · replace h := zif c5 h
            refine ev_iload_n dX7_isSign_30 rfl rfl ?_
            refine ev_bipush dX7_isSign_31 (v := (42 : Int32)) zcb_42 ?_
            refine ev_icmp_eq dX7_isSign_33 (tgt := 48) (by decide) (fun c6 => ?_) (fun c6 => ?_)
            · replace h := zit c6 h
              refine ev_iconst dX7_isSign_48 (v := (1 : Int32)) zci_1 ?_
              refine ev_goto dX7_isSign_49 (tgt := 53) (by decide) ?_
              obtain rfl := h
              exact k12
            · replace h := zif c6 h
              refine ev_iload_n dX7_isSign_36 rfl rfl ?_
              refine ev_bipush dX7_isSign_37 (v := (60 : Int32)) zcb_60 ?_
              refine ev_icmp_eq dX7_isSign_39 (tgt := 48) (by decide) (fun c7 => ?_) (fun c7 => ?_)
              · replace h := zit c7 h
                refine ev_iconst dX7_isSign_48 (v := (1 : Int32)) zci_1 ?_
                refine ev_goto dX7_isSign_49 (tgt := 53) (by decide) ?_
                obtain rfl := h
                exact k12
              · replace h := zif c7 h
                refine ev_iload_n dX7_isSign_42 rfl rfl ?_
                refine ev_bipush dX7_isSign_43 (v := (61 : Int32)) zcb_61 ?_
                refine ev_icmp_ne dX7_isSign_45 (tgt := 52) (by decide) (fun c8 => ?_) (fun c8 => ?_)
                · replace h := zif c8 h
                  refine ev_iconst dX7_isSign_52 (v := (0 : Int32)) zci_0 ?_
                  obtain rfl := h
                  exact k12
                · replace h := zit c8 h
                  refine ev_iconst dX7_isSign_48 (v := (1 : Int32)) zci_1 ?_
                  refine ev_goto dX7_isSign_49 (tgt := 53) (by decide) ?_
                  obtain rfl := h
                  exact k12
abbrev q7_nextToken (n : Nat) (kd : zMK) (R : zMR) (r : zMI) : Option Value → zM → Prop := fun v μ1 => v = none ∧ μ1 = (n, kd, r, R)
set_option maxHeartbeats 4000000 in
set_option maxRecDepth 100000 in
theorem e7_nextToken_B35 {w : zW} {d : Nat} {n : Nat} {kd : zMK} {R : zMR} {r : zMI} {k2 : Int32 → zMI → Option (zMI)} (hw : zst w = zSt0) (hS : zSh n kd) (hd : 7 ≤ d)  (hk2 : ∀ (l1 : Int32) (I : zMI), k2 l1 I = some r → EV w d 0 0 Y7_nextToken 2 [some (.ref 37), some (.int l1)] [] (n, kd, I, R) (q7_nextToken n kd R r)) : ∀ (l1 : Int32) (I : zMI), f7_nextToken_B35 k2 l1 I = some r → EV w d 0 0 Y7_nextToken 35 [some (.ref 37), some (.int l1)] [] (n, kd, I, R) (q7_nextToken n kd R r) := by
  intro l1 I h
  unfold f7_nextToken_B35 at h
  refine ev_aload_n dX7_nextToken_35 rfl rfl ?_
  refine ev_dup dX7_nextToken_36 rfl ?_
  refine em_getI dX7_nextToken_37 zf_NineHeaps_Tape_27 rfl (hS.has 37 (by decide) (by decide) rfl) rfl ?_
  refine ev_iconst dX7_nextToken_40 (v := (1 : Int32)) zci_1 ?_
  refine ev_iadd dX7_nextToken_41 rfl ?_
  obtain ⟨J1, e2, h⟩ := zld h
  refine em_putI dX7_nextToken_42 zf_NineHeaps_Tape_27 (Or.inl rfl) rfl rfl rfl (hS.has 37 (by decide) (by decide) rfl) e2 ?_
  refine ev_iinc dX7_nextToken_45 (v := l1 + (1 : Int32)) rfl rfl (by decide) rfl ?_
  refine ev_goto dX7_nextToken_48 (tgt := 2) (by decide) ?_
  exact EV.mask [true, true] rfl (hk2 (l1 + (1 : Int32)) J1 h)
set_option maxHeartbeats 4000000 in
set_option maxRecDepth 100000 in
theorem e7_nextToken_L2 {w : zW} {d : Nat} {n : Nat} {kd : zMK} {R : zMR} {r : zMI} {k51 : zMI → Option (zMI)} (hw : zst w = zSt0) (hS : zSh n kd) (hd : 7 ≤ d)  (hk51 : ∀  (I : zMI), k51 I = some r → EV w d 0 0 Y7_nextToken 51 [some (.ref 37), none] [] (n, kd, I, R) (q7_nextToken n kd R r)) : ∀ (q : Nat) (l1 : Int32) (I : zMI), f7_nextToken_L2 k51 q l1 I = some r → EV w d 0 0 Y7_nextToken 2 [some (.ref 37), some (.int l1)] [] (n, kd, I, R) (q7_nextToken n kd R r) := by
  intro q
  induction q with
  | zero =>
    intro l1 I h
    cases h
  | succ q ih =>
    intro l1 I h
    unfold f7_nextToken_L2 at h
    refine ev_iload_n dX7_nextToken_2 rfl rfl ?_
    refine ev_sipush dX7_nextToken_3 (v := (160 : Int32)) zcs_160 ?_
    refine ev_icmp_ge dX7_nextToken_6 (tgt := 51) (by decide) (fun c3 => ?_) (fun c3 => ?_)
    · replace h := zit c3 h
      exact EV.mask [true, false] rfl (hk51 I h)
    · replace h := zif c3 h
      refine ev_aload_n dX7_nextToken_9 rfl rfl ?_
      refine ev_aload_n dX7_nextToken_10 rfl rfl ?_
      refine em_getI dX7_nextToken_11 zf_NineHeaps_Tape_27 rfl (hS.has 37 (by decide) (by decide) rfl) rfl ?_
      obtain ⟨p4, e5, h⟩ := zbd h
      refine ev_callV0 dX7_nextToken_14 zm7_byteAt zl_NineHeaps_Tape_102 zi7_byteAt zv7_byteAt (zrcT hS) (As := [.int (I 37 2)]) (rest := []) rfl rfl (Nat.le_of_ble_eq_true rfl) rfl (Nat.le_of_ble_eq_true rfl) (d' := 1) (by omega) (e7_byteAt hw hS (Nat.le_refl _) e5) (fun v μ1 q => ?_)
      obtain ⟨rfl, rfl⟩ := q
      refine ev_bipush dX7_nextToken_17 (v := (32 : Int32)) zcb_32 ?_
      refine ev_icmp_eq dX7_nextToken_19 (tgt := 35) (by decide) (fun c6 => ?_) (fun c6 => ?_)
      · replace h := zit c6 h
        exact EV.mask [true, true] rfl (e7_nextToken_B35 hw hS hd (fun l1' I' h' => ih l1' I' h') l1 I h)
      · replace h := zif c6 h
        refine ev_aload_n dX7_nextToken_22 rfl rfl ?_
        refine ev_aload_n dX7_nextToken_23 rfl rfl ?_
        refine em_getI dX7_nextToken_24 zf_NineHeaps_Tape_27 rfl (hS.has 37 (by decide) (by decide) rfl) rfl ?_
        obtain ⟨p7, e8, h⟩ := zbd h
        refine ev_callV0 dX7_nextToken_27 zm7_byteAt zl_NineHeaps_Tape_102 zi7_byteAt zv7_byteAt (zrcT hS) (As := [.int (I 37 2)]) (rest := []) rfl rfl (Nat.le_of_ble_eq_true rfl) rfl (Nat.le_of_ble_eq_true rfl) (d' := 1) (by omega) (e7_byteAt hw hS (Nat.le_refl _) e8) (fun v μ1 q => ?_)
        obtain ⟨rfl, rfl⟩ := q
        refine ev_bipush dX7_nextToken_30 (v := (10 : Int32)) zcb_10 ?_
        refine ev_icmp_ne dX7_nextToken_32 (tgt := 51) (by decide) (fun c9 => ?_) (fun c9 => ?_)
        · replace h := zif c9 h
          exact EV.mask [true, false] rfl (hk51 I h)
        · replace h := zit c9 h
          exact EV.mask [true, true] rfl (e7_nextToken_B35 hw hS hd (fun l1' I' h' => ih l1' I' h') l1 I h)
set_option maxHeartbeats 4000000 in
set_option maxRecDepth 100000 in
theorem e7_nextToken_B51 {w : zW} {d : Nat} {n : Nat} {kd : zMK} {R : zMR} {r : zMI}  (hw : zst w = zSt0) (hS : zSh n kd) (hd : 7 ≤ d)   : ∀  (I : zMI), f7_nextToken_B51 I = some r → EV w d 0 0 Y7_nextToken 51 [some (.ref 37), none] [] (n, kd, I, R) (q7_nextToken n kd R r) := by
  intro I h
  unfold f7_nextToken_B51 at h
  refine ev_aload_n dX7_nextToken_51 rfl rfl ?_
  refine ev_aload_n dX7_nextToken_52 rfl rfl ?_
  refine em_getI dX7_nextToken_53 zf_NineHeaps_Tape_27 rfl (hS.has 37 (by decide) (by decide) rfl) rfl ?_
  obtain ⟨J10, e11, h⟩ := zld h
  refine em_putI dX7_nextToken_56 zf_NineHeaps_Tape_99 (Or.inl rfl) rfl rfl rfl (hS.has 37 (by decide) (by decide) rfl) e11 ?_
  refine ev_aload_n dX7_nextToken_59 rfl rfl ?_
  refine ev_aload_n dX7_nextToken_60 rfl rfl ?_
  refine em_getI dX7_nextToken_61 zf_NineHeaps_Tape_27 rfl (hS.has 37 (by decide) (by decide) rfl) rfl ?_
  obtain ⟨p12, e13, h⟩ := zbd h
  refine ev_callV0 dX7_nextToken_64 zm7_byteAt zl_NineHeaps_Tape_102 zi7_byteAt zv7_byteAt (zrcT hS) (As := [.int (J10 37 2)]) (rest := []) rfl rfl (Nat.le_of_ble_eq_true rfl) rfl (Nat.le_of_ble_eq_true rfl) (d' := 1) (by omega) (e7_byteAt hw hS (Nat.le_refl _) e13) (fun v μ1 q => ?_)
  obtain ⟨rfl, rfl⟩ := q
  refine ev_istore_n dX7_nextToken_67 rfl (by decide) rfl ?_
  refine ev_iload_n dX7_nextToken_68 rfl rfl ?_
  refine ev_iconst dX7_nextToken_69 (v := (-1 : Int32)) zci_m1 ?_
  refine ev_icmp_ne dX7_nextToken_70 (tgt := 81) (by decide) (fun c14 => ?_) (fun c14 => ?_)
  · replace h := zif c14 h
    refine ev_iload_n dX7_nextToken_81 rfl rfl ?_
    obtain ⟨p15, e16, h⟩ := zbd h
    refine ev_callS0 dX7_nextToken_82 zm7_isLetter zl_NineHeaps_Tape_106 zs7_isLetter (As := [.int p12]) (rest := []) rfl rfl (Nat.le_of_ble_eq_true rfl) rfl (Nat.le_of_ble_eq_true rfl) (d' := 1) (by omega) (e7_isLetter hw hS (Nat.le_refl _) e16) (fun v μ1 q => ?_)
    obtain ⟨rfl, rfl⟩ := q
    refine ev_if_eq dX7_nextToken_85 (tgt := 95) (by decide) (fun c17 => ?_) (fun c17 => ?_)
    · replace h := zit c17 h
      refine ev_iload_n dX7_nextToken_95 rfl rfl ?_
      obtain ⟨p18, e19, h⟩ := zbd h
      refine ev_callS0 dX7_nextToken_96 zm7_isDigit zl_NineHeaps_Tape_112 zs7_isDigit (As := [.int p12]) (rest := []) rfl rfl (Nat.le_of_ble_eq_true rfl) rfl (Nat.le_of_ble_eq_true rfl) (d' := 1) (by omega) (e7_isDigit hw hS (Nat.le_refl _) e19) (fun v μ1 q => ?_)
      obtain ⟨rfl, rfl⟩ := q
      refine ev_if_eq dX7_nextToken_99 (tgt := 109) (by decide) (fun c20 => ?_) (fun c20 => ?_)
      · replace h := zit c20 h
        refine ev_aload_n dX7_nextToken_109 rfl rfl ?_
        refine ev_dup dX7_nextToken_110 rfl ?_
        refine em_getI dX7_nextToken_111 zf_NineHeaps_Tape_27 rfl (hS.has 37 (by decide) (by decide) rfl) rfl ?_
        refine ev_iconst dX7_nextToken_114 (v := (1 : Int32)) zci_1 ?_
        refine ev_iadd dX7_nextToken_115 rfl ?_
        obtain ⟨J21, e22, h⟩ := zld h
        refine em_putI dX7_nextToken_116 zf_NineHeaps_Tape_27 (Or.inl rfl) rfl rfl rfl (hS.has 37 (by decide) (by decide) rfl) e22 ?_
        refine ev_aload_n dX7_nextToken_119 rfl rfl ?_
        refine ev_iload_n dX7_nextToken_120 rfl rfl ?_
        obtain ⟨p23, e24, h⟩ := zbd h
        refine ev_callS0 dX7_nextToken_121 zm7_isSign zl_NineHeaps_Tape_118 zs7_isSign (As := [.int p12]) (rest := [.ref 37]) rfl rfl (Nat.le_of_ble_eq_true rfl) rfl (Nat.le_of_ble_eq_true rfl) (d' := 1) (by omega) (e7_isSign hw hS (Nat.le_refl _) e24) (fun v μ1 q => ?_)
        obtain ⟨rfl, rfl⟩ := q
        obtain ⟨x26, e27, h⟩ := zld h
        have k30 : EV w d 0 0 Y7_nextToken 132 [some (.ref 37), some (.int p12)] [.int x26, .ref 37] (n, kd, J21, R) (q7_nextToken n kd R r) := by
          obtain ⟨J28, e29, h⟩ := zld h
          refine em_putI dX7_nextToken_132 zf_NineHeaps_Tape_43 (Or.inl rfl) rfl rfl rfl (hS.has 37 (by decide) (by decide) rfl) e29 ?_
          obtain rfl := Option.some.inj h
          exact ev_end_v dX7_nextToken_135 rfl ⟨rfl, rfl⟩
        clear h
        have h := e27
        clear e27
        refine ev_if_eq dX7_nextToken_124 (tgt := 131) (by decide) (fun c25 => ?_) (fun c25 => ?_)
        · replace h := zit c25 h
          refine ev_iconst dX7_nextToken_131 (v := (1 : Int32)) zci_1 ?_
          obtain rfl := h
          exact k30
        · replace h := zif c25 h
          refine ev_iload_n dX7_nextToken_127 rfl rfl ?_
          refine ev_goto dX7_nextToken_128 (tgt := 132) (by decide) ?_
          obtain rfl := h
          exact k30
      · replace h := zif c20 h
        refine ev_aload_n dX7_nextToken_102 rfl rfl ?_
        obtain ⟨p31, e32, h⟩ := zbd h
        refine ev_callV0 dX7_nextToken_103 zm7_takeNumber zl_NineHeaps_Tape_115 zi7_takeNumber zv7_takeNumber (zrcT hS) (As := []) (rest := []) rfl rfl (Nat.le_of_ble_eq_true rfl) rfl (Nat.le_of_ble_eq_true rfl) (d' := 2) (by omega) (e7_takeNumber hw hS (Nat.le_refl _) e32) (fun v μ1 q => ?_)
        obtain ⟨rfl, rfl⟩ := q
        refine ev_goto dX7_nextToken_106 (tgt := 135) (by decide) ?_
        obtain rfl := Option.some.inj h
        exact ev_end_v dX7_nextToken_135 rfl ⟨rfl, rfl⟩
    · replace h := zif c17 h
      refine ev_aload_n dX7_nextToken_88 rfl rfl ?_
      obtain ⟨p33, e34, h⟩ := zbd h
      refine ev_callV0 dX7_nextToken_89 zm7_takeWord zl_NineHeaps_Tape_109 zi7_takeWord zv7_takeWord (zrcT hS) (As := []) (rest := []) rfl rfl (Nat.le_of_ble_eq_true rfl) rfl (Nat.le_of_ble_eq_true rfl) (d' := 6) (by omega) (e7_takeWord hw hS (Nat.le_refl _) e34) (fun v μ1 q => ?_)
      obtain ⟨rfl, rfl⟩ := q
      refine ev_goto dX7_nextToken_92 (tgt := 135) (by decide) ?_
      obtain rfl := Option.some.inj h
      exact ev_end_v dX7_nextToken_135 rfl ⟨rfl, rfl⟩
  · replace h := zit c14 h
    refine ev_aload_n dX7_nextToken_73 rfl rfl ?_
    refine ev_iconst dX7_nextToken_74 (v := (0 : Int32)) zci_0 ?_
    obtain ⟨J35, e36, h⟩ := zld h
    refine em_putI dX7_nextToken_75 zf_NineHeaps_Tape_43 (Or.inl rfl) rfl rfl rfl (hS.has 37 (by decide) (by decide) rfl) e36 ?_
    refine ev_goto dX7_nextToken_78 (tgt := 135) (by decide) ?_
    obtain rfl := Option.some.inj h
    exact ev_end_v dX7_nextToken_135 rfl ⟨rfl, rfl⟩
set_option maxHeartbeats 4000000 in
set_option maxRecDepth 100000 in
theorem e7_nextToken {w : zW} {d : Nat} {n : Nat} {kd : zMK} {I : zMI} {R : zMR} {r : zMI}  (hw : zst w = zSt0) (hS : zSh n kd) (hd : 7 ≤ d)  (h : f7_nextToken I = some r) : EV w d 0 0 Y7_nextToken 0 [some (.ref 37), none] [] (n, kd, I, R) (q7_nextToken n kd R r) := by
  unfold f7_nextToken at h
  refine ev_iconst dX7_nextToken_0 (v := (0 : Int32)) zci_0 ?_
  refine ev_istore_n dX7_nextToken_1 rfl (by decide) rfl ?_
  exact EV.mask [true, true] rfl (e7_nextToken_L2 hw hS hd (fun I' h' => e7_nextToken_B51 hw hS hd I' h') zF (0 : Int32) I h)
abbrev q7_fail (n : Nat) (kd : zMK) (R : zMR) (r : zMI) : Option Value → zM → Prop := fun v μ1 => v = none ∧ μ1 = (n, kd, r, R)
set_option maxHeartbeats 4000000 in
set_option maxRecDepth 100000 in
theorem e7_fail {w : zW} {d : Nat} {n : Nat} {kd : zMK} {I : zMI} {R : zMR} {r : zMI}  (hw : zst w = zSt0) (hS : zSh n kd) (hd : 1 ≤ d)  (h : f7_fail I = some r) : EV w d 0 0 Y7_fail 0 [some (.ref 37)] [] (n, kd, I, R) (q7_fail n kd R r) := by
  unfold f7_fail at h
  refine ev_aload_n dX7_fail_0 rfl rfl ?_
  refine em_getI dX7_fail_1 zf_NineHeaps_Tape_30 rfl (hS.has 37 (by decide) (by decide) rfl) rfl ?_
  refine ev_iconst dX7_fail_4 (v := (-1 : Int32)) zci_m1 ?_
  refine ev_icmp_ne dX7_fail_5 (tgt := 16) (by decide) (fun c1 => ?_) (fun c1 => ?_)
  · replace h := zif c1 h
    obtain rfl := Option.some.inj h
    exact ev_end_v dX7_fail_16 rfl ⟨rfl, rfl⟩
  · replace h := zit c1 h
    refine ev_aload_n dX7_fail_8 rfl rfl ?_
    refine ev_aload_n dX7_fail_9 rfl rfl ?_
    refine em_getI dX7_fail_10 zf_NineHeaps_Tape_99 rfl (hS.has 37 (by decide) (by decide) rfl) rfl ?_
    obtain ⟨J2, e3, h⟩ := zld h
    refine em_putI dX7_fail_13 zf_NineHeaps_Tape_30 (Or.inl rfl) rfl rfl rfl (hS.has 37 (by decide) (by decide) rfl) e3 ?_
    obtain rfl := Option.some.inj h
    exact ev_end_v dX7_fail_16 rfl ⟨rfl, rfl⟩
abbrev q7_expect (n : Nat) (kd : zMK) (R : zMR) (r : zMI) : Option Value → zM → Prop := fun v μ1 => v = none ∧ μ1 = (n, kd, r, R)
set_option maxHeartbeats 4000000 in
set_option maxRecDepth 100000 in
theorem e7_expect {w : zW} {d : Nat} {n : Nat} {kd : zMK} {I : zMI} {R : zMR} {r : zMI} {l1 : Int32} (hw : zst w = zSt0) (hS : zSh n kd) (hd : 8 ≤ d)  (h : f7_expect l1 I = some r) : EV w d 0 0 Y7_expect 0 [some (.ref 37), some (.int l1)] [] (n, kd, I, R) (q7_expect n kd R r) := by
  unfold f7_expect at h
  refine ev_aload_n dX7_expect_0 rfl rfl ?_
  refine em_getI dX7_expect_1 zf_NineHeaps_Tape_43 rfl (hS.has 37 (by decide) (by decide) rfl) rfl ?_
  refine ev_iload_n dX7_expect_4 rfl rfl ?_
  refine ev_icmp_ne dX7_expect_5 (tgt := 15) (by decide) (fun c1 => ?_) (fun c1 => ?_)
  · replace h := zif c1 h
    refine ev_aload_n dX7_expect_15 rfl rfl ?_
    obtain ⟨p2, e3, h⟩ := zbd h
    refine ev_callV0 dX7_expect_16 zm7_fail zl_NineHeaps_Tape_46 zi7_fail zv7_fail (zrcT hS) (As := []) (rest := []) rfl rfl (Nat.le_of_ble_eq_true rfl) rfl (Nat.le_of_ble_eq_true rfl) (d' := 1) (by omega) (e7_fail hw hS (Nat.le_refl _) e3) (fun v μ1 q => ?_)
    obtain ⟨rfl, rfl⟩ := q
    obtain rfl := Option.some.inj h
    exact ev_end_v dX7_expect_19 rfl ⟨rfl, rfl⟩
  · replace h := zit c1 h
    refine ev_aload_n dX7_expect_8 rfl rfl ?_
    obtain ⟨p4, e5, h⟩ := zbd h
    refine ev_callV0 dX7_expect_9 zm7_nextToken zl_NineHeaps_Tape_36 zi7_nextToken zv7_nextToken (zrcT hS) (As := []) (rest := []) rfl rfl (Nat.le_of_ble_eq_true rfl) rfl (Nat.le_of_ble_eq_true rfl) (d' := 7) (by omega) (e7_nextToken hw hS (Nat.le_refl _) e5) (fun v μ1 q => ?_)
    obtain ⟨rfl, rfl⟩ := q
    refine ev_goto dX7_expect_12 (tgt := 19) (by decide) ?_
    obtain rfl := Option.some.inj h
    exact ev_end_v dX7_expect_19 rfl ⟨rfl, rfl⟩
abbrev q7_mayOpen (n : Nat) (kd : zMK) (R : zMR) (r : Int32 × zMI) : Option Value → zM → Prop := fun v μ1 => v = some (.int r.1) ∧ μ1 = (n, kd, r.2, R)
set_option maxHeartbeats 4000000 in
set_option maxRecDepth 100000 in
theorem e7_mayOpen_B9 {w : zW} {d : Nat} {n : Nat} {kd : zMK} {R : zMR} {r : Int32 × zMI}  (hw : zst w = zSt0) (hS : zSh n kd) (hd : 2 ≤ d)   : ∀  (I : zMI), f7_mayOpen_B9 I = some r → EV w d 0 0 Y7_mayOpen 9 [some (.ref 37), none] [] (n, kd, I, R) (q7_mayOpen n kd R r) := by
  intro I h
  unfold f7_mayOpen_B9 at h
  refine ev_aload_n dX7_mayOpen_9 rfl rfl ?_
  refine em_getI dX7_mayOpen_10 zf_NineHeaps_Tape_30 rfl (hS.has 37 (by decide) (by decide) rfl) rfl ?_
  refine ev_iconst dX7_mayOpen_13 (v := (-1 : Int32)) zci_m1 ?_
  obtain ⟨x2, e3, h⟩ := zld h
  have k5 : EV w d 0 0 Y7_mayOpen 22 [some (.ref 37), none] [.int x2] (n, kd, I, R) (q7_mayOpen n kd R r) := by
    obtain ⟨g4, h⟩ := zgd h
    obtain rfl := Option.some.inj h
    exact ev_end_i dX7_mayOpen_22 rfl (zbB_n g4) ⟨rfl, rfl⟩
  clear h
  have h := e3
  clear e3
  refine ev_icmp_ne dX7_mayOpen_14 (tgt := 21) (by decide) (fun c1 => ?_) (fun c1 => ?_)
  · replace h := zif c1 h
    refine ev_iconst dX7_mayOpen_21 (v := (0 : Int32)) zci_0 ?_
    obtain rfl := h
    exact k5
  · replace h := zit c1 h
    refine ev_iconst dX7_mayOpen_17 (v := (1 : Int32)) zci_1 ?_
    refine ev_goto dX7_mayOpen_18 (tgt := 22) (by decide) ?_
    obtain rfl := h
    exact k5
set_option maxHeartbeats 4000000 in
set_option maxRecDepth 100000 in
theorem e7_mayOpen {w : zW} {d : Nat} {n : Nat} {kd : zMK} {I : zMI} {R : zMR} {r : Int32 × zMI} {l1 : Int32} (hw : zst w = zSt0) (hS : zSh n kd) (hd : 2 ≤ d)  (h : f7_mayOpen l1 I = some r) : EV w d 0 0 Y7_mayOpen 0 [some (.ref 37), some (.int l1)] [] (n, kd, I, R) (q7_mayOpen n kd R r) := by
  unfold f7_mayOpen at h
  refine ev_iload_n dX7_mayOpen_0 rfl rfl ?_
  refine ev_iconst dX7_mayOpen_1 (v := (5 : Int32)) zci_5 ?_
  refine ev_icmp_lt dX7_mayOpen_2 (tgt := 9) (by decide) (fun c6 => ?_) (fun c6 => ?_)
  · replace h := zit c6 h
    exact EV.mask [true, false] rfl (e7_mayOpen_B9 hw hS hd I h)
  · replace h := zif c6 h
    refine ev_aload_n dX7_mayOpen_5 rfl rfl ?_
    obtain ⟨p7, e8, h⟩ := zbd h
    refine ev_callV0 dX7_mayOpen_6 zm7_fail zl_NineHeaps_Tape_46 zi7_fail zv7_fail (zrcT hS) (As := []) (rest := []) rfl rfl (Nat.le_of_ble_eq_true rfl) rfl (Nat.le_of_ble_eq_true rfl) (d' := 1) (by omega) (e7_fail hw hS (Nat.le_refl _) e8) (fun v μ1 q => ?_)
    obtain ⟨rfl, rfl⟩ := q
    exact EV.mask [true, false] rfl (e7_mayOpen_B9 hw hS hd p7 h)
abbrev q7_put (n : Nat) (kd : zMK) (R : zMR) (r : zMI) : Option Value → zM → Prop := fun v μ1 => v = none ∧ μ1 = (n, kd, r, R)
set_option maxHeartbeats 4000000 in
set_option maxRecDepth 100000 in
theorem e7_put {w : zW} {d : Nat} {n : Nat} {kd : zMK} {I : zMI} {R : zMR} {r : zMI} {l1 : Int32} (hw : zst w = zSt0) (hS : zSh n kd) (hd : 1 ≤ d)  (h : f7_put l1 I = some r) : EV w d 0 0 Y7_put 0 [some (.ref 37), some (.int l1)] [] (n, kd, I, R) (q7_put n kd R r) := by
  unfold f7_put at h
  refine ev_aload_n dX7_put_0 rfl rfl ?_
  refine em_getI dX7_put_1 zf_NineHeaps_Tape_33 rfl (hS.has 37 (by decide) (by decide) rfl) rfl ?_
  refine ev_if_lt dX7_put_4 (tgt := 37) (by decide) (fun c1 => ?_) (fun c1 => ?_)
  · replace h := zit c1 h
    obtain rfl := Option.some.inj h
    exact ev_end_v dX7_put_37 rfl ⟨rfl, rfl⟩
  · replace h := zif c1 h
    refine ev_aload_n dX7_put_7 rfl rfl ?_
    refine em_getI dX7_put_8 zf_NineHeaps_Tape_33 rfl (hS.has 37 (by decide) (by decide) rfl) rfl ?_
    refine ev_sipush dX7_put_11 (v := (160 : Int32)) zcs_160 ?_
    refine ev_icmp_ge dX7_put_14 (tgt := 37) (by decide) (fun c2 => ?_) (fun c2 => ?_)
    · replace h := zit c2 h
      obtain rfl := Option.some.inj h
      exact ev_end_v dX7_put_37 rfl ⟨rfl, rfl⟩
    · replace h := zif c2 h
      refine ev_aload_n dX7_put_17 rfl rfl ?_
      refine em_getA dX7_put_18 zf_NineHeaps_Tape_15 rfl (hS.has 37 (by decide) (by decide) rfl) hw rfl ?_
      refine ev_aload_n dX7_put_21 rfl rfl ?_
      refine em_getI dX7_put_22 zf_NineHeaps_Tape_33 rfl (hS.has 37 (by decide) (by decide) rfl) rfl ?_
      refine ev_iload_n dX7_put_25 rfl rfl ?_
      obtain ⟨g3, h⟩ := zgd h
      obtain ⟨J4, e5, h⟩ := zld h
      refine em_iast dX7_put_26 hS (by decide) (by decide) (N := 160) rfl g3 e5 ?_
      refine ev_aload_n dX7_put_27 rfl rfl ?_
      refine ev_dup dX7_put_28 rfl ?_
      refine em_getI dX7_put_29 zf_NineHeaps_Tape_33 rfl (hS.has 37 (by decide) (by decide) rfl) rfl ?_
      refine ev_iconst dX7_put_32 (v := (1 : Int32)) zci_1 ?_
      refine ev_iadd dX7_put_33 rfl ?_
      obtain ⟨J6, e7, h⟩ := zld h
      refine em_putI dX7_put_34 zf_NineHeaps_Tape_33 (Or.inl rfl) rfl rfl rfl (hS.has 37 (by decide) (by decide) rfl) e7 ?_
      obtain rfl := Option.some.inj h
      exact ev_end_v dX7_put_37 rfl ⟨rfl, rfl⟩
abbrev q7_readOne (n : Nat) (kd : zMK) (R : zMR) (r : zMI) : Option Value → zM → Prop := fun v μ1 => v = none ∧ μ1 = (n, kd, r, R)
set_option maxHeartbeats 4000000 in
set_option maxRecDepth 100000 in
theorem e7_readOne_B16 {w : zW} {d : Nat} {n : Nat} {kd : zMK} {R : zMR} {r : zMI}   {rc : Nat → Int32 → zMI → Option zMI} {e : Nat} (hw : zst w = zSt0) (hS : zSh n kd) (hd : e + 1 ≤ d) (he : 8 ≤ e) (hrc : zPR w e n kd R rc)  : ∀  (I : zMI), f7_readOne_B16 rc I = some r → EV w d 0 0 Y7_readOne 16 [some (.ref 37), none] [] (n, kd, I, R) (q7_readOne n kd R r) := by
  intro I h
  unfold f7_readOne_B16 at h
  refine ev_aload_n dX7_readOne_16 rfl rfl ?_
  refine ev_aload_n dX7_readOne_17 rfl rfl ?_
  refine em_getI dX7_readOne_18 zf_NineHeaps_Tape_96 rfl (hS.has 37 (by decide) (by decide) rfl) rfl ?_
  obtain ⟨p1, e2, h⟩ := zbd h
  refine ev_callV0 dX7_readOne_21 zm7_put zl_NineHeaps_Tape_77 zi7_put zv7_put (zrcT hS) (As := [.int (I 37 5)]) (rest := []) rfl rfl (Nat.le_of_ble_eq_true rfl) rfl (Nat.le_of_ble_eq_true rfl) (d' := 1) (by omega) (e7_put hw hS (Nat.le_refl _) e2) (fun v μ1 q => ?_)
  obtain ⟨rfl, rfl⟩ := q
  refine ev_aload_n dX7_readOne_24 rfl rfl ?_
  obtain ⟨p3, e4, h⟩ := zbd h
  refine ev_callV0 dX7_readOne_25 zm7_nextToken zl_NineHeaps_Tape_36 zi7_nextToken zv7_nextToken (zrcT hS) (As := []) (rest := []) rfl rfl (Nat.le_of_ble_eq_true rfl) rfl (Nat.le_of_ble_eq_true rfl) (d' := 7) (by omega) (e7_nextToken hw hS (Nat.le_refl _) e4) (fun v μ1 q => ?_)
  obtain ⟨rfl, rfl⟩ := q
  refine ev_goto dX7_readOne_28 (tgt := 109) (by decide) ?_
  obtain rfl := Option.some.inj h
  exact ev_end_v dX7_readOne_109 rfl ⟨rfl, rfl⟩
set_option maxHeartbeats 4000000 in
set_option maxRecDepth 100000 in
theorem e7_readOne_B68 {w : zW} {d : Nat} {n : Nat} {kd : zMK} {R : zMR} {r : zMI}   {rc : Nat → Int32 → zMI → Option zMI} {e : Nat} (hw : zst w = zSt0) (hS : zSh n kd) (hd : e + 1 ≤ d) (he : 8 ≤ e) (hrc : zPR w e n kd R rc)  : ∀ (l1 : Int32) (I : zMI), f7_readOne_B68 rc l1 I = some r → EV w d 0 0 Y7_readOne 68 [some (.ref 37), some (.int l1)] [] (n, kd, I, R) (q7_readOne n kd R r) := by
  intro l1 I h
  unfold f7_readOne_B68 at h
  refine ev_aload_n dX7_readOne_68 rfl rfl ?_
  refine em_getI dX7_readOne_69 zf_NineHeaps_Tape_43 rfl (hS.has 37 (by decide) (by decide) rfl) rfl ?_
  refine ev_bipush dX7_readOne_72 (v := (40 : Int32)) zcb_40 ?_
  refine ev_icmp_ne dX7_readOne_74 (tgt := 105) (by decide) (fun c5 => ?_) (fun c5 => ?_)
  · replace h := zif c5 h
    refine ev_aload_n dX7_readOne_105 rfl rfl ?_
    obtain ⟨p6, e7, h⟩ := zbd h
    refine ev_callV0 dX7_readOne_106 zm7_fail zl_NineHeaps_Tape_46 zi7_fail zv7_fail (zrcT hS) (As := []) (rest := []) rfl rfl (Nat.le_of_ble_eq_true rfl) rfl (Nat.le_of_ble_eq_true rfl) (d' := 1) (by omega) (e7_fail hw hS (Nat.le_refl _) e7) (fun v μ1 q => ?_)
    obtain ⟨rfl, rfl⟩ := q
    obtain rfl := Option.some.inj h
    exact ev_end_v dX7_readOne_109 rfl ⟨rfl, rfl⟩
  · replace h := zit c5 h
    refine ev_aload_n dX7_readOne_77 rfl rfl ?_
    refine ev_iload_n dX7_readOne_78 rfl rfl ?_
    obtain ⟨p8, e9, h⟩ := zbd h
    refine ev_callV0 dX7_readOne_79 zm7_mayOpen zl_NineHeaps_Tape_83 zi7_mayOpen zv7_mayOpen (zrcT hS) (As := [.int l1]) (rest := []) rfl rfl (Nat.le_of_ble_eq_true rfl) rfl (Nat.le_of_ble_eq_true rfl) (d' := 2) (by omega) (e7_mayOpen hw hS (Nat.le_refl _) e9) (fun v μ1 q => ?_)
    obtain ⟨rfl, rfl⟩ := q
    refine ev_if_eq dX7_readOne_82 (tgt := 105) (by decide) (fun c10 => ?_) (fun c10 => ?_)
    · replace h := zit c10 h
      refine ev_aload_n dX7_readOne_105 rfl rfl ?_
      obtain ⟨p11, e12, h⟩ := zbd h
      refine ev_callV0 dX7_readOne_106 zm7_fail zl_NineHeaps_Tape_46 zi7_fail zv7_fail (zrcT hS) (As := []) (rest := []) rfl rfl (Nat.le_of_ble_eq_true rfl) rfl (Nat.le_of_ble_eq_true rfl) (d' := 1) (by omega) (e7_fail hw hS (Nat.le_refl _) e12) (fun v μ1 q => ?_)
      obtain ⟨rfl, rfl⟩ := q
      obtain rfl := Option.some.inj h
      exact ev_end_v dX7_readOne_109 rfl ⟨rfl, rfl⟩
    · replace h := zif c10 h
      refine ev_aload_n dX7_readOne_85 rfl rfl ?_
      obtain ⟨p13, e14, h⟩ := zbd h
      refine ev_callV0 dX7_readOne_86 zm7_nextToken zl_NineHeaps_Tape_36 zi7_nextToken zv7_nextToken (zrcT hS) (As := []) (rest := []) rfl rfl (Nat.le_of_ble_eq_true rfl) rfl (Nat.le_of_ble_eq_true rfl) (d' := 7) (by omega) (e7_nextToken hw hS (Nat.le_refl _) e14) (fun v μ1 q => ?_)
      obtain ⟨rfl, rfl⟩ := q
      refine ev_aload_n dX7_readOne_89 rfl rfl ?_
      refine ev_iload_n dX7_readOne_90 rfl rfl ?_
      refine ev_iconst dX7_readOne_91 (v := (1 : Int32)) zci_1 ?_
      refine ev_iadd dX7_readOne_92 rfl ?_
      obtain ⟨p15, e16, h⟩ := zbd h
      refine ev_callV0 dX7_readOne_93 zm7_readOr zl_NineHeaps_Tape_71 zi7_readOr zv7_readOr (zrcT hS) (As := [.int (l1 + (1 : Int32))]) (rest := []) rfl rfl (Nat.le_of_ble_eq_true rfl) rfl (Nat.le_of_ble_eq_true rfl) (d' := e) (by omega) (hrc.1 _ _ _ e16) (fun v μ1 q => ?_)
      obtain ⟨rfl, rfl⟩ := q
      refine ev_aload_n dX7_readOne_96 rfl rfl ?_
      refine ev_bipush dX7_readOne_97 (v := (41 : Int32)) zcb_41 ?_
      obtain ⟨p17, e18, h⟩ := zbd h
      refine ev_callV0 dX7_readOne_99 zm7_expect zl_NineHeaps_Tape_67 zi7_expect zv7_expect (zrcT hS) (As := [.int (41 : Int32)]) (rest := []) rfl rfl (Nat.le_of_ble_eq_true rfl) rfl (Nat.le_of_ble_eq_true rfl) (d' := 8) (by omega) (e7_expect hw hS (Nat.le_refl _) e18) (fun v μ1 q => ?_)
      obtain ⟨rfl, rfl⟩ := q
      refine ev_goto dX7_readOne_102 (tgt := 109) (by decide) ?_
      obtain rfl := Option.some.inj h
      exact ev_end_v dX7_readOne_109 rfl ⟨rfl, rfl⟩
set_option maxHeartbeats 4000000 in
set_option maxRecDepth 100000 in
theorem e7_readOne {w : zW} {d : Nat} {n : Nat} {kd : zMK} {I : zMI} {R : zMR} {r : zMI} {l1 : Int32} {rc : Nat → Int32 → zMI → Option zMI} {e : Nat}  (hw : zst w = zSt0) (hS : zSh n kd) (hd : e + 1 ≤ d) (he : 8 ≤ e) (hrc : zPR w e n kd R rc) (h : f7_readOne rc l1 I = some r) : EV w d 0 0 Y7_readOne 0 [some (.ref 37), some (.int l1)] [] (n, kd, I, R) (q7_readOne n kd R r) := by
  unfold f7_readOne at h
  refine ev_aload_n dX7_readOne_0 rfl rfl ?_
  refine em_getI dX7_readOne_1 zf_NineHeaps_Tape_43 rfl (hS.has 37 (by decide) (by decide) rfl) rfl ?_
  refine ev_iconst dX7_readOne_4 (v := (2 : Int32)) zci_2 ?_
  refine ev_icmp_eq dX7_readOne_5 (tgt := 16) (by decide) (fun c19 => ?_) (fun c19 => ?_)
  · replace h := zit c19 h
    exact EV.mask [true, false] rfl (e7_readOne_B16 hw hS hd he hrc I h)
  · replace h := zif c19 h
    refine ev_aload_n dX7_readOne_8 rfl rfl ?_
    refine em_getI dX7_readOne_9 zf_NineHeaps_Tape_43 rfl (hS.has 37 (by decide) (by decide) rfl) rfl ?_
    refine ev_iconst dX7_readOne_12 (v := (3 : Int32)) zci_3 ?_
    refine ev_icmp_ne dX7_readOne_13 (tgt := 31) (by decide) (fun c20 => ?_) (fun c20 => ?_)
    · replace h := zif c20 h
      refine ev_aload_n dX7_readOne_31 rfl rfl ?_
      refine em_getI dX7_readOne_32 zf_NineHeaps_Tape_43 rfl (hS.has 37 (by decide) (by decide) rfl) rfl ?_
      refine ev_bipush dX7_readOne_35 (v := (45 : Int32)) zcb_45 ?_
      refine ev_icmp_ne dX7_readOne_37 (tgt := 68) (by decide) (fun c21 => ?_) (fun c21 => ?_)
      · replace h := zif c21 h
        exact EV.mask [true, true] rfl (e7_readOne_B68 hw hS hd he hrc l1 I h)
      · replace h := zit c21 h
        refine ev_aload_n dX7_readOne_40 rfl rfl ?_
        refine ev_iload_n dX7_readOne_41 rfl rfl ?_
        obtain ⟨p22, e23, h⟩ := zbd h
        refine ev_callV0 dX7_readOne_42 zm7_mayOpen zl_NineHeaps_Tape_83 zi7_mayOpen zv7_mayOpen (zrcT hS) (As := [.int l1]) (rest := []) rfl rfl (Nat.le_of_ble_eq_true rfl) rfl (Nat.le_of_ble_eq_true rfl) (d' := 2) (by omega) (e7_mayOpen hw hS (Nat.le_refl _) e23) (fun v μ1 q => ?_)
        obtain ⟨rfl, rfl⟩ := q
        refine ev_if_eq dX7_readOne_45 (tgt := 68) (by decide) (fun c24 => ?_) (fun c24 => ?_)
        · replace h := zit c24 h
          exact EV.mask [true, true] rfl (e7_readOne_B68 hw hS hd he hrc l1 p22.2 h)
        · replace h := zif c24 h
          refine ev_aload_n dX7_readOne_48 rfl rfl ?_
          obtain ⟨p25, e26, h⟩ := zbd h
          refine ev_callV0 dX7_readOne_49 zm7_nextToken zl_NineHeaps_Tape_36 zi7_nextToken zv7_nextToken (zrcT hS) (As := []) (rest := []) rfl rfl (Nat.le_of_ble_eq_true rfl) rfl (Nat.le_of_ble_eq_true rfl) (d' := 7) (by omega) (e7_nextToken hw hS (Nat.le_refl _) e26) (fun v μ1 q => ?_)
          obtain ⟨rfl, rfl⟩ := q
          refine ev_aload_n dX7_readOne_52 rfl rfl ?_
          refine ev_iload_n dX7_readOne_53 rfl rfl ?_
          refine ev_iconst dX7_readOne_54 (v := (1 : Int32)) zci_1 ?_
          refine ev_iadd dX7_readOne_55 rfl ?_
          obtain ⟨p27, e28, h⟩ := zbd h
          refine ev_callV0 dX7_readOne_56 zm7_readOne zl_NineHeaps_Tape_93 zi7_readOne zv7_readOne (zrcT hS) (As := [.int (l1 + (1 : Int32))]) (rest := []) rfl rfl (Nat.le_of_ble_eq_true rfl) rfl (Nat.le_of_ble_eq_true rfl) (d' := e) (by omega) (hrc.2.2 _ _ _ e28) (fun v μ1 q => ?_)
          obtain ⟨rfl, rfl⟩ := q
          refine ev_aload_n dX7_readOne_59 rfl rfl ?_
          refine ev_bipush dX7_readOne_60 (v := (-22 : Int32)) zcb_m22 ?_
          obtain ⟨p29, e30, h⟩ := zbd h
          refine ev_callV0 dX7_readOne_62 zm7_put zl_NineHeaps_Tape_77 zi7_put zv7_put (zrcT hS) (As := [.int (-22 : Int32)]) (rest := []) rfl rfl (Nat.le_of_ble_eq_true rfl) rfl (Nat.le_of_ble_eq_true rfl) (d' := 1) (by omega) (e7_put hw hS (Nat.le_refl _) e30) (fun v μ1 q => ?_)
          obtain ⟨rfl, rfl⟩ := q
          refine ev_goto dX7_readOne_65 (tgt := 109) (by decide) ?_
          obtain rfl := Option.some.inj h
          exact ev_end_v dX7_readOne_109 rfl ⟨rfl, rfl⟩
    · replace h := zit c20 h
      exact EV.mask [true, false] rfl (e7_readOne_B16 hw hS hd he hrc I h)
abbrev q7_readTerm (n : Nat) (kd : zMK) (R : zMR) (r : zMI) : Option Value → zM → Prop := fun v μ1 => v = none ∧ μ1 = (n, kd, r, R)
set_option maxHeartbeats 4000000 in
set_option maxRecDepth 100000 in
theorem e7_readTerm_L7 {w : zW} {d : Nat} {n : Nat} {kd : zMK} {R : zMR} {r : zMI}   {rc : Nat → Int32 → zMI → Option zMI} {e : Nat} (hw : zst w = zSt0) (hS : zSh n kd) (hd : e + 2 ≤ d) (he : 8 ≤ e) (hrc : zPR w e n kd R rc)  : ∀ (q : Nat) (l1 : Int32) (l2 : Int32) (I : zMI), f7_readTerm_L7 rc q l1 l2 I = some r → EV w d 0 0 Y7_readTerm 7 [some (.ref 37), some (.int l1), some (.int l2)] [] (n, kd, I, R) (q7_readTerm n kd R r) := by
  intro q
  induction q with
  | zero =>
    intro l1 l2 I h
    cases h
  | succ q ih =>
    intro l1 l2 I h
    unfold f7_readTerm_L7 at h
    refine ev_iload_n dX7_readTerm_7 rfl rfl ?_
    refine ev_sipush dX7_readTerm_8 (v := (160 : Int32)) zcs_160 ?_
    refine ev_icmp_ge dX7_readTerm_11 (tgt := 52) (by decide) (fun c1 => ?_) (fun c1 => ?_)
    · replace h := zit c1 h
      obtain rfl := Option.some.inj h
      exact ev_end_v dX7_readTerm_52 rfl ⟨rfl, rfl⟩
    · replace h := zif c1 h
      refine ev_aload_n dX7_readTerm_14 rfl rfl ?_
      refine em_getI dX7_readTerm_15 zf_NineHeaps_Tape_43 rfl (hS.has 37 (by decide) (by decide) rfl) rfl ?_
      refine ev_bipush dX7_readTerm_18 (v := (42 : Int32)) zcb_42 ?_
      refine ev_icmp_ne dX7_readTerm_20 (tgt := 52) (by decide) (fun c2 => ?_) (fun c2 => ?_)
      · replace h := zif c2 h
        obtain rfl := Option.some.inj h
        exact ev_end_v dX7_readTerm_52 rfl ⟨rfl, rfl⟩
      · replace h := zit c2 h
        refine ev_aload_n dX7_readTerm_23 rfl rfl ?_
        refine em_getI dX7_readTerm_24 zf_NineHeaps_Tape_30 rfl (hS.has 37 (by decide) (by decide) rfl) rfl ?_
        refine ev_iconst dX7_readTerm_27 (v := (-1 : Int32)) zci_m1 ?_
        refine ev_icmp_ne dX7_readTerm_28 (tgt := 52) (by decide) (fun c3 => ?_) (fun c3 => ?_)
        · replace h := zif c3 h
          obtain rfl := Option.some.inj h
          exact ev_end_v dX7_readTerm_52 rfl ⟨rfl, rfl⟩
        · replace h := zit c3 h
          refine ev_aload_n dX7_readTerm_31 rfl rfl ?_
          obtain ⟨p4, e5, h⟩ := zbd h
          refine ev_callV0 dX7_readTerm_32 zm7_nextToken zl_NineHeaps_Tape_36 zi7_nextToken zv7_nextToken (zrcT hS) (As := []) (rest := []) rfl rfl (Nat.le_of_ble_eq_true rfl) rfl (Nat.le_of_ble_eq_true rfl) (d' := 7) (by omega) (e7_nextToken hw hS (Nat.le_refl _) e5) (fun v μ1 q => ?_)
          obtain ⟨rfl, rfl⟩ := q
          refine ev_aload_n dX7_readTerm_35 rfl rfl ?_
          refine ev_iload_n dX7_readTerm_36 rfl rfl ?_
          obtain ⟨p6, e7, h⟩ := zbd h
          refine ev_callV0 dX7_readTerm_37 zm7_readOne zl_NineHeaps_Tape_93 zi7_readOne zv7_readOne (zrcT hS) (As := [.int l1]) (rest := []) rfl rfl (Nat.le_of_ble_eq_true rfl) rfl (Nat.le_of_ble_eq_true rfl) (d' := e) (by omega) (hrc.2.2 _ _ _ e7) (fun v μ1 q => ?_)
          obtain ⟨rfl, rfl⟩ := q
          refine ev_aload_n dX7_readTerm_40 rfl rfl ?_
          refine ev_bipush dX7_readTerm_41 (v := (-17 : Int32)) zcb_m17 ?_
          obtain ⟨p8, e9, h⟩ := zbd h
          refine ev_callV0 dX7_readTerm_43 zm7_put zl_NineHeaps_Tape_77 zi7_put zv7_put (zrcT hS) (As := [.int (-17 : Int32)]) (rest := []) rfl rfl (Nat.le_of_ble_eq_true rfl) rfl (Nat.le_of_ble_eq_true rfl) (d' := 1) (by omega) (e7_put hw hS (Nat.le_refl _) e9) (fun v μ1 q => ?_)
          obtain ⟨rfl, rfl⟩ := q
          refine ev_iinc dX7_readTerm_46 (v := l2 + (1 : Int32)) rfl rfl (by decide) rfl ?_
          refine ev_goto dX7_readTerm_49 (tgt := 7) (by decide) ?_
          exact EV.mask [true, true, true] rfl (ih l1 (l2 + (1 : Int32)) p8 h)
set_option maxHeartbeats 4000000 in
set_option maxRecDepth 100000 in
theorem e7_readTerm {w : zW} {d : Nat} {n : Nat} {kd : zMK} {I : zMI} {R : zMR} {r : zMI} {l1 : Int32} {rc : Nat → Int32 → zMI → Option zMI} {e : Nat}  (hw : zst w = zSt0) (hS : zSh n kd) (hd : e + 2 ≤ d) (he : 8 ≤ e) (hrc : zPR w e n kd R rc) (h : f7_readTerm rc l1 I = some r) : EV w d 0 0 Y7_readTerm 0 [some (.ref 37), some (.int l1), none] [] (n, kd, I, R) (q7_readTerm n kd R r) := by
  unfold f7_readTerm at h
  refine ev_aload_n dX7_readTerm_0 rfl rfl ?_
  refine ev_iload_n dX7_readTerm_1 rfl rfl ?_
  obtain ⟨p10, e11, h⟩ := zbd h
  refine ev_callV0 dX7_readTerm_2 zm7_readOne zl_NineHeaps_Tape_93 zi7_readOne zv7_readOne (zrcT hS) (As := [.int l1]) (rest := []) rfl rfl (Nat.le_of_ble_eq_true rfl) rfl (Nat.le_of_ble_eq_true rfl) (d' := e) (by omega) (hrc.2.2 _ _ _ e11) (fun v μ1 q => ?_)
  obtain ⟨rfl, rfl⟩ := q
  refine ev_iconst dX7_readTerm_5 (v := (0 : Int32)) zci_0 ?_
  refine ev_istore_n dX7_readTerm_6 rfl (by decide) rfl ?_
  exact EV.mask [true, true, true] rfl (e7_readTerm_L7 hw hS hd he hrc zF l1 (0 : Int32) p10 h)
abbrev q7_readSum (n : Nat) (kd : zMK) (R : zMR) (r : zMI) : Option Value → zM → Prop := fun v μ1 => v = none ∧ μ1 = (n, kd, r, R)
set_option maxHeartbeats 4000000 in
set_option maxRecDepth 100000 in
theorem e7_readSum_B32 {w : zW} {d : Nat} {n : Nat} {kd : zMK} {R : zMR} {r : zMI} {k7 : Int32 → Int32 → zMI → Option (zMI)}  {rc : Nat → Int32 → zMI → Option zMI} {e : Nat} (hw : zst w = zSt0) (hS : zSh n kd) (hd : e + 3 ≤ d) (he : 8 ≤ e) (hrc : zPR w e n kd R rc) (hk7 : ∀ (l1 : Int32) (l2 : Int32) (I : zMI), k7 l1 l2 I = some r → EV w d 0 0 Y7_readSum 7 [some (.ref 37), some (.int l1), some (.int l2), none] [] (n, kd, I, R) (q7_readSum n kd R r)) : ∀ (l1 : Int32) (l2 : Int32) (I : zMI), f7_readSum_B32 rc k7 l1 l2 I = some r → EV w d 0 0 Y7_readSum 32 [some (.ref 37), some (.int l1), some (.int l2), none] [] (n, kd, I, R) (q7_readSum n kd R r) := by
  intro l1 l2 I h
  unfold f7_readSum_B32 at h
  refine ev_aload_n dX7_readSum_32 rfl rfl ?_
  refine em_getI dX7_readSum_33 zf_NineHeaps_Tape_30 rfl (hS.has 37 (by decide) (by decide) rfl) rfl ?_
  refine ev_iconst dX7_readSum_36 (v := (-1 : Int32)) zci_m1 ?_
  refine ev_icmp_ne dX7_readSum_37 (tgt := 77) (by decide) (fun c1 => ?_) (fun c1 => ?_)
  · replace h := zif c1 h
    obtain rfl := Option.some.inj h
    exact ev_end_v dX7_readSum_77 rfl ⟨rfl, rfl⟩
  · replace h := zit c1 h
    refine ev_aload_n dX7_readSum_40 rfl rfl ?_
    refine em_getI dX7_readSum_41 zf_NineHeaps_Tape_43 rfl (hS.has 37 (by decide) (by decide) rfl) rfl ?_
    refine ev_bipush dX7_readSum_44 (v := (43 : Int32)) zcb_43 ?_
    obtain ⟨x3, e4, h⟩ := zld h
    have k11 : EV w d 0 0 Y7_readSum 56 [some (.ref 37), some (.int l1), some (.int l2), none] [.int x3] (n, kd, I, R) (q7_readSum n kd R r) := by
      refine ev_istore_n dX7_readSum_56 rfl (by decide) rfl ?_
      refine ev_aload_n dX7_readSum_57 rfl rfl ?_
      obtain ⟨p5, e6, h⟩ := zbd h
      refine ev_callV0 dX7_readSum_58 zm7_nextToken zl_NineHeaps_Tape_36 zi7_nextToken zv7_nextToken (zrcT hS) (As := []) (rest := []) rfl rfl (Nat.le_of_ble_eq_true rfl) rfl (Nat.le_of_ble_eq_true rfl) (d' := 7) (by omega) (e7_nextToken hw hS (Nat.le_refl _) e6) (fun v μ1 q => ?_)
      obtain ⟨rfl, rfl⟩ := q
      refine ev_aload_n dX7_readSum_61 rfl rfl ?_
      refine ev_iload_n dX7_readSum_62 rfl rfl ?_
      obtain ⟨p7, e8, h⟩ := zbd h
      refine ev_callV0 dX7_readSum_63 zm7_readTerm zl_NineHeaps_Tape_90 zi7_readTerm zv7_readTerm (zrcT hS) (As := [.int l1]) (rest := []) rfl rfl (Nat.le_of_ble_eq_true rfl) rfl (Nat.le_of_ble_eq_true rfl) (d' := e + 2) (by omega) (e7_readTerm hw hS (Nat.le_refl _) he hrc e8) (fun v μ1 q => ?_)
      obtain ⟨rfl, rfl⟩ := q
      refine ev_aload_n dX7_readSum_66 rfl rfl ?_
      refine ev_iload_n dX7_readSum_67 rfl rfl ?_
      obtain ⟨p9, e10, h⟩ := zbd h
      refine ev_callV0 dX7_readSum_68 zm7_put zl_NineHeaps_Tape_77 zi7_put zv7_put (zrcT hS) (As := [.int x3]) (rest := []) rfl rfl (Nat.le_of_ble_eq_true rfl) rfl (Nat.le_of_ble_eq_true rfl) (d' := 1) (by omega) (e7_put hw hS (Nat.le_refl _) e10) (fun v μ1 q => ?_)
      obtain ⟨rfl, rfl⟩ := q
      refine ev_iinc dX7_readSum_71 (v := l2 + (1 : Int32)) rfl rfl (by decide) rfl ?_
      refine ev_goto dX7_readSum_74 (tgt := 7) (by decide) ?_
      exact EV.mask [true, true, true, false] rfl (hk7 l1 (l2 + (1 : Int32)) p9 h)
    clear h
    have h := e4
    clear e4
    refine ev_icmp_ne dX7_readSum_46 (tgt := 54) (by decide) (fun c2 => ?_) (fun c2 => ?_)
    · replace h := zif c2 h
      refine ev_bipush dX7_readSum_54 (v := (-16 : Int32)) zcb_m16 ?_
      obtain rfl := h
      exact k11
    · replace h := zit c2 h
      refine ev_bipush dX7_readSum_49 (v := (-15 : Int32)) zcb_m15 ?_
      refine ev_goto dX7_readSum_51 (tgt := 56) (by decide) ?_
      obtain rfl := h
      exact k11
set_option maxHeartbeats 4000000 in
set_option maxRecDepth 100000 in
theorem e7_readSum_L7 {w : zW} {d : Nat} {n : Nat} {kd : zMK} {R : zMR} {r : zMI}   {rc : Nat → Int32 → zMI → Option zMI} {e : Nat} (hw : zst w = zSt0) (hS : zSh n kd) (hd : e + 3 ≤ d) (he : 8 ≤ e) (hrc : zPR w e n kd R rc)  : ∀ (q : Nat) (l1 : Int32) (l2 : Int32) (I : zMI), f7_readSum_L7 rc q l1 l2 I = some r → EV w d 0 0 Y7_readSum 7 [some (.ref 37), some (.int l1), some (.int l2), none] [] (n, kd, I, R) (q7_readSum n kd R r) := by
  intro q
  induction q with
  | zero =>
    intro l1 l2 I h
    cases h
  | succ q ih =>
    intro l1 l2 I h
    unfold f7_readSum_L7 at h
    refine ev_iload_n dX7_readSum_7 rfl rfl ?_
    refine ev_sipush dX7_readSum_8 (v := (160 : Int32)) zcs_160 ?_
    refine ev_icmp_ge dX7_readSum_11 (tgt := 77) (by decide) (fun c12 => ?_) (fun c12 => ?_)
    · replace h := zit c12 h
      obtain rfl := Option.some.inj h
      exact ev_end_v dX7_readSum_77 rfl ⟨rfl, rfl⟩
    · replace h := zif c12 h
      refine ev_aload_n dX7_readSum_14 rfl rfl ?_
      refine em_getI dX7_readSum_15 zf_NineHeaps_Tape_43 rfl (hS.has 37 (by decide) (by decide) rfl) rfl ?_
      refine ev_bipush dX7_readSum_18 (v := (43 : Int32)) zcb_43 ?_
      refine ev_icmp_eq dX7_readSum_20 (tgt := 32) (by decide) (fun c13 => ?_) (fun c13 => ?_)
      · replace h := zit c13 h
        exact EV.mask [true, true, true, false] rfl (e7_readSum_B32 hw hS hd he hrc (fun l1' l2' I' h' => ih l1' l2' I' h') l1 l2 I h)
      · replace h := zif c13 h
        refine ev_aload_n dX7_readSum_23 rfl rfl ?_
        refine em_getI dX7_readSum_24 zf_NineHeaps_Tape_43 rfl (hS.has 37 (by decide) (by decide) rfl) rfl ?_
        refine ev_bipush dX7_readSum_27 (v := (45 : Int32)) zcb_45 ?_
        refine ev_icmp_ne dX7_readSum_29 (tgt := 77) (by decide) (fun c14 => ?_) (fun c14 => ?_)
        · replace h := zif c14 h
          obtain rfl := Option.some.inj h
          exact ev_end_v dX7_readSum_77 rfl ⟨rfl, rfl⟩
        · replace h := zit c14 h
          exact EV.mask [true, true, true, false] rfl (e7_readSum_B32 hw hS hd he hrc (fun l1' l2' I' h' => ih l1' l2' I' h') l1 l2 I h)
set_option maxHeartbeats 4000000 in
set_option maxRecDepth 100000 in
theorem e7_readSum {w : zW} {d : Nat} {n : Nat} {kd : zMK} {I : zMI} {R : zMR} {r : zMI} {l1 : Int32} {rc : Nat → Int32 → zMI → Option zMI} {e : Nat}  (hw : zst w = zSt0) (hS : zSh n kd) (hd : e + 3 ≤ d) (he : 8 ≤ e) (hrc : zPR w e n kd R rc) (h : f7_readSum rc l1 I = some r) : EV w d 0 0 Y7_readSum 0 [some (.ref 37), some (.int l1), none, none] [] (n, kd, I, R) (q7_readSum n kd R r) := by
  unfold f7_readSum at h
  refine ev_aload_n dX7_readSum_0 rfl rfl ?_
  refine ev_iload_n dX7_readSum_1 rfl rfl ?_
  obtain ⟨p15, e16, h⟩ := zbd h
  refine ev_callV0 dX7_readSum_2 zm7_readTerm zl_NineHeaps_Tape_90 zi7_readTerm zv7_readTerm (zrcT hS) (As := [.int l1]) (rest := []) rfl rfl (Nat.le_of_ble_eq_true rfl) rfl (Nat.le_of_ble_eq_true rfl) (d' := e + 2) (by omega) (e7_readTerm hw hS (Nat.le_refl _) he hrc e16) (fun v μ1 q => ?_)
  obtain ⟨rfl, rfl⟩ := q
  refine ev_iconst dX7_readSum_5 (v := (0 : Int32)) zci_0 ?_
  refine ev_istore_n dX7_readSum_6 rfl (by decide) rfl ?_
  exact EV.mask [true, true, true, false] rfl (e7_readSum_L7 hw hS hd he hrc zF l1 (0 : Int32) p15 h)
