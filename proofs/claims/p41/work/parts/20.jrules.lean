/-! rows of bytes over the tuple; calls that spend, of methods chosen by class and of the superclass's; rows of longs -/
section
variable {w : zW} {d kc ks : Nat} {y : zY} {pc : Nat} {L : List (Option Value)} {st : List Value} {n : Nat} {kd : zMK} {I J : zMI} {R R' : zMR} {Q : Option Value → zM → Prop}
theorem em_baldB {a N : Nat} {i x : Int32} (hd : decode y.2.1 pc = .ok (.baload, 1)) (ha : zHas n kd a 12) (hN : (kd a).2 = N) (hin : zib i N = true) (hv : I a i.toNatClampNeg = x)
    (kk : EV w d kc ks y (pc + 1) L (.int x :: st) (n, kd, I, R) Q) : EV w d kc ks y pc L (.int i :: .ref a :: st) (n, kd, I, R) Q := ev_bald2 hd ha (by show vp_in i (kd a).2; rw [hN]; exact zib_in hin) hv kk
theorem em_bastB {a N : Nat} {i x : Int32} (hd : decode y.2.1 pc = .ok (.bastore, 1)) (ha : zHas n kd a 12) (hN : (kd a).2 = N) (hin : zib i N = true) (hJ : uI I a i.toNatClampNeg x.toInt8.toInt32 = J)
    (kk : EV w d kc ks y (pc + 1) L st (n, kd, J, R) Q) : EV w d kc ks y pc L (.int x :: .int i :: .ref a :: st) (n, kd, I, R) Q := by
  subst hJ
  exact ev_bast hd ha (by show vp_in i (kd a).2; rw [hN]; exact zib_in hin) rfl kk
theorem em_alenB {a N : Nat} {x : Int32} (hd : decode y.2.1 pc = .ok (.arraylength, 1)) (ha : zHas n kd a 12) (hN : (kd a).2 = N) (hv : Int32.ofNat N = x)
    (kk : EV w d kc ks y (pc + 1) L (.int x :: st) (n, kd, I, R) Q) : EV w d kc ks y pc L (.ref a :: st) (n, kd, I, R) Q := ev_alenB hd ha (by show Int32.ofNat (kd a).2 = x; rw [hN]; exact hv) kk
theorem zN_tuple (v : Nat × Nat) : zN (n, kd, I, R) v = (n + 1, uK kd n v, uA I n (fun _ => 0), uRA R n) := rfl
theorem em_newBK {kc' ks' : Nat} {x : Int32} {N : Nat} (hd : decode y.2.1 pc = .ok (.newarray .byte, 2)) (hn : ¬ x < 0) (hN : x.toNatClampNeg = N) (hb : N ≤ 100000000) (hrl : zrl n) (hk : kc' + 1 ≤ kc) (hz : ks' + N ≤ ks)
    (kk : EV w d kc' ks' y (pc + 2) L (.ref n :: st) (n + 1, uK kd n (12, N), uA I n (fun _ => 0), uRA R n) Q) : EV w d kc ks y pc L (.int x :: st) (n, kd, I, R) Q :=
  EV.more (ev_newB (kc := kc') (ks := ks') hd zarr_byte hn hN hb hrl kk) (Nat.le_refl _) hk (by omega)
/-- bytes that are bytes -/
def zbfB (f : Nat → Int32) (sp n : Nat) : Bool := (List.range n).all fun i => fits .byte (.int (f (sp + i)))
theorem zbfB_ok {f : Nat → Int32} {sp n : Nat} (h : zbfB f sp n = true) : ∀ i, i < n → fits .byte (.int (f (sp + i))) = true := fun i hi => List.all_eq_true.mp h i (List.mem_range.mpr hi)
theorem em_copyX {a0 a idx N0 N1 : Nat} {f : Nat → Int32} {sp dp m : Int32} (hd : decode y.2.1 pc = .ok (.invokestatic idx, 3)) (hl : Cond.methodLink y.1.cls idx arraycopyName ∈ zGT) (hsrc : zSrc w (n, kd, I, R) a0 N0 f) (ha : zHas n kd a 12) (hN1 : (kd a).2 = N1) (g : zcpB sp dp m N0 N1 = true) (g2 : zbfB f sp.toNatClampNeg m.toNatClampNeg = true) (hd1 : 1 ≤ d) (hr : (st.map fun v => v.category).sum ≤ 8) (hJ : uA I a (va_cpy f (I a) sp.toNatClampNeg dp.toNatClampNeg m.toNatClampNeg) = J)
    (kk : EV w d kc ks y (pc + 3) L st (n, kd, J, R) Q) : EV w d kc ks y pc L (.int m :: .int dp :: .ref a :: .int sp :: .ref a0 :: st) (n, kd, I, R) Q := by
  subst hJ
  unfold zcpB at g
  simp only [Bool.and_eq_true, decide_eq_true_eq] at g
  obtain ⟨⟨⟨⟨g1, g2'⟩, g3⟩, g4⟩, g5⟩ := g
  exact ev_copyB hd hl zna_arraycopy zacp_s zn_java_lang_System hsrc ha (Int32.not_lt.mpr g1) (Int32.not_lt.mpr g2') (Int32.not_lt.mpr g3) g4 (by show _ ≤ (kd a).2; omega) (zbfB_ok g2) hd1 hr (by decide) kk
theorem em_srcB {a N : Nat} (ha : zHas n kd a 12) (hN : (kd a).2 = N) : zSrc w (n, kd, I, R) a N (I a) := zSrc_row ha hN rfl
theorem zrcSB {a : Nat} (hS : zSh n kd) (h : zKdB n kd a 28 = true) : zRcv w (n, kd, I, R) a "java/lang/StringBuilder" := zRc.rcv ⟨12, by decide, rfl, zKdB_hasR hS (by decide) h⟩
theorem zrcDS {a : Nat} (hS : zSh n kd) (h : zKdB n kd a 29 = true) : zRcv w (n, kd, I, R) a "java/lang/String" := zRc.rcv ⟨13, by decide, rfl, zKdB_hasR hS (by decide) h⟩
theorem zrc12 {a : Nat} (hS : zSh n kd) (h : zKdB n kd a 28 = true) : zRc w (n, kd, I, R) a "java/lang/StringBuilder" := ⟨12, by decide, rfl, zKdB_hasR hS (by decide) h⟩
/-- rows of longs -/
theorem em_laldH {a N : Nat} {i : Int32} {x : Int64} {h : Nat → Int64} (hw : zhm w = none) (hd : decode y.2.1 pc = .ok (.laload, 1)) (ha : zHas n kd a 14) (hN : (kd a).2 = N) (hin : zib i N = true) (hv : h i.toNatClampNeg = x)
    (kk : EV w d kc ks y (pc + 1) L (.long x :: st) (zHm (n, kd, I, R) a h) Q) : EV w d kc ks y pc L (.int i :: .ref a :: st) (zHm (n, kd, I, R) a h) Q := ev_laldH hw hd ha (by show vp_in i (kd a).2; rw [hN]; exact zib_in hin) hv kk
theorem em_lastH {a N : Nat} {i : Int32} {x : Int64} {h h' : Nat → Int64} (hw : zhm w = none) (hd : decode y.2.1 pc = .ok (.lastore, 1)) (ha : zHas n kd a 14) (hN : (kd a).2 = N) (hin : zib i N = true) (hJ : zuL h i.toNatClampNeg x = h')
    (kk : EV w d kc ks y (pc + 1) L st (zHm (n, kd, I, R) a h') Q) : EV w d kc ks y pc L (.long x :: .int i :: .ref a :: st) (zHm (n, kd, I, R) a h) Q := by
  subst hJ
  exact ev_lastH hw hd ha (by show vp_in i (kd a).2; rw [hN]; exact zib_in hin) kk
theorem em_laldW {a N : Nat} {i : Int32} {x : Int64} {h : Nat → Int64} (hw : zhm w = some (a, h)) (hd : decode y.2.1 pc = .ok (.laload, 1)) (ha : zHas n kd a 14) (hN : (kd a).2 = N) (hin : zib i N = true) (hv : h i.toNatClampNeg = x)
    (kk : EV w d kc ks y (pc + 1) L (.long x :: st) (n, kd, I, R) Q) : EV w d kc ks y pc L (.int i :: .ref a :: st) (n, kd, I, R) Q := ev_laldW hw hd ha (by show vp_in i (kd a).2; rw [hN]; exact zib_in hin) hv kk
end
section
variable {w : zW} {d kc ks : Nat} {y : zY} {pc : Nat} {L : List (Option Value)} {st : List Value} {μ : zM} {Q : Option Value → zM → Prop}
theorem ev_callUK {k2 z2 k1 z1 d' idx n b m0 : Nat} {x : MethodName} {y' : zY} {C owner : String} {b0 : ByteArray} {r0 : Option FieldType} {As rest : List Value} {L0 : List (Option Value)} {Q1 : Option Value → zM → Prop} (hd : decode y.2.1 pc = .ok (.invokevirtual idx, 3)) (hm : zMeth y' n) (hl : Cond.methodLink y.1.cls idx x ∈ zGT) (hsm : Cond.sameMethod x.cls owner x.name x.desc ∈ zGT)
    (hio : Cond.instanceMethod ⟨owner, x.name, x.desc⟩ ∈ zGT) (hco : Cond.code ⟨owner, x.name, x.desc⟩ b0 m0 r0 ∈ zGT) (hse : Cond.selects C x y'.1 ∈ zGT) (hi : Cond.instanceMethod y'.1 ∈ zGT) (how : owner ≠ "java/lang/invoke/MethodHandle" ∧ owner ≠ "java/lang/invoke/VarHandle") (hxd : x.desc = y'.1.desc)
    (hb : zRcv w μ b C) (hst : st = As.reverse ++ .ref b :: rest) (hn : As.length = n) (hr : (rest.map fun v => v.category).sum ≤ 8) (hl0 : zL0 (.ref b :: As) y'.2.2.1 = L0) (hlen : (zfa (.ref b :: As)).length ≤ y'.2.2.1) (hdd : d' + 1 ≤ d)
    (h : EV w d' k1 z1 y' 0 L0 [] μ Q1) (hk : k1 + k2 ≤ kc) (hz : z1 + z2 ≤ ks) (cont : ∀ v μ', Q1 v μ' → EV w d k2 z2 y (pc + 3) L (v.toList ++ rest) μ' Q) : EV w d kc ks y pc L st μ Q :=
  EV.more (ev_callU hd hm hl hsm hio hco hse hi how hxd hb hst hn hr hl0 hlen hdd h cont) (Nat.le_refl _) hk hz
theorem ev_callPK {k2 z2 k1 z1 d' idx n b : Nat} {y' : zY} {C : String} {As rest : List Value} {L0 : List (Option Value)} {Q1 : Option Value → zM → Prop} (hd : decode y.2.1 pc = .ok (.invokespecial idx, 3)) (hm : zMeth y' n) (hl : Cond.methodLink y.1.cls idx y'.1 ∈ zGT) (hsm : Cond.sameMethod y'.1.cls y'.1.cls y'.1.name y'.1.desc ∈ zGT) (hsu : Cond.superclass y.1.cls y'.1.cls ∈ zGT) (hi : Cond.instanceMethod y'.1 ∈ zGT) (hini : y'.1.name ≠ "<init>")
    (hb : zRc w μ b C) (hst : st = As.reverse ++ .ref b :: rest) (hn : As.length = n) (hr : (rest.map fun v => v.category).sum ≤ 8) (hl0 : zL0 (.ref b :: As) y'.2.2.1 = L0) (hlen : (zfa (.ref b :: As)).length ≤ y'.2.2.1) (hdd : d' + 1 ≤ d)
    (h : EV w d' k1 z1 y' 0 L0 [] μ Q1) (hk : k1 + k2 ≤ kc) (hz : z1 + z2 ≤ ks) (cont : ∀ v μ', Q1 v μ' → EV w d k2 z2 y (pc + 3) L (v.toList ++ rest) μ' Q) : EV w d kc ks y pc L st μ Q :=
  EV.more (ev_callP hd hm hl hsm hsu hi hini hb hst hn hr hl0 hlen hdd h cont) (Nat.le_refl _) hk hz
end
/-- what checkIndex asks -/
def zckB (i N : Int32) : Bool := decide (0 ≤ i) && decide (i < N)
theorem zckB_ok {i N : Int32} (h : zckB i N = true) : ¬ i < 0 ∧ i < N := by
  unfold zckB at h
  simp only [Bool.and_eq_true, decide_eq_true_eq] at h
  exact ⟨Int32.not_lt.mpr h.1, h.2⟩
