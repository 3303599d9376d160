/-! memory grows: calls that may spend, new cells over the tuple, the shape told anew -/
def uK (kd : zMK) (a : Nat) (v : Nat × Nat) : zMK := fun b => if b = a then v else kd b
def uRA (R : zMR) (a : Nat) : zMR := fun b => if b = a then fun _ => none else R b
def zShB (n : Nat) (kd : zMK) : Bool := decide (114 ≤ n) && (List.range 82).all (fun j => decide (kd (j + 32) = zK0 (j + 32)))
theorem zShB_sh {n : Nat} {kd : zMK} (h : zShB n kd = true) : zSh n kd := by
  unfold zShB at h
  rw [Bool.and_eq_true] at h
  refine ⟨of_decide_eq_true h.1, fun a h1 h2 => ?_⟩
  have := of_decide_eq_true (List.all_eq_true.mp h.2 (a - 32) (List.mem_range.mpr (by omega)))
  rwa [show a - 32 + 32 = a by omega] at this
theorem zSh_B {n : Nat} {kd : zMK} (h : zSh n kd) : zShB n kd = true := by
  unfold zShB
  rw [Bool.and_eq_true]
  exact ⟨decide_eq_true h.1, List.all_eq_true.mpr fun j hj => decide_eq_true (h.2 _ (by omega) (by have := List.mem_range.mp hj; omega))⟩
theorem zSh_new {n : Nat} {kd : zMK} (h : zSh n kd) (v : Nat × Nat) : zSh (n + 1) (uK kd n v) := ⟨Nat.le_succ_of_le h.1, fun a h1 h2 => by
  have := h.1
  unfold uK
  rw [if_neg (by omega)]
  exact h.2 a h1 h2⟩
theorem zSt0_big {n : Nat} (h : 114 ≤ n) (k : Nat) : zSt0 n k = none := by
  unfold zSt0
  split <;> first | rfl | (exfalso; omega)
/-- while objects are built: a place below the ghosts -/
def zrlB (n : Nat) : Bool := decide (32 ≤ n) && decide (n < 81)
theorem zrlB_ok {n : Nat} (h : zrlB n = true) : zrl n := by
  unfold zrlB at h
  simp only [Bool.and_eq_true, decide_eq_true_eq] at h
  exact ⟨h.1, Or.inl h.2⟩
theorem zsel_clone : Cond.selects "[I" ⟨"[I", "clone", "()Ljava/lang/Object;"⟩ ⟨"java/lang/Object", "clone", "()Ljava/lang/Object;"⟩ ∈ zGT := zi1 181 rfl rfl
section
variable {w : zW} {d kc ks : Nat} {y : zY} {pc : Nat} {L : List (Option Value)} {st : List Value} {n : Nat} {kd : zMK} {I : zMI} {R : zMR} {Q : Option Value → zM → Prop}
theorem em_newK {kc' ks' idx c N : Nat} (hd : decode y.2.1 pc = .ok (.new idx, 3)) (hc : c < 14) (hcl : Cond.classLink y.1.cls idx (zRf c) ∈ zGT) (hins : Cond.instantiable (zRf c) (zNf c) ∈ zGT) (hini : Cond.initialized (zRf c) ∈ zGT) (hN : zNf c = N) (hs : ∀ k, zst w n k = none) (hrl : zrl n) (hk : kc' + 1 ≤ kc) (hz : ks' + N ≤ ks)
    (kk : EV w d kc' ks' y (pc + 3) L (.ref n :: st) (n + 1, uK kd n (16 + c, 0), uA I n (fun _ => 0), uRA R n) Q) : EV w d kc ks y pc L st (n, kd, I, R) Q :=
  EV.more (ev_new (kc := kc') (ks := ks') hd hc hcl hins hini hs hrl kk) (Nat.le_refl _) hk (by omega)
theorem zNA_tuple (N : Nat) (f : Nat → Int32) : zNA (n, kd, I, R) N f = (n + 1, uK kd n (0, N), uA I n f, uRA R n) := by
  unfold zNA zA zN uK uA uRA
  refine Prod.ext rfl (Prod.ext rfl (Prod.ext ?_ rfl))
  funext b
  dsimp only [zn]
  split <;> rfl
theorem em_newIK {kc' ks' : Nat} {x : Int32} {N : Nat} (hd : decode y.2.1 pc = .ok (.newarray .int, 2)) (hn : ¬ x < 0) (hN : x.toNatClampNeg = N) (hb : N ≤ 100000000) (hrl : zrl n) (hk : kc' + 1 ≤ kc) (hz : ks' + N ≤ ks)
    (kk : EV w d kc' ks' y (pc + 2) L (.ref n :: st) (n + 1, uK kd n (0, N), uA I n (fun _ => 0), uRA R n) Q) : EV w d kc ks y pc L (.int x :: st) (n, kd, I, R) Q :=
  EV.more (ev_newI (kc := kc') (ks := ks') hd zarr_int hn hN hb hrl (by rw [zNA_tuple]; exact kk)) (Nat.le_refl _) hk (by omega)
theorem em_cloneK {kc' ks' a idx N : Nat} (hd : decode y.2.1 pc = .ok (.invokevirtual idx, 3)) (hl : Cond.methodLink y.1.cls idx ⟨"[I", "clone", "()Ljava/lang/Object;"⟩ ∈ zGT) (ha : zHas n kd a 0) (hN : (kd a).2 = N) (hrl : zrl n) (hd1 : 1 ≤ d) (hr : (st.map fun v => v.category).sum ≤ 8) (hk : kc' + 1 ≤ kc) (hz : ks' + N ≤ ks)
    (kk : EV w d kc' ks' y (pc + 3) L (.ref n :: st) (n + 1, uK kd n (0, N), uA I n (I a), uRA R n) Q) : EV w d kc ks y pc L (.ref a :: st) (n, kd, I, R) Q :=
  EV.more (ev_clone (kc := kc') (ks := ks') (N := N) (f := I a) hd hl zw__I_java_lang_Object_clone zna_clone ziO_clone zsel_clone hrl hd1 hr (zsrc_row ha hN rfl) (by rw [zNA_tuple]; exact kk)) (Nat.le_refl _) hk (by omega)
theorem em_cloneS {kc' ks' i idx N : Nat} {f : Nat → Int32} (hd : decode y.2.1 pc = .ok (.invokevirtual idx, 3)) (hl : Cond.methodLink y.1.cls idx ⟨"[I", "clone", "()Ljava/lang/Object;"⟩ ∈ zGT) (hi : i < 32) (h : zTc w i N f) (hrl : zrl n) (hd1 : 1 ≤ d) (hr : (st.map fun v => v.category).sum ≤ 8) (hk : kc' + 1 ≤ kc) (hz : ks' + N ≤ ks)
    (kk : EV w d kc' ks' y (pc + 3) L (.ref n :: st) (n + 1, uK kd n (0, N), uA I n f, uRA R n) Q) : EV w d kc ks y pc L (.ref i :: st) (n, kd, I, R) Q :=
  EV.more (ev_clone (kc := kc') (ks := ks') (N := N) (f := f) hd hl zw__I_java_lang_Object_clone zna_clone ziO_clone zsel_clone hrl hd1 hr (zsrc_old hi h) (by rw [zNA_tuple]; exact kk)) (Nat.le_refl _) hk (by omega)
end
section
variable {w : zW} {d kc ks : Nat} {y : zY} {pc : Nat} {L : List (Option Value)} {st : List Value} {μ : zM} {Q : Option Value → zM → Prop}
theorem ev_callSK {k2 z2 k1 z1 d' idx n : Nat} {y' : zY} {As rest : List Value} {L0 : List (Option Value)} {Q1 : Option Value → zM → Prop} (hd : decode y.2.1 pc = .ok (.invokestatic idx, 3)) (hm : zMeth y' n) (hl : Cond.methodLink y.1.cls idx y'.1 ∈ zGT) (hs : Cond.static y'.1 ∈ zGT)
    (hst : st = As.reverse ++ rest) (hn : As.length = n) (hr : (rest.map fun v => v.category).sum ≤ 8) (hl0 : zL0 As y'.2.2.1 = L0) (hlen : (zfa As).length ≤ y'.2.2.1) (hdd : d' + 1 ≤ d)
    (h : EV w d' k1 z1 y' 0 L0 [] μ Q1) (hk : k1 + k2 ≤ kc) (hz : z1 + z2 ≤ ks) (cont : ∀ v μ', Q1 v μ' → EV w d k2 z2 y (pc + 3) L (v.toList ++ rest) μ' Q) : EV w d kc ks y pc L st μ Q :=
  EV.more (ev_callS hd hm hl hs hst hn hr hl0 hlen hdd h cont) (Nat.le_refl _) hk hz
theorem ev_callVK {k2 z2 k1 z1 d' idx n b : Nat} {y' : zY} {As rest : List Value} {L0 : List (Option Value)} {Q1 : Option Value → zM → Prop} (hd : decode y.2.1 pc = .ok (.invokevirtual idx, 3)) (hm : zMeth y' n) (hl : Cond.methodLink y.1.cls idx y'.1 ∈ zGT) (hi : Cond.instanceMethod y'.1 ∈ zGT) (hse : Cond.selects y'.1.cls y'.1 y'.1 ∈ zGT)
    (hb : zRcv w μ b y'.1.cls) (hst : st = As.reverse ++ .ref b :: rest) (hn : As.length = n) (hr : (rest.map fun v => v.category).sum ≤ 8) (hl0 : zL0 (.ref b :: As) y'.2.2.1 = L0) (hlen : (zfa (.ref b :: As)).length ≤ y'.2.2.1) (hdd : d' + 1 ≤ d)
    (h : EV w d' k1 z1 y' 0 L0 [] μ Q1) (hk : k1 + k2 ≤ kc) (hz : z1 + z2 ≤ ks) (cont : ∀ v μ', Q1 v μ' → EV w d k2 z2 y (pc + 3) L (v.toList ++ rest) μ' Q) : EV w d kc ks y pc L st μ Q :=
  EV.more (ev_callV hd hm hl hi hse hb hst hn hr hl0 hlen hdd h cont) (Nat.le_refl _) hk hz
theorem ev_callIK {k2 z2 k1 z1 d' idx n b : Nat} {y' : zY} {As rest : List Value} {L0 : List (Option Value)} {Q1 : Option Value → zM → Prop} (hd : decode y.2.1 pc = .ok (.invokespecial idx, 3)) (hm : zMeth y' n) (hl : Cond.methodLink y.1.cls idx y'.1 ∈ zGT) (hi : Cond.instanceMethod y'.1 ∈ zGT) (hini : y'.1.name = "<init>") (hre : y'.2.2.2 = none)
    (hst : st = As.reverse ++ .ref b :: rest) (hn : As.length = n) (hr : (rest.map fun v => v.category).sum ≤ 8) (hl0 : zL0 (.ref b :: As) y'.2.2.1 = L0) (hlen : (zfa (.ref b :: As)).length ≤ y'.2.2.1) (hdd : d' + 1 ≤ d)
    (h : EV w d' k1 z1 y' 0 L0 [] μ Q1) (hk : k1 + k2 ≤ kc) (hz : z1 + z2 ≤ ks) (cont : ∀ v μ', Q1 v μ' → EV w d k2 z2 y (pc + 3) L (v.toList ++ rest) μ' Q) : EV w d kc ks y pc L st μ Q :=
  EV.more (ev_callI hd hm hl hi hini hre hst hn hr hl0 hlen hdd h cont) (Nat.le_refl _) hk hz
theorem ev_callINK {k2 z2 k1 z1 d' idx n b : Nat} {y' : zY} {host : String} {As rest : List Value} {L0 : List (Option Value)} {Q1 : Option Value → zM → Prop} (hd : decode y.2.1 pc = .ok (.invokespecial idx, 3)) (hm : zMeth y' n) (hl : Cond.methodLinkNest y.1.cls idx y'.1 host ∈ zNw) (hi : Cond.instanceMethod y'.1 ∈ zGT) (hini : y'.1.name = "<init>") (hre : y'.2.2.2 = none)
    (hst : st = As.reverse ++ .ref b :: rest) (hn : As.length = n) (hr : (rest.map fun v => v.category).sum ≤ 8) (hl0 : zL0 (.ref b :: As) y'.2.2.1 = L0) (hlen : (zfa (.ref b :: As)).length ≤ y'.2.2.1) (hdd : d' + 1 ≤ d)
    (h : EV w d' k1 z1 y' 0 L0 [] μ Q1) (hk : k1 + k2 ≤ kc) (hz : z1 + z2 ≤ ks) (cont : ∀ v μ', Q1 v μ' → EV w d k2 z2 y (pc + 3) L (v.toList ++ rest) μ' Q) : EV w d kc ks y pc L st μ Q :=
  EV.more (ev_callIN hd hm hl hi hini hre hst hn hr hl0 hlen hdd h cont) (Nat.le_refl _) hk hz
end
