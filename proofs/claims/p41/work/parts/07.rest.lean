/-! new int[n][m]; nest mates' constructors; old cells; the machine's own functions -/
theorem vr_outer (c : ClassId) (N h0 : Nat) : ∀ i : Nat, Jvm.Free.Multi.outerC c N h0 i = arrV c N (fun j => va_rf (if j < i then some (h0 + 1 + j) else none))
  | 0 => by
    show ({ cls := c, slots := Array.replicate N .null, vm := .none } : Cell) = _
    rw [arrV_new]
    refine congrArg (arrV c N) (funext fun j => ?_)
    simp [va_rf]
  | i + 1 => by
    show (Jvm.Free.Multi.outerC c N h0 i).setSlot i (.ref (h0 + 1 + i)) = _
    rw [vr_outer c N h0 i, arrV_store]
    refine congrArg (arrV c N) (funext fun j => ?_)
    by_cases e : j = i
    · subst e
      simp [updV, va_rf]
    · by_cases h : j < i
      · simp [updV, e, h, Nat.lt_succ_of_lt h]
      · simp [updV, e, h, show ¬ j < i + 1 by omega]
def zMul (μ : zM) (N M : Nat) : zM := (μ.1 + 1 + N, fun b => if b = μ.1 then (1, N) else if μ.1 < b ∧ b ≤ μ.1 + N then (0, M) else μ.2.1 b, fun b => if μ.1 ≤ b ∧ b ≤ μ.1 + N then fun _ => 0 else μ.2.2.1 b, fun b => if b = μ.1 then fun k => if k < N then some (μ.1 + 1 + k) else none else if μ.1 < b ∧ b ≤ μ.1 + N then fun _ => none else μ.2.2.2 b)
theorem zRp.grow {w : zW} {s : State} {μ μ' : zM} {H H' : Heap} {locs : List Loc} (h : zRp w s μ H locs) (h32 : 32 ≤ zn μ) (h81 : zn μ' ≤ 81) (hn : zn μ ≤ zn μ') (he : ∀ b, b < zn μ → zE w μ' b = zE w μ b)
    (hat : ∀ b, zn μ ≤ b → b < zn μ' → va_at (zD w) vwCl (zad w b, zE w μ' b) H') (hz : H'.size = H.size + (zn μ' - zn μ)) (oq : ∀ q, q < H.size → H'[q]? = H[q]?) : zRp w s μ' H' locs := by
  obtain ⟨r1, r2, r3⟩ := h.1 (by omega)
  have r4 := h.2
  have s1 : zsz (zn μ') = zn μ' - 32 := if_pos h81
  have s2 : zsz (zn μ) = zn μ - 32 := if_pos (by omega)
  refine ⟨fun _ => ⟨⟨by omega, Or.inl h81⟩, by rw [s1]; rw [s2] at r2; omega, fun k q hk => ?_⟩, ⟨by have := r4.1; omega, fun q h1 h2 => ?_, r4.2.2⟩⟩
  · have hl : k < zn μ' - 32 := by rw [← s1, ← zWs_len w μ']; exact (List.getElem?_eq_some_iff.mp hk).1
    have hx : zix (k + 32) = k := by
      unfold zix
      rw [if_pos (by omega)]
      omega
    have h1 := zWs_at w (μ := μ') (a := k + 32) ⟨by omega, Or.inl (by omega)⟩ (by omega)
    rw [hx] at h1
    have e := Option.some.inj (hk.symm.trans h1)
    by_cases hb : k + 32 < zn μ
    · rw [e, he _ hb]
      have h2 := zWs_at w (μ := μ) (a := k + 32) ⟨by omega, Or.inl (by omega)⟩ hb
      rw [hx] at h2
      have h3 := r3 k _ h2
      exact h3.kept (oq _ h3.lt)
    · rw [e]
      exact hat _ (by omega) (by omega)
  · rw [oq q (Nat.lt_of_lt_of_le h1 r4.1)]
    exact r4.2.1 q h1 h2
theorem zad_lo (w : zW) {a : Nat} (h : 32 ≤ a) (h2 : a < 81) : zad w a = zb0 w + (a - 32) := by
  unfold zad
  rw [if_neg (by omega), if_pos h2]
theorem zad_gh (w : zW) {a : Nat} (h : 81 ≤ a) (h2 : a < 114) : zad w a = zca w a := by
  unfold zad
  rw [if_neg (by omega), if_neg (by omega), if_pos h2]
theorem zX {w : zW} {s : State} (hG : zGF w) (hF : zFr w s) : va_X (zca w 26) (zxl w) (zxs w) s s.heap := (hG.2.2.1.1.moved hF.1).kept (hF.2.2.1 _ hG.2.2.1.2)
theorem zkept {w : zW} {s : State} (hG : zGF w) (hF : zFr w s) : ∀ a : Nat, a < (zs0 w).heap.size → ¬ zAq w a → s.heap[a]? = (zs0 w).heap[a]? := fun a ha _ => hF.2.2.1 a (by rw [hG.1]; exact ha)
theorem zstr {w : zW} {s : State} (hG : zGF w) (hF : zFr w s) : vk_S 16 zSlen zSbyt (fun i => zca w (zSa i)) (fun i => zca w (zVa i)) (zAq w) s s.heap := (vk_S.moved hF.1 hG.2.2.2.2.2.2.1).kept (zkept hG hF)
section EVB
variable {w : zW} {d kc ks : Nat} {y : zY} {pc : Nat} {L : List (Option Value)} {st : List Value} {μ : zM} {Q Q' : Option Value → zM → Prop}
theorem ev_mul {n k : Int32} {N M idx : Nat} (hd : decode y.2.1 pc = .ok (.multianewarray idx 2, 4)) (hcl : Cond.classLink y.1.cls idx ("[" ++ (FieldType.array .int).toString) ∈ zGT) (hw : Cond.arrayClass .int ∈ zGT) (hn : ¬ n < 0) (hk : ¬ k < 0) (hN : n.toNatClampNeg = N) (hM : k.toNatClampNeg = M) (hlim : 32 ≤ zn μ ∧ zn μ + 1 + N ≤ 81) (hN2 : N ≤ 1000) (hM2 : M ≤ 1000) (hs : ∀ j, zst w (zn μ) j = none)
    (kk : EV w d kc ks y (pc + 4) L (.ref (zn μ) :: st) (zMul μ N M) Q) : EV w d (kc + (1 + N)) (ks + (N + N * M)) y pc L (.int k :: .int n :: st) μ Q := by
  subst hN
  subst hM
  intro p l e R s m args below meth c0 H locs cells slots Qf ls hG hC hL hP h1 h2 h3 h4 hQ T hT X
  have hK := zKs hG hC.fr
  have hrl : zrl (zn μ) := ⟨hlim.1, Or.inl (by omega)⟩
  have hsz : zsz (zn μ) = μ.1 - 32 := if_pos (by omega)
  obtain ⟨vm₁, cA, comp, -, fA, fC, hO, -, X', step⟩ := X.multianewarray2F hC.1 hC.2.2.2.1 (hC.word hcl) (show (Cond.arrayOver (.array .int)).before args s = true from (hG.2.2.2.2.2.2.2.2.1).moved hC.fr.1) (hC.word hw) (g := F0 m pc ls (.int k :: .int n :: st.map (zva w))) rfl (by rw [hC.2.1]; exact hd) rfl hn hk (by omega) (show k.toNatClampNeg * 4 ≤ _ by omega) (by omega) rfl rfl (by omega) (by omega)
  have hra1 := (hK.2 1 _ rfl).2
  have ecA : cA = zcA w 1 := Option.some.inj (fA.symm.trans (show s.vm.findClass ("[" ++ (FieldType.array .int).toString) = some (zcA w 1) from hra1))
  have eco : comp = zcA w 0 := Option.some.inj (fC.symm.trans (show s.vm.findClass "[I" = some (zcA w 0) from (hK.2 0 _ rfl).2))
  subst ecA
  subst eco
  generalize hF : Jvm.Free.Multi.fill (T.setVm vm₁) (zcA w 1) (zcA w 0) n.toNatClampNeg k.toNatClampNeg (defaultValue .int) n.toNatClampNeg = F at X' step
  have hTh : (T.setVm vm₁).heap = H := hT
  obtain ⟨f1, f2, -, -⟩ := Jvm.Free.Multi.fill_facts (T.setVm vm₁) (zcA w 1) (zcA w 0) n.toNatClampNeg k.toNatClampNeg (defaultValue .int) n.toNatClampNeg
  have f3 := Jvm.Free.Multi.fill_inner (T.setVm vm₁) (zcA w 1) (zcA w 0) n.toNatClampNeg k.toNatClampNeg (defaultValue .int) n.toNatClampNeg
  rw [hF, hTh] at f1 f2 f3
  have hold : ∀ x : Nat, x < H.size → F.heap[x]? = H[x]? := fun x hx => by
    have := Jvm.Free.Multi.fill_old (T.setVm vm₁) (zcA w 1) (zcA w 0) n.toNatClampNeg k.toNatClampNeg (defaultValue .int) (a := x) (by rw [hTh]; exact hx) n.toNatClampNeg
    rw [hF, hTh] at this
    exact this
  have hz : zn (zMul μ n.toNatClampNeg k.toNatClampNeg) = zn μ + 1 + n.toNatClampNeg := rfl
  have hRp : zRp w s (zMul μ n.toNatClampNeg k.toNatClampNeg) F.heap locs := by
    refine hP.grow hlim.1 (by rw [hz]; exact hlim.2) (by omega) (fun b hb => ?_) (fun b g1 g2 => ?_) (by rw [f1]; omega) hold
    · have e1 : zk (zMul μ n.toNatClampNeg k.toNatClampNeg) b = zk μ b := by
        show (if b = μ.1 then _ else if μ.1 < b ∧ b ≤ μ.1 + n.toNatClampNeg then _ else μ.2.1 b) = _
        have hb' : b < μ.1 := hb
        rw [if_neg (by omega), if_neg (by omega)]
        rfl
      have e2 : zi (zMul μ n.toNatClampNeg k.toNatClampNeg) b = zi μ b := by
        funext j
        show (if μ.1 ≤ b ∧ b ≤ μ.1 + n.toNatClampNeg then fun _ => 0 else μ.2.2.1 b) j = _
        have hb' : b < μ.1 := hb
        rw [if_neg (by omega)]
        rfl
      have e3 : zr (zMul μ n.toNatClampNeg k.toNatClampNeg) b = zr μ b := by
        funext j
        show (if b = μ.1 then _ else if μ.1 < b ∧ b ≤ μ.1 + n.toNatClampNeg then fun _ => none else μ.2.2.2 b) j = _
        have hb' : b < μ.1 := hb
        rw [if_neg (by omega), if_neg (by omega)]
        rfl
      unfold zE zv zrr
      rw [e1, e2, e3]
    · by_cases e : b = zn μ
      · subst e
        have e1 : zk (zMul μ n.toNatClampNeg k.toNatClampNeg) (zn μ) = (1, n.toNatClampNeg) := if_pos rfl
        have e3 : zr (zMul μ n.toNatClampNeg k.toNatClampNeg) (zn μ) = fun j => if j < n.toNatClampNeg then some (μ.1 + 1 + j) else none := if_pos rfl
        rw [zE_ref (j := 1) (by rw [e1]) (by omega) (by omega), e1]
        show F.heap[zad w (zn μ)]? = some (vp_cell _ _)
        rw [← hP.top hrl, f2, vp_cell_q, vr_outer]
        congr 2
        funext j
        unfold zrr
        rw [hs, e3]
        show va_rf _ = va_rf (Option.map _ (if j < n.toNatClampNeg then some (μ.1 + 1 + j) else none))
        by_cases hj : j < n.toNatClampNeg
        · rw [if_pos hj, if_pos hj]
          have h32 : 32 ≤ μ.1 := hlim.1
          have t1 : H.size = zb0 w + (μ.1 - 32) := by rw [← hsz]; exact (hP.1 (by omega)).2.1
          have t3 : zb0 w + (μ.1 - 32) + 1 + j = zb0 w + (μ.1 + 1 + j - 32) := by omega
          show Value.ref _ = Value.ref (zad w (μ.1 + 1 + j))
          rw [t1, t3, zad_lo w (show 32 ≤ μ.1 + 1 + j by omega) (by have h9 : μ.1 + 1 + n.toNatClampNeg ≤ 81 := hlim.2; omega)]
        · rw [if_neg hj, if_neg hj]
          rfl
      · have g1' : μ.1 ≤ b := g1
        have g2' : b < μ.1 + 1 + n.toNatClampNeg := g2
        have e' : b ≠ μ.1 := e
        have e1 : zk (zMul μ n.toNatClampNeg k.toNatClampNeg) b = (0, k.toNatClampNeg) := by
          show (if b = μ.1 then _ else if μ.1 < b ∧ b ≤ μ.1 + n.toNatClampNeg then (0, k.toNatClampNeg) else μ.2.1 b) = _
          rw [if_neg e', if_pos (by omega)]
        have e2 : zi (zMul μ n.toNatClampNeg k.toNatClampNeg) b = fun _ => 0 := by
          funext j
          show (if μ.1 ≤ b ∧ b ≤ μ.1 + n.toNatClampNeg then fun _ => 0 else μ.2.2.1 b) j = _
          rw [if_pos (by omega)]
        rw [zE_int (by rw [e1]), e1, e2]
        show F.heap[zad w b]? = some (vp_cell _ _)
        have h32 : 32 ≤ μ.1 := hlim.1
        have ea : zad w b = H.size + 1 + (b - μ.1 - 1) := by
          have t1 : H.size = zb0 w + (μ.1 - 32) := by rw [← hsz]; exact (hP.1 (by omega)).2.1
          have t3 : zb0 w + (b - 32) = (zb0 w + (μ.1 - 32)) + 1 + (b - μ.1 - 1) := by omega
          rw [zad_lo w (show 32 ≤ b by omega) (by have h9 : μ.1 + 1 + n.toNatClampNeg ≤ 81 := hlim.2; omega), t3, t1]
        rw [ea, f3 _ (by omega), vp_cell_i, ← arrV_new]
        rfl
  obtain ⟨t, b1, b2⟩ := kk p l e R s m args below meth c0 F.heap locs (cells + 1 + n.toNatClampNeg) (slots + n.toNatClampNeg + n.toNatClampNeg * k.toNatClampNeg) Qf ls hG hC hL hRp h1 h2 (by omega) (by omega) (fun v μ' H' locs' cells' slots' pc' ls' q r a b t => hQ v μ' H' locs' cells' slots' pc' ls' q r (by omega) (by omega) t) F rfl X'
  refine ⟨t, step t ?_, b2⟩
  rw [hT]
  have e : Array.size H = zad w (zn μ) := hP.top hrl
  rw [e]
  exact b1
/-- a nest mate's private constructor -/
theorem ev_callIN {k1 z1 k2 z2 d' idx n b : Nat} {y' : zY} {host : String} {As rest : List Value} {L0 : List (Option Value)} {Q1 : Option Value → zM → Prop} (hd : decode y.2.1 pc = .ok (.invokespecial idx, 3)) (hm : zMeth y' n) (hl : Cond.methodLinkNest y.1.cls idx y'.1 host ∈ zNw) (hi : Cond.instanceMethod y'.1 ∈ zGT) (hini : y'.1.name = "<init>") (hre : y'.2.2.2 = none)
    (hst : st = As.reverse ++ .ref b :: rest) (hn : As.length = n) (hr : (rest.map fun v => v.category).sum ≤ 8) (hl0 : zL0 (.ref b :: As) y'.2.2.1 = L0) (hlen : (zfa (.ref b :: As)).length ≤ y'.2.2.1) (hdd : d' + 1 ≤ d)
    (h : EV w d' k1 z1 y' 0 L0 [] μ Q1) (cont : ∀ v μ', Q1 v μ' → EV w d k2 z2 y (pc + 3) L (v.toList ++ rest) μ' Q) : EV w d (k1 + k2) (z1 + z2) y pc L st μ Q := by
  refine ev_run (rest := rest) (fun p l e R s m args below meth c H locs cells slots ls hG hC hL hP h1 h2 h3 h4 => ⟨(Value.ref (zad w b) :: As.map (zva w)).toArray, ?_⟩) cont
  have hts := hC.2.2.2.2.1
  have hcw : va_CN R s args y.1.cls idx y'.1 host y'.2.1 y'.2.2.1 none (zws y') (zrm d' k1 z1) k1 z1 n := ⟨⟨rfl, rfl, (zroom (k1 := k1) (z1 := z1) hm hdd h1 h2).1, (zroom (k1 := k1) (z1 := z1) hm hdd h1 h2).2, zws_pay hm hC, by rw [← hre]; exact List.mem_cons_self⟩, by rw [← hre]; exact hC.word hm.1, hC.word hm.2.1, hm.2.2.2.1, hm.len, va_Nw.use rfl (hC.fr.2.2.2.2 _ hl)⟩
  exact va_runIN (As := As.map (zva w)) (b := zad w b) ⟨hC.1, hC.2.1, hC.2.2.1, hC.2.2.2.1, hts⟩ (zmet l hG hm.2.2.1 hl0 hlen h) ⟨hcw, hini, hC.word hi⟩ ⟨zPc.blind w (.ref b :: As) μ, zPc_of (As := .ref b :: As) hC hP⟩ rfl (by rw [List.length_map]; exact hn) hL.1 (by show st.map (zva w) = _; rw [hst, List.map_append, List.map_reverse]; rfl) (zrest w hr) hd ⟨h3, h4⟩
theorem ev_objInit {idx a : Nat} (hd : decode y.2.1 pc = .ok (.invokespecial idx, 3)) (hl : Cond.methodLink y.1.cls idx objectInit ∈ zGT) (hi : Cond.instanceMethod objectInit ∈ zGT) (hco : Cond.code objectInit ⟨#[0xb1]⟩ 1 none ∈ zGT) (hd1 : 1 ≤ d) (hr : (st.map fun v => v.category).sum ≤ 8)
    (kk : EV w d kc ks y (pc + 3) L st μ Q) : EV w d kc ks y pc L (.ref a :: st) μ Q := by
  intro p l e R s m args below meth c0 H locs cells slots Qf ls hG hC hL hP h1 h2 h3 h4 hQ
  have hrs := zrest (pc := pc) w (m := m) (ls := ls) (st := st) hr
  have e0 : 2 * (F0 m pc ls (st.map (zva w))).monitorRoom = 0 := rfl
  exact W.objInit hC.1 hC.2.1 hC.2.2.2.1 (hC.word hl) (hC.word hi) (hC.word hco) rfl (by rw [hC.2.2.1]; exact hL.1) rfl hd (by omega) (by show 2 * 0 + _ + 12 ≤ _; omega) (kk p l e R s m args below meth c0 H locs cells slots Qf ls hG hC hL hP h1 h2 h3 h4 hQ)
theorem ev_max {idx : Nat} {a b v : Int32} (hd : decode y.2.1 pc = .ok (.invokestatic idx, 3)) (hl : Cond.methodLink y.1.cls idx Lib.Math.max.name ∈ zGT) (hst : Cond.static Lib.Math.max.name ∈ zGT) (hini : Cond.initialized "java/lang/Math" ∈ zGT) (hco : Cond.code Lib.Math.max.name Lib.Math.max.code 2 (some .int) ∈ zGT) (hd1 : 1 ≤ d) (hr : (st.map fun v => v.category).sum ≤ 8) (hv : (if a < b then b else a) = v)
    (kk : EV w d kc ks y (pc + 3) L (.int v :: st) μ Q) : EV w d kc ks y pc L (.int b :: .int a :: st) μ Q := by
  intro p l e R s m args below meth c0 H locs cells slots Qf ls hG hC hL hP h1 h2 h3 h4 hQ
  have hrs := zrest (pc := pc) w (m := m) (ls := ls) (st := st) hr
  have e0 : 2 * (F0 m pc ls (st.map (zva w))).monitorRoom = 0 := rfl
  exact va_mmax hC.1 hC.2.1 (by rw [hC.2.2.1]; exact hL.1.symm) hC.2.2.2.1 (hC.word hl) (hC.word hst) (hC.word hini) (hC.word hco) (by omega) (by omega) (by omega) (by omega) hd (by rw [hv]; exact kk p l e R s m args below meth c0 H locs cells slots Qf ls hG hC hL hP h1 h2 h3 h4 hQ)
theorem ev_min {idx : Nat} {a b v : Int32} (hd : decode y.2.1 pc = .ok (.invokestatic idx, 3)) (hl : Cond.methodLink y.1.cls idx Lib.Math.min.name ∈ zGT) (hst : Cond.static Lib.Math.min.name ∈ zGT) (hini : Cond.initialized "java/lang/Math" ∈ zGT) (hco : Cond.code Lib.Math.min.name Lib.Math.min.code 2 (some .int) ∈ zGT) (hd1 : 1 ≤ d) (hr : (st.map fun v => v.category).sum ≤ 8) (hv : (if b < a then b else a) = v)
    (kk : EV w d kc ks y (pc + 3) L (.int v :: st) μ Q) : EV w d kc ks y pc L (.int b :: .int a :: st) μ Q := by
  intro p l e R s m args below meth c0 H locs cells slots Qf ls hG hC hL hP h1 h2 h3 h4 hQ
  have hrs := zrest (pc := pc) w (m := m) (ls := ls) (st := st) hr
  have e0 : 2 * (F0 m pc ls (st.map (zva w))).monitorRoom = 0 := rfl
  exact va_mmin hC.1 hC.2.1 (by rw [hC.2.2.1]; exact hL.1.symm) hC.2.2.2.1 (hC.word hl) (hC.word hst) (hC.word hini) (hC.word hco) (by omega) (by omega) (by omega) (by omega) hd (by rw [hv]; exact kk p l e R s m args below meth c0 H locs cells slots Qf ls hG hC hL hP h1 h2 h3 h4 hQ)
/-- the statics: 0, 1: the first law's two rows; 2: COMPACT_STRINGS -/
theorem ev_getsF {idx : Nat} (hd : decode y.2.1 pc = .ok (.getstatic idx, 3)) (hl : Cond.fieldLink y.1.cls idx "NineHeaps" "FIRST_LAW" "[I" ∈ zGT) (kk : EV w d kc ks y (pc + 3) L (.ref 0 :: st) μ Q) : EV w d kc ks y pc L st μ Q := by
  intro p l e R s m args below meth c0 H locs cells slots Qf ls hG hC hL hP h1 h2 h3 h4 hQ
  exact va_gets hC.1 hC.2.1 ((va_Z.moved hC.fr.1 hG.2.2.2.1.1).kept (zkept hG hC.fr)) hP.2 hC.2.2.2.1 (hC.word hl) (fun _ h => h) hd (kk p l e R s m args below meth c0 H locs cells slots Qf ls hG hC hL hP h1 h2 h3 h4 hQ)
theorem ev_getsS {idx : Nat} (hd : decode y.2.1 pc = .ok (.getstatic idx, 3)) (hl : Cond.fieldLink y.1.cls idx "NineHeaps" "FIRST_LAW_STARTS" "[I" ∈ zGT) (kk : EV w d kc ks y (pc + 3) L (.ref 1 :: st) μ Q) : EV w d kc ks y pc L st μ Q := by
  intro p l e R s m args below meth c0 H locs cells slots Qf ls hG hC hL hP h1 h2 h3 h4 hQ
  exact va_gets hC.1 hC.2.1 ((va_Z.moved hC.fr.1 hG.2.2.2.2.1.1).kept (zkept hG hC.fr)) hP.2 hC.2.2.2.1 (hC.word hl) (fun _ h => h) hd (kk p l e R s m args below meth c0 H locs cells slots Qf ls hG hC hL hP h1 h2 h3 h4 hQ)
theorem ev_getsC {idx : Nat} (hd : decode y.2.1 pc = .ok (.getstatic idx, 3)) (hl : Cond.fieldLink y.1.cls idx "java/lang/String" "COMPACT_STRINGS" "Z" ∈ zGT) (kk : EV w d kc ks y (pc + 3) L (.int 1 :: st) μ Q) : EV w d kc ks y pc L st μ Q := by
  intro p l e R s m args below meth c0 H locs cells slots Qf ls hG hC hL hP h1 h2 h3 h4 hQ
  exact va_gets hC.1 hC.2.1 ((va_Z.moved hC.fr.1 hG.2.2.2.2.2.1).kept (zkept hG hC.fr)) hP.2 hC.2.2.2.1 (hC.word hl) (fun _ h => h) hd (kk p l e R s m args below meth c0 H locs cells slots Qf ls hG hC hL hP h1 h2 h3 h4 hQ)
theorem ev_getsQ {idx : Nat} (hd : decode y.2.1 pc = .ok (.getstatic idx, 3)) (hl : Cond.fieldLink y.1.cls idx "jdk/internal/util/Preconditions" "SIOOBE_FORMATTER" "Ljava/util/function/BiFunction;" ∈ zGT) (kk : EV w d kc ks y (pc + 3) L (va_rf (zsio w) :: st) μ Q) : EV w d kc ks y pc L st μ Q := by
  intro p l e R s m args below meth c0 H locs cells slots Qf ls hG hC hL hP h1 h2 h3 h4 hQ
  have e9 : zva w (va_rf (zsio w)) = va_rf ((zsio w).map (zca w)) := by
    unfold zsio
    by_cases h : zca w 28 = 0
    · rw [if_pos h]
      rfl
    · rw [if_neg h]
      rfl
  have hk : W p l e R s m args below meth c0 H locs cells slots Qf (F0 m (pc + 3) ls (zva w (va_rf (zsio w)) :: st.map (zva w))) := kk p l e R s m args below meth c0 H locs cells slots Qf ls hG hC hL hP h1 h2 h3 h4 hQ
  rw [e9] at hk
  exact va_gets hC.1 hC.2.1 ((va_Z.moved hC.fr.1 hG.2.2.2.2.2.2.2.2.2.1).kept (zkept hG hC.fr)) hP.2 hC.2.2.2.1 (hC.word hl) (fun _ h => h) hd hk
/-- old rows of ints -/
theorem zold_at {w : zW} {s : State} {H : Heap} {locs : List Loc} {i N : Nat} {f : Nat → Int32} (hi : i < 32) (hT : zGF w → zTc w i N f) (hG : zGF w) (hF : zFr w s) (hP : zRp w s μ H locs) : ∃ cell : Cell, H[zad w i]? = some cell ∧ s.isArrayOf cell .int ∧ cell.vm ≠ .unknown ∧ cell.slots.size = N ∧ ∀ j : Nat, j < N → cell.slots[j]? = some (.int (f j)) := by
  obtain ⟨cell, q1, q2, q3, q4, q5, q6⟩ := zsrc_old hi (hT hG) s H locs hG hF hP
  refine ⟨cell, q1, ⟨q4, ?_⟩, q3, q5, q6⟩
  rw [q2]
  exact (((zKs hG hF).2 0 _ rfl).1 0 (fun _ => .null)).2
theorem ev_ialdO {i N : Nat} {j x : Int32} {f : Nat → Int32} (hd : decode y.2.1 pc = .ok (.iaload, 1)) (hi : i < 32) (hT : zGF w → zTc w i N f) (hin : vp_in j N) (hv : f j.toNatClampNeg = x)
    (kk : EV w d kc ks y (pc + 1) L (.int x :: st) μ Q) : EV w d kc ks y pc L (.int j :: .ref i :: st) μ Q := by
  intro p l e R s m args below meth c0 H locs cells slots Qf ls hG hC hL hP h1 h2 h3 h4 hQ
  obtain ⟨cell, q1, q2, q3, q4, q5⟩ := zold_at hi hT hG hC.fr hP
  have hlt : j.toNatClampNeg < N := Nat.not_le.mp fun q => hin (Or.inr q)
  exact W.iald (v := .int x) hC.1 hC.2.1 q1 q2 q3 (by rw [q4]; exact hin) (by rw [q5 _ hlt, hv]) rfl rfl hd (kk p l e R s m args below meth c0 H locs cells slots Qf ls hG hC hL hP h1 h2 h3 h4 hQ)
theorem ev_alenO {i N : Nat} {x : Int32} {f : Nat → Int32} (hd : decode y.2.1 pc = .ok (.arraylength, 1)) (hi : i < 32) (hT : zGF w → zTc w i N f) (hv : N.toInt32 = x)
    (kk : EV w d kc ks y (pc + 1) L (.int x :: st) μ Q) : EV w d kc ks y pc L (.ref i :: st) μ Q := by
  intro p l e R s m args below meth c0 H locs cells slots Qf ls hG hC hL hP h1 h2 h3 h4 hQ
  obtain ⟨cell, q1, q2, q3, q4, q5⟩ := zold_at hi hT hG hC.fr hP
  exact W.alen hC.1 hC.2.1 q1 q2 (by rw [q4]; exact hv) rfl rfl hd (kk p l e R s m args below meth c0 H locs cells slots Qf ls hG hC hL hP h1 h2 h3 h4 hQ)
/-- the script -/
theorem ev_sld {j x : Int32} (hd : decode y.2.1 pc = .ok (.iaload, 1)) (hin : vp_in j (zxl w)) (hv : zxs w j.toNatClampNeg = x)
    (kk : EV w d kc ks y (pc + 1) L (.int x :: st) μ Q) : EV w d kc ks y pc L (.int j :: .ref 26 :: st) μ Q := by
  intro p l e R s m args below meth c0 H locs cells slots Qf ls hG hC hL hP h1 h2 h3 h4 hQ
  exact va_sld hC.1 hC.2.1 (zX hG hC.fr) (Nat.lt_of_lt_of_le hG.2.2.1.2 hC.fr.2.1) (Nat.not_le.mpr hG.2.2.1.2) hP.2 hin hd (by rw [hv]; exact kk p l e R s m args below meth c0 H locs cells slots Qf ls hG hC hL hP h1 h2 h3 h4 hQ)
theorem ev_slen {x : Int32} (hd : decode y.2.1 pc = .ok (.arraylength, 1)) (hv : Int32.ofNat (zxl w) = x)
    (kk : EV w d kc ks y (pc + 1) L (.int x :: st) μ Q) : EV w d kc ks y pc L (.ref 26 :: st) μ Q := by
  intro p l e R s m args below meth c0 H locs cells slots Qf ls hG hC hL hP h1 h2 h3 h4 hQ
  exact va_slen hC.1 hC.2.1 (zX hG hC.fr) (Nat.lt_of_lt_of_le hG.2.2.1.2 hC.fr.2.1) (Nat.not_le.mpr hG.2.2.1.2) hP.2 hd (by subst hv; exact kk p l e R s m args below meth c0 H locs cells slots Qf ls hG hC hL hP h1 h2 h3 h4 hQ)
/-! texts: 2 .. 13, their bytes 14 .. 25; the law's: 81 .. 84, their bytes 85 .. 88 -/
theorem ev_ldcS {i idx : Nat} (hd : decode y.2.1 pc = .ok (.ldc idx, 2)) (hi : i < 12) (hx : zSix.getD (i) 0 = idx) (hy : y.1.cls = "NineHeaps$Tape") (kk : EV w d kc ks y (pc + 2) L (.ref (2 + i) :: st) μ Q) : EV w d kc ks y pc L st μ Q := by
  intro p l e R s m args below meth c0 H locs cells slots Qf ls hG hC hL hP h1 h2 h3 h4 hQ
  have hz := hC.fr.2.2.2.1 (i) (by omega)
  rw [hx, (show zSow (i) = "NineHeaps$Tape" from if_pos (by omega)), (show zSa (i) = 2 + i from if_pos (by omega))] at hz
  have hk := kk p l e R s m args below meth c0 H locs cells slots Qf ls hG hC hL hP h1 h2 h3 h4 hQ
  have hk2 : W p l e R s m args below meth c0 H locs cells slots Qf (F0 m (pc + 2) ls (.ref (zad w (2 + i)) :: st.map (zva w))) := hk
  rw [(show zad w (2 + i) = zca w (2 + i) from if_pos (by omega))] at hk2
  exact va_ldcS hC.1 hC.2.1 (by rw [← hy]; exact hC.2.2.2.1) hz hd hk2
theorem zrcv_str {i : Nat} (hi : i < 12) : zRcv w μ (2 + i) "java/lang/String" := by
  intro s H locs hG hF hP
  rw [(show zad w (2 + i) = zca w (2 + i) from if_pos (by omega))]
  have h9 := vk_recv (i := i) (zstr hG hF) (by omega) hP.2
  rw [(show zSa (i) = 2 + i from if_pos (by omega))] at h9
  exact h9
theorem ev_strV {i idx : Nat} (hd : decode y.2.1 pc = .ok (.getfield idx, 3)) (hi : i < 12) (hl : Cond.fieldLink y.1.cls idx "java/lang/String" "value" "[B" ∈ zGT) (kk : EV w d kc ks y (pc + 3) L (.ref (14 + i) :: st) μ Q) : EV w d kc ks y pc L (.ref (2 + i) :: st) μ Q := by
  intro p l e R s m args below meth c0 H locs cells slots Qf ls hG hC hL hP h1 h2 h3 h4 hQ
  have hk : W p l e R s m args below meth c0 H locs cells slots Qf (F0 m (pc + 3) ls (.ref (zad w (14 + i)) :: st.map (zva w))) := kk p l e R s m args below meth c0 H locs cells slots Qf ls hG hC hL hP h1 h2 h3 h4 hQ
  rw [(show zad w (14 + i) = zca w (14 + i) from if_pos (by omega))] at hk
  show W p l e R s m args below meth c0 H locs cells slots Qf (F0 m pc ls (.ref (zad w (2 + i)) :: st.map (zva w)))
  rw [(show zad w (2 + i) = zca w (2 + i) from if_pos (by omega))]
  have hz := ((zstr hG hC.fr).1 (i) (by omega)).2.2.1
  dsimp only at hz
  rw [(show zSa (i) = 2 + i from if_pos (by omega)), (show zVa (i) = 14 + i from if_pos (by omega))] at hz
  exact vk_getf hC.1 hC.2.1 hz hP.2 hC.2.2.2.1 (hC.word hl) (fun _ h => h) hd hk
theorem ev_strC {i idx : Nat} (hd : decode y.2.1 pc = .ok (.getfield idx, 3)) (hi : i < 12) (hl : Cond.fieldLink y.1.cls idx "java/lang/String" "coder" "B" ∈ zGT) (kk : EV w d kc ks y (pc + 3) L (.int 0 :: st) μ Q) : EV w d kc ks y pc L (.ref (2 + i) :: st) μ Q := by
  intro p l e R s m args below meth c0 H locs cells slots Qf ls hG hC hL hP h1 h2 h3 h4 hQ
  have hk := kk p l e R s m args below meth c0 H locs cells slots Qf ls hG hC hL hP h1 h2 h3 h4 hQ
  show W p l e R s m args below meth c0 H locs cells slots Qf (F0 m pc ls (.ref (zad w (2 + i)) :: st.map (zva w)))
  rw [(show zad w (2 + i) = zca w (2 + i) from if_pos (by omega))]
  have hz := ((zstr hG hC.fr).1 (i) (by omega)).2.1
  dsimp only at hz
  rw [(show zSa (i) = 2 + i from if_pos (by omega))] at hz
  exact vk_getf hC.1 hC.2.1 hz hP.2 hC.2.2.2.1 (hC.word hl) (fun _ h => h) hd hk
theorem ev_bald {i : Nat} {j x : Int32} (hd : decode y.2.1 pc = .ok (.baload, 1)) (hi : i < 12) (hin : vp_in j (zSlen.getD (i) 0)) (hv : (zSbyt.getD (i) []).getD j.toNatClampNeg 0 = x)
    (kk : EV w d kc ks y (pc + 1) L (.int x :: st) μ Q) : EV w d kc ks y pc L (.int j :: .ref (14 + i) :: st) μ Q := by
  intro p l e R s m args below meth c0 H locs cells slots Qf ls hG hC hL hP h1 h2 h3 h4 hQ
  have hk := kk p l e R s m args below meth c0 H locs cells slots Qf ls hG hC hL hP h1 h2 h3 h4 hQ
  show W p l e R s m args below meth c0 H locs cells slots Qf (F0 m pc ls (.int j :: .ref (zad w (14 + i)) :: st.map (zva w)))
  rw [(show zad w (14 + i) = zca w (14 + i) from if_pos (by omega))]
  have hz := ((zstr hG hC.fr).1 (i) (by omega)).2.2.2
  dsimp only at hz
  rw [(show zVa (i) = 14 + i from if_pos (by omega))] at hz
  exact va_tb hC.1 hC.2.1 hz hP.2 hin (v := .int x) (by rw [hv]) hd hk
theorem ev_blen {i : Nat} {x : Int32} (hd : decode y.2.1 pc = .ok (.arraylength, 1)) (hi : i < 12) (hv : Int32.ofNat (zSlen.getD (i) 0) = x)
    (kk : EV w d kc ks y (pc + 1) L (.int x :: st) μ Q) : EV w d kc ks y pc L (.ref (14 + i) :: st) μ Q := by
  intro p l e R s m args below meth c0 H locs cells slots Qf ls hG hC hL hP h1 h2 h3 h4 hQ
  have hk := kk p l e R s m args below meth c0 H locs cells slots Qf ls hG hC hL hP h1 h2 h3 h4 hQ
  show W p l e R s m args below meth c0 H locs cells slots Qf (F0 m pc ls (.ref (zad w (14 + i)) :: st.map (zva w)))
  rw [(show zad w (14 + i) = zca w (14 + i) from if_pos (by omega))]
  have hz := ((zstr hG hC.fr).1 (i) (by omega)).2.2.2
  dsimp only at hz
  rw [(show zVa (i) = 14 + i from if_pos (by omega))] at hz
  exact va_tlen hC.1 hC.2.1 hz hP.2 hv hd hk
theorem ev_ldcT {i idx : Nat} (hd : decode y.2.1 pc = .ok (.ldc idx, 2)) (hi : i < 4) (hx : zSix.getD (12 + i) 0 = idx) (hy : y.1.cls = "NineHeapsLaw") (kk : EV w d kc ks y (pc + 2) L (.ref (81 + i) :: st) μ Q) : EV w d kc ks y pc L st μ Q := by
  intro p l e R s m args below meth c0 H locs cells slots Qf ls hG hC hL hP h1 h2 h3 h4 hQ
  have hz := hC.fr.2.2.2.1 (12 + i) (by omega)
  rw [hx, (show zSow (12 + i) = "NineHeapsLaw" from if_neg (by omega)), (show zSa (12 + i) = 81 + i by unfold zSa; rw [if_neg (by omega)]; omega)] at hz
  have hk := kk p l e R s m args below meth c0 H locs cells slots Qf ls hG hC hL hP h1 h2 h3 h4 hQ
  have hk2 : W p l e R s m args below meth c0 H locs cells slots Qf (F0 m (pc + 2) ls (.ref (zad w (81 + i)) :: st.map (zva w))) := hk
  rw [(show zad w (81 + i) = zca w (81 + i) from zad_gh w (by omega) (by omega))] at hk2
  exact va_ldcS hC.1 hC.2.1 (by rw [← hy]; exact hC.2.2.2.1) hz hd hk2
theorem zrcv_strT {i : Nat} (hi : i < 4) : zRcv w μ (81 + i) "java/lang/String" := by
  intro s H locs hG hF hP
  rw [(show zad w (81 + i) = zca w (81 + i) from zad_gh w (by omega) (by omega))]
  have h9 := vk_recv (i := 12 + i) (zstr hG hF) (by omega) hP.2
  rw [(show zSa (12 + i) = 81 + i by unfold zSa; rw [if_neg (by omega)]; omega)] at h9
  exact h9
theorem ev_strTV {i idx : Nat} (hd : decode y.2.1 pc = .ok (.getfield idx, 3)) (hi : i < 4) (hl : Cond.fieldLink y.1.cls idx "java/lang/String" "value" "[B" ∈ zGT) (kk : EV w d kc ks y (pc + 3) L (.ref (85 + i) :: st) μ Q) : EV w d kc ks y pc L (.ref (81 + i) :: st) μ Q := by
  intro p l e R s m args below meth c0 H locs cells slots Qf ls hG hC hL hP h1 h2 h3 h4 hQ
  have hk : W p l e R s m args below meth c0 H locs cells slots Qf (F0 m (pc + 3) ls (.ref (zad w (85 + i)) :: st.map (zva w))) := kk p l e R s m args below meth c0 H locs cells slots Qf ls hG hC hL hP h1 h2 h3 h4 hQ
  rw [(show zad w (85 + i) = zca w (85 + i) from zad_gh w (by omega) (by omega))] at hk
  show W p l e R s m args below meth c0 H locs cells slots Qf (F0 m pc ls (.ref (zad w (81 + i)) :: st.map (zva w)))
  rw [(show zad w (81 + i) = zca w (81 + i) from zad_gh w (by omega) (by omega))]
  have hz := ((zstr hG hC.fr).1 (12 + i) (by omega)).2.2.1
  dsimp only at hz
  rw [(show zSa (12 + i) = 81 + i by unfold zSa; rw [if_neg (by omega)]; omega), (show zVa (12 + i) = 85 + i by unfold zVa; rw [if_neg (by omega)]; omega)] at hz
  exact vk_getf hC.1 hC.2.1 hz hP.2 hC.2.2.2.1 (hC.word hl) (fun _ h => h) hd hk
theorem ev_strTC {i idx : Nat} (hd : decode y.2.1 pc = .ok (.getfield idx, 3)) (hi : i < 4) (hl : Cond.fieldLink y.1.cls idx "java/lang/String" "coder" "B" ∈ zGT) (kk : EV w d kc ks y (pc + 3) L (.int 0 :: st) μ Q) : EV w d kc ks y pc L (.ref (81 + i) :: st) μ Q := by
  intro p l e R s m args below meth c0 H locs cells slots Qf ls hG hC hL hP h1 h2 h3 h4 hQ
  have hk := kk p l e R s m args below meth c0 H locs cells slots Qf ls hG hC hL hP h1 h2 h3 h4 hQ
  show W p l e R s m args below meth c0 H locs cells slots Qf (F0 m pc ls (.ref (zad w (81 + i)) :: st.map (zva w)))
  rw [(show zad w (81 + i) = zca w (81 + i) from zad_gh w (by omega) (by omega))]
  have hz := ((zstr hG hC.fr).1 (12 + i) (by omega)).2.1
  dsimp only at hz
  rw [(show zSa (12 + i) = 81 + i by unfold zSa; rw [if_neg (by omega)]; omega)] at hz
  exact vk_getf hC.1 hC.2.1 hz hP.2 hC.2.2.2.1 (hC.word hl) (fun _ h => h) hd hk
theorem ev_bTald {i : Nat} {j x : Int32} (hd : decode y.2.1 pc = .ok (.baload, 1)) (hi : i < 4) (hin : vp_in j (zSlen.getD (12 + i) 0)) (hv : (zSbyt.getD (12 + i) []).getD j.toNatClampNeg 0 = x)
    (kk : EV w d kc ks y (pc + 1) L (.int x :: st) μ Q) : EV w d kc ks y pc L (.int j :: .ref (85 + i) :: st) μ Q := by
  intro p l e R s m args below meth c0 H locs cells slots Qf ls hG hC hL hP h1 h2 h3 h4 hQ
  have hk := kk p l e R s m args below meth c0 H locs cells slots Qf ls hG hC hL hP h1 h2 h3 h4 hQ
  show W p l e R s m args below meth c0 H locs cells slots Qf (F0 m pc ls (.int j :: .ref (zad w (85 + i)) :: st.map (zva w)))
  rw [(show zad w (85 + i) = zca w (85 + i) from zad_gh w (by omega) (by omega))]
  have hz := ((zstr hG hC.fr).1 (12 + i) (by omega)).2.2.2
  dsimp only at hz
  rw [(show zVa (12 + i) = 85 + i by unfold zVa; rw [if_neg (by omega)]; omega)] at hz
  exact va_tb hC.1 hC.2.1 hz hP.2 hin (v := .int x) (by rw [hv]) hd hk
theorem ev_bTlen {i : Nat} {x : Int32} (hd : decode y.2.1 pc = .ok (.arraylength, 1)) (hi : i < 4) (hv : Int32.ofNat (zSlen.getD (12 + i) 0) = x)
    (kk : EV w d kc ks y (pc + 1) L (.int x :: st) μ Q) : EV w d kc ks y pc L (.ref (85 + i) :: st) μ Q := by
  intro p l e R s m args below meth c0 H locs cells slots Qf ls hG hC hL hP h1 h2 h3 h4 hQ
  have hk := kk p l e R s m args below meth c0 H locs cells slots Qf ls hG hC hL hP h1 h2 h3 h4 hQ
  show W p l e R s m args below meth c0 H locs cells slots Qf (F0 m pc ls (.ref (zad w (85 + i)) :: st.map (zva w)))
  rw [(show zad w (85 + i) = zca w (85 + i) from zad_gh w (by omega) (by omega))]
  have hz := ((zstr hG hC.fr).1 (12 + i) (by omega)).2.2.2
  dsimp only at hz
  rw [(show zVa (12 + i) = 85 + i by unfold zVa; rw [if_neg (by omega)]; omega)] at hz
  exact va_tlen hC.1 hC.2.1 hz hP.2 hv hd hk
/-- a text's bytes to copy from -/
theorem zSrc_str {i : Nat} (hi : i < 4) : zSrc w μ (85 + i) (zSlen.getD (12 + i) 0) (fun k => (zSbyt.getD (12 + i) []).getD k 0) := by
  intro s H locs hG hF hP
  rw [show zad w (85 + i) = zca w (85 + i) from zad_gh w (by omega) (by omega)]
  have hz := ((zstr hG hF).1 (12 + i) (by omega)).2.2.2
  dsimp only at hz
  rw [show zVa (12 + i) = 85 + i by unfold zVa; rw [if_neg (by omega)]; omega] at hz
  obtain ⟨cell, q1, q2, q3, q4, -, q5, q6⟩ := hz
  have hl : zca w (85 + i) < s.heap.size := (Array.getElem?_eq_some_iff.mp q1).1
  exact ⟨cell, by rw [hP.2.2.1 _ hl q6]; exact q1, q2, q3, q4, q5⟩
/-- Integer.DigitOnes -/
theorem ev_getsD {idx : Nat} (hd : decode y.2.1 pc = .ok (.getstatic idx, 3)) (hl : Cond.fieldLink y.1.cls idx "java/lang/Integer" "DigitOnes" "[B" ∈ zGT) (kk : EV w d kc ks y (pc + 3) L (.ref 89 :: st) μ Q) : EV w d kc ks y pc L st μ Q := by
  intro p l e R s m args below meth c0 H locs cells slots Qf ls hG hC hL hP h1 h2 h3 h4 hQ
  have hk : W p l e R s m args below meth c0 H locs cells slots Qf (F0 m (pc + 3) ls (.ref (zad w 89) :: st.map (zva w))) := kk p l e R s m args below meth c0 H locs cells slots Qf ls hG hC hL hP h1 h2 h3 h4 hQ
  rw [zad_gh w (by decide) (by decide)] at hk
  exact va_gets hC.1 hC.2.1 ((va_Z.moved hC.fr.1 hG.2.2.2.2.2.2.2.2.2.2.1).kept (zkept hG hC.fr)) hP.2 hC.2.2.2.1 (hC.word hl) (fun _ h => h) hd hk
theorem ev_baldD {j x : Int32} (hd : decode y.2.1 pc = .ok (.baload, 1)) (hin : vp_in j 100) (hv : zDo j.toNatClampNeg = x)
    (kk : EV w d kc ks y (pc + 1) L (.int x :: st) μ Q) : EV w d kc ks y pc L (.int j :: .ref 89 :: st) μ Q := by
  intro p l e R s m args below meth c0 H locs cells slots Qf ls hG hC hL hP h1 h2 h3 h4 hQ
  have hk := kk p l e R s m args below meth c0 H locs cells slots Qf ls hG hC hL hP h1 h2 h3 h4 hQ
  show W p l e R s m args below meth c0 H locs cells slots Qf (F0 m pc ls (.int j :: .ref (zad w 89) :: st.map (zva w)))
  rw [zad_gh w (by decide) (by decide)]
  exact va_tb hC.1 hC.2.1 ((va_T.moved hC.fr.1 hG.2.2.2.2.2.2.2.2.2.2.2).kept (zkept hG hC.fr)) hP.2 hin (v := .int x) (by rw [hv]) hd hk
/-- Math.max, Math.min of longs -/
theorem ev_maxL {idx : Nat} {a b v : Int64} (hd : decode y.2.1 pc = .ok (.invokestatic idx, 3)) (hl : Cond.methodLink y.1.cls idx Lib.MathLoose.max_long.x ∈ zGT) (hst : Cond.static Lib.MathLoose.max_long.x ∈ zGT) (hini : Cond.initialized "java/lang/Math" ∈ zGT) (hco : Cond.code Lib.MathLoose.max_long.x Lib.MathLoose.max_long.code 4 (some .long) ∈ zGT) (hd1 : 1 ≤ d) (hr : (st.map fun v => v.category).sum ≤ 8) (hv : (if b < a then a else b) = v)
    (kk : EV w d kc ks y (pc + 3) L (.long v :: st) μ Q) : EV w d kc ks y pc L (.long b :: .long a :: st) μ Q := by
  intro p l e R s m args below meth c0 H locs cells slots Qf ls hG hC hL hP h1 h2 h3 h4 hQ
  have hrs := zrest (pc := pc) w (m := m) (ls := ls) (st := st) hr
  have e0 : 2 * (F0 m pc ls (st.map (zva w))).monitorRoom = 0 := rfl
  exact va_mmax_long hC.1 hC.2.1 (by rw [hC.2.2.1]; exact hL.1.symm) hC.2.2.2.1 (hC.word hl) (hC.word hst) (hC.word hini) (hC.word hco) (by omega) (by omega) (by omega) (by omega) hd (by rw [hv]; exact kk p l e R s m args below meth c0 H locs cells slots Qf ls hG hC hL hP h1 h2 h3 h4 hQ)
theorem ev_minL {idx : Nat} {a b v : Int64} (hd : decode y.2.1 pc = .ok (.invokestatic idx, 3)) (hl : Cond.methodLink y.1.cls idx Lib.MathLoose.min_long.x ∈ zGT) (hst : Cond.static Lib.MathLoose.min_long.x ∈ zGT) (hini : Cond.initialized "java/lang/Math" ∈ zGT) (hco : Cond.code Lib.MathLoose.min_long.x Lib.MathLoose.min_long.code 4 (some .long) ∈ zGT) (hd1 : 1 ≤ d) (hr : (st.map fun v => v.category).sum ≤ 8) (hv : (if b < a then b else a) = v)
    (kk : EV w d kc ks y (pc + 3) L (.long v :: st) μ Q) : EV w d kc ks y pc L (.long b :: .long a :: st) μ Q := by
  intro p l e R s m args below meth c0 H locs cells slots Qf ls hG hC hL hP h1 h2 h3 h4 hQ
  have hrs := zrest (pc := pc) w (m := m) (ls := ls) (st := st) hr
  have e0 : 2 * (F0 m pc ls (st.map (zva w))).monitorRoom = 0 := rfl
  exact va_mmin_long hC.1 hC.2.1 (by rw [hC.2.2.1]; exact hL.1.symm) hC.2.2.2.1 (hC.word hl) (hC.word hst) (hC.word hini) (hC.word hco) (by omega) (by omega) (by omega) (by omega) hd (by rw [hv]; exact kk p l e R s m args below meth c0 H locs cells slots Qf ls hG hC hL hP h1 h2 h3 h4 hQ)
end EVB
