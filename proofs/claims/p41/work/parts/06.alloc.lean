/-! new cells; old arrays; texts; the machine's own functions -/
theorem zAO2.moved {u U : State} (hvm : u.vm.Alike U.vm) (h : zAO2 u) : zAO2 U := Jvm.Stand.arrayOver_alikeB hvm h
/-- a new row of ints with these numbers -/
def zNA (μ : zM) (N : Nat) (f : Nat → Int32) : zM := zA (zN μ (0, N)) (zn μ) f
theorem zk_zN {μ : zM} {kd : Nat × Nat} : zk (zN μ kd) (zn μ) = kd := if_pos rfl
theorem zk_zN_ne {μ : zM} {kd : Nat × Nat} {b : Nat} (h : b ≠ zn μ) : zk (zN μ kd) b = zk μ b := if_neg h
theorem zi_zN {μ : zM} {kd : Nat × Nat} : zi (zN μ kd) (zn μ) = fun _ => 0 := if_pos rfl
theorem zi_zN_ne {μ : zM} {kd : Nat × Nat} {b : Nat} (h : b ≠ zn μ) : zi (zN μ kd) b = zi μ b := if_neg h
theorem zr_zN {μ : zM} {kd : Nat × Nat} : zr (zN μ kd) (zn μ) = fun _ => none := if_pos rfl
theorem zr_zN_ne {μ : zM} {kd : Nat × Nat} {b : Nat} (h : b ≠ zn μ) : zr (zN μ kd) b = zr μ b := if_neg h
theorem zE_zN {w : zW} {μ : zM} {kd : Nat × Nat} {b : Nat} (h : b ≠ zn μ) : zE w (zN μ kd) b = zE w μ b := by
  have e1 : zi (zN μ kd) b = zi μ b := zi_zN_ne h
  have e2 : zk (zN μ kd) b = zk μ b := zk_zN_ne h
  have e3 : zr (zN μ kd) b = zr μ b := zr_zN_ne h
  unfold zE zv zrr
  rw [e1, e2, e3]
theorem zE_zNA {w : zW} {μ : zM} {N : Nat} {f : Nat → Int32} {b : Nat} (h : b ≠ zn μ) : zE w (zNA μ N f) b = zE w μ b := (zE_zA h).trans (zE_zN h)
theorem zE_zNA_new {w : zW} {μ : zM} {N : Nat} {f : Nat → Int32} : zE w (zNA μ N f) (zn μ) = .inl (zcA w 0, N, .inl f) := by
  have e : zk (zNA μ N f) (zn μ) = (0, N) := zk_zN (kd := (0, N))
  rw [zE_int (by rw [e]), e, show zi (zNA μ N f) (zn μ) = f from zi_zA]
theorem zcls_int {w : zW} {s : State} (hG : zGF w) (hF : zFr w s) {cA : ClassId} (h : s.vm.findClass ("[" ++ FieldType.int.toString) = some cA) : cA = zcA w 0 := by
  have h1 := ((zKs hG hF).2 0 _ rfl).2
  have h2 : s.vm.findClass ("[" ++ FieldType.int.toString) = some (zcA w 0) := h1
  exact Option.some.inj (h.symm.trans h2)
theorem zcls_byt {w : zW} {s : State} (hG : zGF w) (hF : zFr w s) {cA : ClassId} (h : s.vm.findClass ("[" ++ FieldType.byte.toString) = some cA) : cA = zcA w 6 := by
  have h1 := ((zKs hG hF).2 6 _ rfl).2
  have h2 : s.vm.findClass ("[" ++ FieldType.byte.toString) = some (zcA w 6) := h1
  exact Option.some.inj (h.symm.trans h2)
theorem zcls_lng {w : zW} {s : State} (hG : zGF w) (hF : zFr w s) {cA : ClassId} (h : s.vm.findClass ("[" ++ FieldType.long.toString) = some cA) : cA = zcA w 7 := by
  have h1 := ((zKs hG hF).2 7 _ rfl).2
  have h2 : s.vm.findClass ("[" ++ FieldType.long.toString) = some (zcA w 7) := h1
  exact Option.some.inj (h.symm.trans h2)
theorem zdef : ∀ c, c < 14 → ∀ k, k < zNf c → defaultValue (zty c k) = if zfl c k = true then Value.null else .int 0 := by decide +kernel
section ZCP
variable {p : Program} {l : Launch} {e : Env} {R : Room} {s : State} {m : MethodId} {args : Array Value} {below : List Frame} {meth : Method} {c : Code} {H : Heap} {locs : List Loc} {cells slots : Nat} {Q : State → Prop}
variable {pc : Nat} {ls : Array Slot} {rest : List Value} {D : va_G} {cl : List vw_C} {A : Nat → Prop} {a : Nat} {tys : List (ClassId × FieldType)} {ws : va_W} {H0 : Heap}
theorem zcopy_row {cc : ByteArray} (hexec : p.tables.exec = Jvm.exec) (hb : c.code = cc) (hml : c.maxLocals = ls.size) {own : String} {index : Nat} (hown : s.vm.findClass own = some m.cls) (hlink : (Cond.methodLink own index arraycopyName).before args s = true) (hnat : (Cond.native arraycopyName).before args s = true) (hstat : (Cond.static arraycopyName).before args s = true) (hini : (Cond.initialized "java/lang/System").before args s = true)
    (hK : va_K D cl tys s) (hP : va_P D cl ws H) (hD : va_D A ws) (hS : va_S A H0 H locs) (q0 q1 t0 t1 : Nat) {a0 : Nat} {c0 c1 : ClassId} {n0 n1 : Nat} {f g : Nat → Int32} {ty : FieldType} (ha0 : ws[q0]? = some (a0, .inl (c0, n0, .inl f))) (ha1 : ws[q1]? = some (a, .inl (c1, n1, .inl g))) (ht0 : tys[t0]? = some (c0, ty)) (ht1 : tys[t1]? = some (c1, ty)) (hprim : refKind ty = false)
    {sp dp n : Int32} (h1 : ¬ sp < 0) (h2 : ¬ dp < 0) (h3 : ¬ n < 0) (h4 : sp.toNatClampNeg + n.toNatClampNeg ≤ n0) (h5 : dp.toNatClampNeg + n.toNatClampNeg ≤ n1) (hfit : ∀ i, i < n.toNatClampNeg → fits ty (.int (f (sp.toNatClampNeg + i))) = true)
    (hframes : 1 ≤ R.frames) (hlocals : (rest.map fun v => v.category).sum + (nativeFrameWords "java/lang/System" "arraycopy" 5 + 11) ≤ R.locals) (hdg : decode cc pc = .ok (.invokestatic index, 3))
    (kk : ∀ (H1 : Heap) (locs1 : List Loc), H1.size = H.size → va_P D cl (ws.set q1 (a, .inl (c1, n1, .inl (va_cpy f g sp.toNatClampNeg dp.toNatClampNeg n.toNatClampNeg)))) H1 → va_D A (ws.set q1 (a, .inl (c1, n1, .inl (va_cpy f g sp.toNatClampNeg dp.toNatClampNeg n.toNatClampNeg)))) → va_S A H0 H1 locs1 → W p l e R s m args below meth c H1 locs1 cells slots Q (F0 m (pc + 3) ls rest)) : W p l e R s m args below meth c H locs cells slots Q (F0 m pc ls (.int n :: .int dp :: .ref a :: .int sp :: .ref a0 :: rest)) := by
  have nn : ∀ z : Int32, ¬ z < 0 → z.toInt = (z.toNatClampNeg : Int) := by
    intro z hz
    have hz0 : (0 : Int) ≤ z.toInt := by
      have := Int32.not_lt.mp hz
      simpa using Int32.le_iff_toInt_le.mp this
    show z.toInt = ((z.toInt.toNat : Nat) : Int)
    omega
  intro T hT X
  have hc0 : H[a0]? = some (vp_cell c0 (n0, .inl f)) := hP q0 _ ha0
  have hc1 : H[a]? = some (vp_cell c1 (n1, .inl g)) := hP q1 _ ha1
  obtain ⟨-, k0, hk0, cm0, hkk0⟩ := (hK.2 t0 _ ht0).1 n0 (fun j => .int (f j))
  obtain ⟨-, k1, hk1, cm1, hkk1⟩ := (hK.2 t1 _ ht1).1 n1 (fun j => .int (g j))
  obtain ⟨vm', X', step⟩ := X.arraycopy hexec hown hlink hnat hstat hini (src := a0) (dst := a) (cs := vp_cell c0 (n0, .inl f)) (cd := vp_cell c1 (n1, .inl g)) (srcPos := sp) (destPos := dp) (n := n) (by rw [hT]; exact hc0) (by rw [hT]; exact hc1)
    (fun _ h => by cases h) (fun _ h => by cases h) (fun h => by cases h) (fun h => by cases h) hk0 hk1 hkk0 hkk1 (by simp [hprim]) h1 h2 h3
    (by rw [nn sp h1, nn n h3]; show ¬ _ > ((arrV c0 n0 (fun j => .int (f j))).slots.size : Int); rw [arrV_size]; omega)
    (by rw [nn dp h2, nn n h3]; show ¬ _ > ((arrV c1 n1 (fun j => .int (g j))).slots.size : Int); rw [arrV_size]; omega)
    (fun vm₁ _ i hi => by
      have e : (vp_cell c0 (n0, .inl f)).slots.getD (sp.toNatClampNeg + i) .null = .int (f (sp.toNatClampNeg + i)) := by
        show (arrV c0 n0 (fun j => .int (f j))).slots.getD _ _ = _
        rw [Array.getD_eq_getD_getElem?, arrV_read _ _ (by omega)]
        rfl
      refine ⟨?_, ?_⟩
      · rw [e]
        exact hfit i hi
      · rw [e]
        exact trivial)
    (g := F0 m pc ls (.int n :: .int dp :: .ref a :: .int sp :: .ref a0 :: rest)) rfl (by rw [hml]) (rest := rest) rfl (by rw [hb]; exact hdg) hframes (by show 2 * 0 + _ + _ ≤ _; omega)
  have e1 : copied (vp_cell c0 (n0, .inl f)) (vp_cell c1 (n1, .inl g)) sp dp n = vp_cell c1 (n1, .inl (va_cpy f g sp.toNatClampNeg dp.toNatClampNeg n.toNatClampNeg)) := va_copied (fun z => .int z) c0 c1 f g h4
  rw [e1] at X' step
  have hl : a < H.size := (Array.getElem?_eq_some_iff.mp hc1).1
  have hheap : ((T.setVm vm').setCell a (vp_cell c1 (n1, .inl (va_cpy f g sp.toNatClampNeg dp.toNatClampNeg n.toNatClampNeg)))).heap = H.setIfInBounds a (vp_cell c1 (n1, .inl (va_cpy f g sp.toNatClampNeg dp.toNatClampNeg n.toNatClampNeg))) := by rw [← hT]; rfl
  have oq : ∀ q : Nat, q ≠ a → (H.setIfInBounds a (vp_cell c1 (n1, .inl (va_cpy f g sp.toNatClampNeg dp.toNatClampNeg n.toNatClampNeg))))[q]? = H[q]? := fun q hq => by simp [Array.getElem?_setIfInBounds, Ne.symm hq]
  obtain ⟨t, a1, b1⟩ := kk _ _ (by simp) (hP.set hD ha1 (show (H.setIfInBounds a _)[a]? = some _ by simp [Array.getElem?_setIfInBounds, hl]) oq) (hD.set ha1) ⟨by simp; exact hS.1, fun q g1 g2 => by
      rw [oq q (fun e => g2 (by rw [e]; exact hD.2 q1 _ ha1))]
      exact hS.2.1 q g1 g2, fun q hq => by
      rcases List.mem_append.mp hq with h | h
      · exact hS.2.2 q h
      · obtain ⟨z, -, hz⟩ := List.mem_map.mp h
        rw [← hz]
        exact hD.2 q1 _ ha1⟩ _ hheap X'
  exact ⟨t, step t a1, b1⟩
theorem zcopy_x {cc : ByteArray} (hexec : p.tables.exec = Jvm.exec) (hb : c.code = cc) (hml : c.maxLocals = ls.size) {own : String} {index : Nat} (hown : s.vm.findClass own = some m.cls) (hlink : (Cond.methodLink own index arraycopyName).before args s = true) (hnat : (Cond.native arraycopyName).before args s = true) (hstat : (Cond.static arraycopyName).before args s = true) (hini : (Cond.initialized "java/lang/System").before args s = true)
    (hK : va_K D cl tys s) (hP : va_P D cl ws H) (hD : va_D A ws) (hS : va_S A H0 H locs) (q1 t1 : Nat) {a0 : Nat} {cs : Cell} {c1 : ClassId} {n0 n1 : Nat} {f g : Nat → Int32} {ty : FieldType} (hc0 : H[a0]? = some cs) (harr : s.isArrayOf cs ty) (hkn : cs.vm ≠ .unknown) (hsz : n0 ≤ cs.slots.size) (hsl : ∀ j, j < n0 → cs.slots[j]? = some (.int (f j))) (ha1 : ws[q1]? = some (a, .inl (c1, n1, .inl g))) (ht1 : tys[t1]? = some (c1, ty)) (hprim : refKind ty = false)
    {sp dp n : Int32} (h1 : ¬ sp < 0) (h2 : ¬ dp < 0) (h3 : ¬ n < 0) (h4 : sp.toNatClampNeg + n.toNatClampNeg ≤ n0) (h5 : dp.toNatClampNeg + n.toNatClampNeg ≤ n1) (hfit : ∀ i, i < n.toNatClampNeg → fits ty (.int (f (sp.toNatClampNeg + i))) = true)
    (hframes : 1 ≤ R.frames) (hlocals : (rest.map fun v => v.category).sum + (nativeFrameWords "java/lang/System" "arraycopy" 5 + 11) ≤ R.locals) (hdg : decode cc pc = .ok (.invokestatic index, 3))
    (kk : ∀ (H1 : Heap) (locs1 : List Loc), H1.size = H.size → va_P D cl (ws.set q1 (a, .inl (c1, n1, .inl (va_cpy f g sp.toNatClampNeg dp.toNatClampNeg n.toNatClampNeg)))) H1 → va_D A (ws.set q1 (a, .inl (c1, n1, .inl (va_cpy f g sp.toNatClampNeg dp.toNatClampNeg n.toNatClampNeg)))) → va_S A H0 H1 locs1 → W p l e R s m args below meth c H1 locs1 cells slots Q (F0 m (pc + 3) ls rest)) : W p l e R s m args below meth c H locs cells slots Q (F0 m pc ls (.int n :: .int dp :: .ref a :: .int sp :: .ref a0 :: rest)) := by
  have nn : ∀ z : Int32, ¬ z < 0 → z.toInt = (z.toNatClampNeg : Int) := by
    intro z hz
    have hz0 : (0 : Int) ≤ z.toInt := by
      have := Int32.not_lt.mp hz
      simpa using Int32.le_iff_toInt_le.mp this
    show z.toInt = ((z.toInt.toNat : Nat) : Int)
    omega
  intro T hT X
  have hc1 : H[a]? = some (vp_cell c1 (n1, .inl g)) := hP q1 _ ha1
  obtain ⟨hst0, k0, hk0, cm0, hkk0⟩ := harr
  obtain ⟨-, k1, hk1, cm1, hkk1⟩ := (hK.2 t1 _ ht1).1 n1 (fun j => .int (g j))
  obtain ⟨vm', X', step⟩ := X.arraycopy hexec hown hlink hnat hstat hini (src := a0) (dst := a) (cs := cs) (cd := vp_cell c1 (n1, .inl g)) (srcPos := sp) (destPos := dp) (n := n) (by rw [hT]; exact hc0) (by rw [hT]; exact hc1)
    hst0 (fun _ h => by cases h) hkn (fun h => by cases h) hk0 hk1 hkk0 hkk1 (by simp [hprim]) h1 h2 h3
    (by rw [nn sp h1, nn n h3]; omega)
    (by rw [nn dp h2, nn n h3]; show ¬ _ > ((arrV c1 n1 (fun j => .int (g j))).slots.size : Int); rw [arrV_size]; omega)
    (fun vm₁ _ i hi => by
      have e : cs.slots.getD (sp.toNatClampNeg + i) .null = .int (f (sp.toNatClampNeg + i)) := by
        rw [Array.getD_eq_getD_getElem?, hsl _ (by omega)]
        rfl
      refine ⟨?_, ?_⟩
      · rw [e]
        exact hfit i hi
      · rw [e]
        exact trivial)
    (g := F0 m pc ls (.int n :: .int dp :: .ref a :: .int sp :: .ref a0 :: rest)) rfl (by rw [hml]) (rest := rest) rfl (by rw [hb]; exact hdg) hframes (by show 2 * 0 + _ + _ ≤ _; omega)
  have e1 : copied cs (vp_cell c1 (n1, .inl g)) sp dp n = vp_cell c1 (n1, .inl (va_cpy f g sp.toNatClampNeg dp.toNatClampNeg n.toNatClampNeg)) := va_copiedX (fun z => .int z) cs c1 f g hsl h4
  rw [e1] at X' step
  have hl : a < H.size := (Array.getElem?_eq_some_iff.mp hc1).1
  have hheap : ((T.setVm vm').setCell a (vp_cell c1 (n1, .inl (va_cpy f g sp.toNatClampNeg dp.toNatClampNeg n.toNatClampNeg)))).heap = H.setIfInBounds a (vp_cell c1 (n1, .inl (va_cpy f g sp.toNatClampNeg dp.toNatClampNeg n.toNatClampNeg))) := by rw [← hT]; rfl
  have oq : ∀ q : Nat, q ≠ a → (H.setIfInBounds a (vp_cell c1 (n1, .inl (va_cpy f g sp.toNatClampNeg dp.toNatClampNeg n.toNatClampNeg))))[q]? = H[q]? := fun q hq => by simp [Array.getElem?_setIfInBounds, Ne.symm hq]
  obtain ⟨t, a1, b1⟩ := kk _ _ (by simp) (hP.set hD ha1 (show (H.setIfInBounds a _)[a]? = some _ by simp [Array.getElem?_setIfInBounds, hl]) oq) (hD.set ha1) ⟨by simp; exact hS.1, fun q g1 g2 => by
      rw [oq q (fun e => g2 (by rw [e]; exact hD.2 q1 _ ha1))]
      exact hS.2.1 q g1 g2, fun q hq => by
      rcases List.mem_append.mp hq with h | h
      · exact hS.2.2 q h
      · obtain ⟨z, -, hz⟩ := List.mem_map.mp h
        rw [← hz]
        exact hD.2 q1 _ ha1⟩ _ hheap X'
  exact ⟨t, step t a1, b1⟩
end ZCP
section EVA
variable {w : zW} {d kc ks : Nat} {y : zY} {pc : Nat} {L : List (Option Value)} {st : List Value} {μ : zM} {Q Q' : Option Value → zM → Prop}
theorem ev_new {idx c : Nat} (hd : decode y.2.1 pc = .ok (.new idx, 3)) (hc : c < 14) (hcl : Cond.classLink y.1.cls idx (zRf c) ∈ zGT) (hins : Cond.instantiable (zRf c) (zNf c) ∈ zGT) (hini : Cond.initialized (zRf c) ∈ zGT) (hs : ∀ k, zst w (zn μ) k = none) (hr : zrl (zn μ))
    (kk : EV w d kc ks y (pc + 3) L (.ref (zn μ) :: st) (zN μ (16 + c, 0)) Q) : EV w d (kc + 1) (ks + zNf c) y pc L st μ Q := by
  intro p l e R s m args below meth c0 H locs cells slots Qf ls hG hC hL hP h1 h2 h3 h4 hQ
  have hK := zKs hG hC.fr
  have hKn := hK.1 c _ (zcl_at c hc)
  refine W.newcK hC.1 hC.2.1 hC.2.2.2.1 (hC.word hcl) (hC.word hins) (hC.word hini) rfl hd (by omega) (by omega) hKn.2.1 (hP.top hr) fun H1 kC hkC e1 z1 o1 => ?_
  have hk : zk (zN μ (16 + c, 0)) (zn μ) = (16 + c, 0) := zk_zN
  refine kk p l e R s m args below meth c0 H1 locs (cells + 1) (slots + zNf c) Qf ls hG hC hL (hP.push (μ' := zN μ (16 + c, 0)) hr rfl (fun b hb => zE_zN (by omega)) ?_ (by rw [z1, (hP.top hr)]) (fun q hq => o1 q (by rw [← (hP.top hr)]; exact hq))) h1 h2 (by omega) (by omega) (fun v μ' H' locs' cells' slots' pc' ls' q r a b t => hQ v μ' H' locs' cells' slots' pc' ls' q r (by omega) (by omega) t)
  rw [zE_obj (by rw [hk])]
  refine ⟨_, zcl_at c hc, (u_born (zty c) hC.2.2.2.2.1 (zuw c hc) hKn hkC e1 (zty_ok c hc)).to fun j hj => ?_⟩
  show _ = ((List.range (zNf c)).map (zv w (zN μ (16 + c, 0)) (zn μ) c)).getD j .null
  rw [List.getD_eq_getElem?_getD, zfs_at hj]
  unfold zv zrr
  rw [hs, zr_zN, zi_zN]
  rw [zdef c hc j hj]
  cases zfl c j <;> rfl
theorem ev_newI {n : Int32} {N : Nat} (hd : decode y.2.1 pc = .ok (.newarray .int, 2)) (hw : Cond.arrayClass .int ∈ zGT) (hn : ¬ n < 0) (hN : n.toNatClampNeg = N) (hb : N ≤ 100000000) (hr : zrl (zn μ))
    (kk : EV w d kc ks y (pc + 2) L (.ref (zn μ) :: st) (zNA μ N (fun _ => 0)) Q) : EV w d (kc + 1) (ks + N) y pc L (.int n :: st) μ Q := by
  intro p l e R s m args below meth c0 H locs cells slots Qf ls hG hC hL hP h1 h2 h3 h4 hQ
  refine va_newaK hC.1 hC.2.1 (atype := .int) (hC.word hw) rfl hd rfl hn hN (show N * 4 ≤ 536870912 by omega) (by omega) (by omega) (hP.top hr) fun H1 cA e1 z1 o1 hAr hNm => ?_
  have hcA : cA = zcA w 0 := zcls_int hG hC.fr hNm
  subst hcA
  refine kk p l e R s m args below meth c0 H1 locs (cells + 1) (slots + N) Qf ls hG hC hL (hP.push (μ' := zNA μ N (fun _ => 0)) hr rfl (fun b hb => zE_zNA (by omega)) ?_ (by rw [z1, (hP.top hr)]) (fun q hq => o1 q (by rw [← (hP.top hr)]; exact hq))) h1 h2 (by omega) (by omega) (fun v μ' H' locs' cells' slots' pc' ls' q r a b t => hQ v μ' H' locs' cells' slots' pc' ls' q r (by omega) (by omega) t)
  rw [zE_zNA_new]
  exact e1
/-- new C[n] -/
theorem ev_newQ {n : Int32} {N idx j : Nat} {C : String} (hd : decode y.2.1 pc = .ok (.anewarray idx, 3)) (hj0 : 0 < j) (hj : j < 6) (hC0 : C ∈ [RX10, RX3, RX6, RX2]) (hjC : ∀ w : zW, (zT w)[j]? = some (zcA w j, .object C)) (hcl : Cond.classLink y.1.cls idx C ∈ zGT) (hn : ¬ n < 0) (hN : n.toNatClampNeg = N) (hb : N ≤ 100000000) (hs : ∀ k, zst w (zn μ) k = none) (hr : zrl (zn μ))
    (kk : EV w d kc ks y (pc + 3) L (.ref (zn μ) :: st) (zN μ (j, N)) Q) : EV w d (kc + 1) (ks + N) y pc L (.int n :: st) μ Q := by
  subst hN
  intro p l e R s m args below meth c0 H locs cells slots Qf ls hG hC hL hP h1 h2 h3 h4 hQ
  have hao : va_AO C s := (hG.2.2.2.2.2.2.2.1 C hC0).moved hC.fr.1
  refine W.anew hC.1 hC.2.1 hC.2.2.2.1 (hC.word hcl) (va_AO.use hao) rfl hd rfl hn (by omega) (by omega) (by omega) fun cA kA comp f1 f2 f3 f4 => ?_
  have hra := ((zKs hG hC.fr).2 j _ (hjC w)).2
  obtain ⟨kA', comp', g1, g2, g3, g4⟩ := hra
  have hcA : cA = zcA w j := Option.some.inj (f1.symm.trans g4)
  subst hcA
  generalize hH1 : H.push ({ cls := zcA w j, slots := Array.replicate n.toNatClampNeg .null, vm := .none } : Cell) = H1
  have z1 : H1.size = H.size + 1 := by rw [← hH1, Array.size_push]
  have e1 : H1[H.size]? = some (arrV (zcA w j) n.toNatClampNeg (fun _ => .null)) := by rw [← hH1, Array.getElem?_push_size, ← arrV_new]
  have o1 : ∀ q : Nat, q < H.size → H1[q]? = H[q]? := fun q hq => by rw [← hH1, Array.getElem?_push, if_neg (Nat.ne_of_lt hq)]
  have hkd : zk (zN μ (j, n.toNatClampNeg)) (zn μ) = (j, n.toNatClampNeg) := zk_zN
  have key := kk p l e R s m args below meth c0 H1 locs (cells + 1) (slots + n.toNatClampNeg) Qf ls hG hC hL (hP.push (μ' := zN μ (j, n.toNatClampNeg)) hr rfl (fun b hb => zE_zN (by omega)) ?_ z1 o1) h1 h2 (by omega) (by omega) (fun v μ' H' locs' cells' slots' pc' ls' q r a b t => hQ v μ' H' locs' cells' slots' pc' ls' q r (by omega) (by omega) t)
  · have e : Array.size H = zad w (zn μ) := (hP.top hr)
    rw [e]
    exact key
  · rw [zE_ref (j := j) (by rw [hkd]) hj0 (by omega), hkd]
    show H1[zad w (zn μ)]? = some (vp_cell _ _)
    rw [← (hP.top hr), e1, vp_cell_q]
    congr 2
    funext k
    unfold zrr
    rw [hs, zr_zN]
    rfl
/-- a reference into a row of its class (or its class's superclass) -/
theorem ev_aast {a j b c c2 : Nat} {i : Int32} (hd : decode y.2.1 pc = .ok (.aastore, 1)) (ha : zHas μ.1 μ.2.1 a j) (h0 : 0 < j) (h6 : j < 6) (hb : zHas μ.1 μ.2.1 b (16 + c)) (hc : c < 14) (hc2 : c2 < 14) (hjC : ∀ w : zW, (zT w)[j]? = some (zcA w j, .object (zRf c2))) (hcc : c = c2 ∨ Cond.castable (zRf c) (zRf c2) ∈ zNw) (hs : zst w a i.toNatClampNeg = none) (hin : vp_in i (μ.2.1 a).2)
    (kk : EV w d kc ks y (pc + 1) L st (zR μ a i.toNatClampNeg (some b)) Q) : EV w d kc ks y pc L (.ref b :: .int i :: .ref a :: st) μ Q := by
  intro p l e R s m args below meth c0 H locs cells slots Qf ls hG hC hL hP h1 h2 h3 h4 hQ
  have hK := zKs hG hC.fr
  have hlt : i.toNatClampNeg < (μ.2.1 a).2 := Nat.not_le.mp fun q => hin (Or.inr q)
  have h00 : ¬ i < 0 := fun q => hin (Or.inl q)
  have hat := hP.at ha.1 ha.2.1
  rw [zE_ref ha.2.2 h0 (by omega)] at hat
  have hbt := hP.at hb.1 hb.2.1
  rw [zE_obj hb.2.2] at hbt
  obtain ⟨r', hr', cellV, g1, g2, g3, -⟩ := hbt
  have hcls := (hK.1 c _ (zcl_at c hc)).2
  have hcls2 := (hK.1 c2 _ (zcl_at c2 hc2)).2
  obtain ⟨kA, comp, k1, k2, k3, -⟩ := (hK.2 j _ (hjC w)).2
  have hcomp : comp = (zD w).1 c2 := Option.some.inj (k3.symm.trans hcls2.1)
  subst hcomp
  obtain ⟨kC, hkC, -⟩ := hcls.2
  obtain ⟨kC2, hkC2, -⟩ := hcls2.2
  have hasg : s.vm.assignable ((zD w).1 c) ((zD w).1 c2) = true := by
    rcases hcc with e | e
    · subst e
      exact va_assign hcls
    · obtain ⟨x1, x2, f1, f2, f3⟩ := Cond.castable_spec (va_Nw.use (A := args) rfl (hC.fr.2.2.2.2 _ e))
      cases hcls.1.symm.trans f1
      cases hcls2.1.symm.trans f2
      exact f3
  refine W.aast hC.1 hC.2.1 (cell := vp_cell (zcA w j) ((μ.2.1 a).2, .inr (.inr (.inr (.inr (fun k => (zrr w μ a k).map (zad w))))))) hat (fun q h => by cases h) (fun h => by cases h) k1 k2 rfl hkC2 ⟨h00, by show _ < (arrV _ _ _).slots.size; rw [arrV_size]; exact hlt⟩ g1 (fun q h => by rw [g3] at h; cases h) (by rw [g2]; exact hkC) (by rw [g2]; exact hasg) rfl rfl hd fun H1 x1 x2 x3 => ?_
  refine kk p l e R s m args below meth c0 H1 _ cells slots Qf ls hG hC hL (hP.put (μ' := zR μ a i.toNatClampNeg (some b)) ha.1 ha.2.1 rfl (fun q hq => zE_zR hq) ?_ x2 x3) h1 h2 h3 h4 hQ
  rw [zE_ref (j := j) (show (zk (zR μ a i.toNatClampNeg (some b)) a).1 = j from ha.2.2) h0 (by omega)]
  show H1[zad w a]? = some (vp_cell _ _)
  rw [x1, vp_cell_q, vp_cell_q, arrV_store]
  show some (arrV _ (μ.2.1 a).2 _) = some (arrV _ (μ.2.1 a).2 _)
  congr 2
  funext q
  unfold zrr
  rw [zr_zR]
  by_cases hq : q = i.toNatClampNeg
  · subst hq
    simp [updV, va_up, va_rf, hs]
  · simp only [updV, va_up, hq, if_false]
/-- clone of a row of ints -/
theorem ev_clone {a idx N : Nat} {f : Nat → Int32} (hd : decode y.2.1 pc = .ok (.invokevirtual idx, 3)) (hl : Cond.methodLink y.1.cls idx ⟨"[I", "clone", "()Ljava/lang/Object;"⟩ ∈ zGT) (hsm : Cond.sameMethod "[I" "java/lang/Object" "clone" "()Ljava/lang/Object;" ∈ zGT) (hna : Cond.native ⟨"java/lang/Object", "clone", "()Ljava/lang/Object;"⟩ ∈ zGT) (hin : Cond.instanceMethod ⟨"java/lang/Object", "clone", "()Ljava/lang/Object;"⟩ ∈ zGT) (hse : Cond.selects "[I" ⟨"[I", "clone", "()Ljava/lang/Object;"⟩ ⟨"java/lang/Object", "clone", "()Ljava/lang/Object;"⟩ ∈ zGT)
    (hrl : zrl (zn μ)) (hd1 : 1 ≤ d) (hr : (st.map fun v => v.category).sum ≤ 8) (hsrc : ∀ (s : State) (H : Heap) (locs : List Loc), zGF w → zFr w s → zRp w s μ H locs → ∃ cell : Cell, H[zad w a]? = some cell ∧ cell.cls = zcA w 0 ∧ cell.vm ≠ .unknown ∧ (∀ k, cell.vm ≠ .statics k) ∧ cell.slots.size = N ∧ ∀ j : Nat, j < N → cell.slots[j]? = some (.int (f j)))
    (kk : EV w d kc ks y (pc + 3) L (.ref (zn μ) :: st) (zNA μ N f) Q) : EV w d (kc + 1) (ks + N) y pc L (.ref a :: st) μ Q := by
  intro p l e R s m args below meth c0 H locs cells slots Qf ls hG hC hL hP h1 h2 h3 h4 hQ T hT X
  have hK := zKs hG hC.fr
  obtain ⟨cell, q1, q2, q3, q4, q5, q6⟩ := hsrc s H locs hG hC.fr hP
  have hnm : s.vm.findClass "[I" = some (zcA w 0) := (hK.2 0 _ rfl).2
  obtain ⟨c1, t1, f1, f2, f3⟩ := Cond.castable_spec (va_Nw.use (A := args) rfl (hC.fr.2.2.2.2 (.castable "[I" "java/lang/Cloneable") (by simp [zNw])))
  cases hnm.symm.trans f1
  obtain ⟨-, kA, hkA, comp, hkind⟩ := State.isArrayOf_alike X.warmed.alike ((hK.2 0 _ rfl).1 0 (fun _ => .null))
  obtain ⟨-, kS, hkS, compS, hkindS⟩ := (hK.2 0 _ rfl).1 0 (fun _ => .null)
  obtain ⟨vm', X', stp⟩ := X.cloneArray hC.1 hC.2.2.2.1 (hC.word hl) (hC.word hsm) (hC.word hna) (hC.word hin) (hC.word hse) (a := zad w a) (cell := cell) (by rw [hT]; exact q1) q4 q3 (by rw [q2]; exact hnm) f2 (by rw [q2]; exact f3)
    (fun i v hv => by
      rw [q2]
      have hk' : T.vm.classes[zcA w 0]? = some kA := hkA
      have hi : i < N := by rw [← q5]; exact (Array.getElem?_eq_some_iff.mp hv).1
      rw [q6 i hi] at hv
      cases hv
      simp [State.fitsSlot, State.slotType?, hk', hkind, fits])
    (g := F0 m pc ls (.ref (zad w a) :: st.map (zva w))) rfl (by rw [hC.2.2.1]; exact hL.1) rfl (by rw [hC.2.1]; exact hd) (by omega) (by have := zrest (pc := pc) w (m := m) (ls := ls) (st := st) hr; show 2 * 0 + _ + 14 ≤ _; have e : 2 * (F0 m pc ls (st.map (zva w))).monitorRoom = 0 := rfl; omega) (by omega) (by rw [q5]; omega) (hloader := by rw [q2]; exact Vm.clonesLoader_of_array hkS hkindS)
  have hce : ({ cls := cell.cls, slots := cell.slots } : Cell) = vp_cell (zcA w 0) (N, .inl f) := by
    rw [q2, vp_cell_i]
    have hsl : cell.slots = (arrV (zcA w 0) N (fun j => .int (f j))).slots := by
      apply Array.ext_getElem?
      intro i
      by_cases hi : i < N
      · rw [q6 i hi, arrV_read _ _ hi]
      · rw [Array.getElem?_eq_none (by rw [q5]; omega), Array.getElem?_eq_none (by rw [arrV_size]; omega)]
    rw [hsl]
    rfl
  rw [hce, q5] at X'
  generalize hH1 : H.push (vp_cell (zcA w 0) (N, .inl f)) = H1
  have z1 : H1.size = H.size + 1 := by rw [← hH1, Array.size_push]
  have e1 : H1[H.size]? = some (vp_cell (zcA w 0) (N, .inl f)) := by rw [← hH1, Array.getElem?_push_size]
  have o1 : ∀ q : Nat, q < H.size → H1[q]? = H[q]? := fun q hq => by rw [← hH1, Array.getElem?_push, if_neg (Nat.ne_of_lt hq)]
  obtain ⟨t, b1, b2⟩ := kk p l e R s m args below meth c0 H1 locs (cells + 1) (slots + N) Qf ls hG hC hL (hP.push (μ' := zNA μ N f) hrl rfl (fun b hb => zE_zNA (by omega)) (by rw [zE_zNA_new, ← hP.top hrl]; exact e1) z1 o1) h1 h2 (by omega) (by omega) (fun v μ' H' locs' cells' slots' pc' ls' q r a b t => hQ v μ' H' locs' cells' slots' pc' ls' q r (by omega) (by omega) t)
    ((T.setVm vm').pushCell (vp_cell (zcA w 0) (N, .inl f))) (by rw [← hH1, ← hT]; rfl) X'
  refine ⟨t, stp t ?_, b2⟩
  rw [hce, hT, hP.top hrl]
  exact b1
theorem zsrc_row {a N : Nat} {f : Nat → Int32} (ha : zHas μ.1 μ.2.1 a 0) (hN : (μ.2.1 a).2 = N) (hf : zi μ a = f) : ∀ (s : State) (H : Heap) (locs : List Loc), zGF w → zFr w s → zRp w s μ H locs → ∃ cell : Cell, H[zad w a]? = some cell ∧ cell.cls = zcA w 0 ∧ cell.vm ≠ .unknown ∧ (∀ k, cell.vm ≠ .statics k) ∧ cell.slots.size = N ∧ ∀ j : Nat, j < N → cell.slots[j]? = some (.int (f j)) := by
  intro s H locs _ _ hP
  have hat := hP.at ha.1 ha.2.1
  rw [zE_int ha.2.2, show (zk μ a).2 = N from hN, hf] at hat
  exact ⟨_, hat, rfl, (fun h => by cases h), (fun k h => by cases h), arrV_size _ _ _, fun j hj => arrV_read _ _ hj⟩
theorem zsrc_old {i N : Nat} {f : Nat → Int32} (hi : i < 32) (h : zTc w i N f) : ∀ (s : State) (H : Heap) (locs : List Loc), zGF w → zFr w s → zRp w s μ H locs → ∃ cell : Cell, H[zad w i]? = some cell ∧ cell.cls = zcA w 0 ∧ cell.vm ≠ .unknown ∧ (∀ k, cell.vm ≠ .statics k) ∧ cell.slots.size = N ∧ ∀ j : Nat, j < N → cell.slots[j]? = some (.int (f j)) := by
  intro s H locs hG hF hP
  obtain ⟨cell, q1, q2⟩ := h
  have hl : zca w i < zb0 w := by rw [hG.1]; exact (Array.getElem?_eq_some_iff.mp q1).1
  refine ⟨cell, ?_, q2⟩
  rw [show zad w i = zca w i from if_pos hi, hP.2.2.1 _ (Nat.lt_of_lt_of_le hl hF.2.1) (fun z => absurd z (Nat.not_le.mpr hl)), hF.2.2.1 _ hl]
  exact q1
/-- (int[]) of a row of ints -/
theorem ev_castI {a idx : Nat} (hd : decode y.2.1 pc = .ok (.checkcast idx, 3)) (hcl : Cond.classLink y.1.cls idx "[I" ∈ zGT) (ha : zHas μ.1 μ.2.1 a 0) (kk : EV w d kc ks y (pc + 3) L (.ref a :: st) μ Q) : EV w d kc ks y pc L (.ref a :: st) μ Q := by
  intro p l e R s m args below meth c0 H locs cells slots Qf ls hG hC hL hP h1 h2 h3 h4 hQ
  have he := zWs_at w (μ := μ) ha.1 ha.2.1
  rw [zE_int ha.2.2] at he
  exact va_castA (D := zD w) hC.1 hC.2.1 hC.2.2.2.1 (hC.word hcl) (hP.p ha.2.1) (zix a) he (show s.vm.findClass "[I" = some (zcA w 0) from ((zKs hG hC.fr).2 0 _ rfl).2) hd (kk p l e R s m args below meth c0 H locs cells slots Qf ls hG hC hL hP h1 h2 h3 h4 hQ)
/-- System.arraycopy of ints -/
theorem ev_copy {a0 a idx : Nat} {sp dp n : Int32} (hd : decode y.2.1 pc = .ok (.invokestatic idx, 3)) (hl : Cond.methodLink y.1.cls idx arraycopyName ∈ zGT) (hna : Cond.native arraycopyName ∈ zGT) (hst : Cond.static arraycopyName ∈ zGT) (hini : Cond.initialized "java/lang/System" ∈ zGT) (ha0 : zHas μ.1 μ.2.1 a0 0) (ha : zHas μ.1 μ.2.1 a 0)
    (h1' : ¬ sp < 0) (h2' : ¬ dp < 0) (h3' : ¬ n < 0) (h4' : sp.toNatClampNeg + n.toNatClampNeg ≤ (μ.2.1 a0).2) (h5' : dp.toNatClampNeg + n.toNatClampNeg ≤ (μ.2.1 a).2) (hd1 : 1 ≤ d) (hr : (st.map fun v => v.category).sum ≤ 8) (hfw : nativeFrameWords "java/lang/System" "arraycopy" 5 ≤ 40)
    (kk : EV w d kc ks y (pc + 3) L st (zA μ a (va_cpy (zi μ a0) (zi μ a) sp.toNatClampNeg dp.toNatClampNeg n.toNatClampNeg)) Q) : EV w d kc ks y pc L (.int n :: .int dp :: .ref a :: .int sp :: .ref a0 :: st) μ Q := by
  intro p l e R s m args below meth c0 H locs cells slots Qf ls hG hC hL hP h1 h2 h3 h4 hQ
  have he0 := zWs_at w (μ := μ) ha0.1 ha0.2.1
  rw [zE_int ha0.2.2] at he0
  have he := zWs_at w (μ := μ) ha.1 ha.2.1
  rw [zE_int ha.2.2] at he
  have hrs := zrest (pc := pc) w (m := m) (ls := ls) (st := st) hr
  have e0 : 2 * (F0 m pc ls (st.map (zva w))).monitorRoom = 0 := rfl
  have key : ∀ (n1 : Nat) (H1 : Heap) (locs1 : List Loc), H1.size = H.size → va_P (zD w) vwCl ((zWs w μ).set (zix a) (zad w a, .inl (zcA w 0, (zk μ a).2, .inl (va_cpy (zi μ a0) (zi μ a) sp.toNatClampNeg dp.toNatClampNeg n.toNatClampNeg)))) H1 → va_S (zAq w) s.heap H1 locs1 → zRp w s (zA μ a (va_cpy (zi μ a0) (zi μ a) sp.toNatClampNeg dp.toNatClampNeg n.toNatClampNeg)) H1 locs1 := by
    intro n1 H1 locs1 hz p1 s1
    refine ⟨fun q => ⟨(hP.1 q).1, by rw [hz]; exact (hP.1 q).2.1, ?_⟩, s1⟩
    rw [← zWs_set w (μ := μ) (μ' := zA μ a (va_cpy (zi μ a0) (zi μ a) sp.toNatClampNeg dp.toNatClampNeg n.toNatClampNeg)) ha.1 ha.2.1 rfl (fun b hb => zE_zA hb), zE_int (show (zk (zA μ a _) a).1 = 0 from ha.2.2), zi_zA]
    exact p1
  exact zcopy_row hC.1 hC.2.1 (by rw [hC.2.2.1]; exact hL.1.symm) hC.2.2.2.1 (hC.word hl) (hC.word hna) (hC.word hst) (hC.word hini) (zKs hG hC.fr) (hP.p ha.2.1) (zWs_apart w μ) hP.2 (zix a0) (zix a) 0 0 he0 he rfl rfl rfl h1' h2' h3' h4' h5' (fun i hi => rfl) (by omega) (by omega) hd
    (fun H1 locs1 hz p1 _ s1 => kk p l e R s m args below meth c0 H1 locs1 cells slots Qf ls hG hC hL (key 0 H1 locs1 hz p1 s1) h1 h2 h3 h4 hQ)
/-! rows of bytes -/
theorem zE_zN_byt {w : zW} {μ : zM} {N : Nat} : zE w (zN μ (12, N)) (zn μ) = .inl (zcA w 6, N, .inl (fun _ => 0)) := by
  have e : zk (zN μ (12, N)) (zn μ) = (12, N) := zk_zN
  rw [zE_byt (by rw [e]), e, zi_zN]
theorem ev_newB {n : Int32} {N : Nat} (hd : decode y.2.1 pc = .ok (.newarray .byte, 2)) (hw : Cond.arrayClass .byte ∈ zGT) (hn : ¬ n < 0) (hN : n.toNatClampNeg = N) (hb : N ≤ 100000000) (hr : zrl (zn μ))
    (kk : EV w d kc ks y (pc + 2) L (.ref (zn μ) :: st) (zN μ (12, N)) Q) : EV w d (kc + 1) (ks + N) y pc L (.int n :: st) μ Q := by
  intro p l e R s m args below meth c0 H locs cells slots Qf ls hG hC hL hP h1 h2 h3 h4 hQ
  refine va_newaK hC.1 hC.2.1 (atype := .byte) (hC.word hw) rfl hd rfl hn hN (show N * 1 ≤ 536870912 by omega) (by omega) (by omega) (hP.top hr) fun H1 cA e1 z1 o1 hAr hNm => ?_
  have hcA : cA = zcA w 6 := zcls_byt hG hC.fr hNm
  subst hcA
  refine kk p l e R s m args below meth c0 H1 locs (cells + 1) (slots + N) Qf ls hG hC hL (hP.push (μ' := zN μ (12, N)) hr rfl (fun b hb => zE_zN (by omega)) ?_ (by rw [z1, hP.top hr]) (fun q hq => o1 q (by rw [← hP.top hr]; exact hq))) h1 h2 (by omega) (by omega) (fun v μ' H' locs' cells' slots' pc' ls' q r a b t => hQ v μ' H' locs' cells' slots' pc' ls' q r (by omega) (by omega) t)
  rw [zE_zN_byt]
  exact e1
theorem zE_zN_lng {w : zW} {μ : zM} {N : Nat} (hw : zhm w = none) : zE w (zHm (zN μ (14, N)) (zn μ) (fun _ => 0)) (zn μ) = .inl (zcA w 7, N, .inr (.inl (fun _ => 0))) := by
  have e : zk (zN μ (14, N)) (zn μ) = (14, N) := zk_zN
  rw [zE_lng (by rw [zHm_k, e]), zHm_k, e, zHm_i, zlg_pr hw]
theorem ev_newL {n : Int32} {N : Nat} (hh : zhm w = none) (hd : decode y.2.1 pc = .ok (.newarray .long, 2)) (hw : Cond.arrayClass .long ∈ zGT) (hn : ¬ n < 0) (hN : n.toNatClampNeg = N) (hb : N ≤ 10000000) (hr : zrl (zn μ))
    (kk : EV w d kc ks y (pc + 2) L (.ref (zn μ) :: st) (zHm (zN μ (14, N)) (zn μ) (fun _ => 0)) Q) : EV w d (kc + 1) (ks + N) y pc L (.int n :: st) μ Q := by
  intro p l e R s m args below meth c0 H locs cells slots Qf ls hG hC hL hP h1 h2 h3 h4 hQ
  refine va_newaK hC.1 hC.2.1 (atype := .long) (hC.word hw) rfl hd rfl hn hN (show N * 8 ≤ 536870912 by omega) (by omega) (by omega) (hP.top hr) fun H1 cA e1 z1 o1 hAr hNm => ?_
  have hcA : cA = zcA w 7 := zcls_lng hG hC.fr hNm
  subst hcA
  refine kk p l e R s m args below meth c0 H1 locs (cells + 1) (slots + N) Qf ls hG hC hL (hP.push (μ' := zHm (zN μ (14, N)) (zn μ) (fun _ => 0)) hr rfl (fun b hb => (zHm_E (by omega)).trans (zE_zN (by omega))) ?_ (by rw [z1, hP.top hr]) (fun q hq => o1 q (by rw [← hP.top hr]; exact hq))) h1 h2 (by omega) (by omega) (fun v μ' H' locs' cells' slots' pc' ls' q r a b t => hQ v μ' H' locs' cells' slots' pc' ls' q r (by omega) (by omega) t)
  rw [zE_zN_lng hh]
  exact e1
/-- where bytes may be copied from -/
def zSrc (w : zW) (μ : zM) (a0 N0 : Nat) (f : Nat → Int32) : Prop := ∀ (s : State) (H : Heap) (locs : List Loc), zGF w → zFr w s → zRp w s μ H locs → ∃ cs : Cell, H[zad w a0]? = some cs ∧ s.isArrayOf cs .byte ∧ cs.vm ≠ .unknown ∧ N0 ≤ cs.slots.size ∧ ∀ j, j < N0 → cs.slots[j]? = some (.int (f j))
theorem zSrc_row {a N : Nat} {f : Nat → Int32} (ha : zHas μ.1 μ.2.1 a 12) (hN : (μ.2.1 a).2 = N) (hf : zi μ a = f) : zSrc w μ a N f := by
  intro s H locs hG hF hP
  have hat := hP.at ha.1 ha.2.1
  rw [zE_byt ha.2.2, show (zk μ a).2 = N from hN, hf] at hat
  exact ⟨_, hat, ((zKs hG hF).2 6 _ rfl).1 _ (fun j => .int (f j)), (fun h => by cases h), Nat.le_of_eq (arrV_size _ _ _).symm, fun j hj => arrV_read _ _ hj⟩
/-- System.arraycopy of bytes -/
theorem ev_copyB {a0 a idx N0 : Nat} {f : Nat → Int32} {sp dp n : Int32} (hd : decode y.2.1 pc = .ok (.invokestatic idx, 3)) (hl : Cond.methodLink y.1.cls idx arraycopyName ∈ zGT) (hna : Cond.native arraycopyName ∈ zGT) (hst : Cond.static arraycopyName ∈ zGT) (hini : Cond.initialized "java/lang/System" ∈ zGT) (hsrc : zSrc w μ a0 N0 f) (ha : zHas μ.1 μ.2.1 a 12)
    (h1' : ¬ sp < 0) (h2' : ¬ dp < 0) (h3' : ¬ n < 0) (h4' : sp.toNatClampNeg + n.toNatClampNeg ≤ N0) (h5' : dp.toNatClampNeg + n.toNatClampNeg ≤ (μ.2.1 a).2) (hfit : ∀ i, i < n.toNatClampNeg → fits .byte (.int (f (sp.toNatClampNeg + i))) = true) (hd1 : 1 ≤ d) (hr : (st.map fun v => v.category).sum ≤ 8) (hfw : nativeFrameWords "java/lang/System" "arraycopy" 5 ≤ 40)
    (kk : EV w d kc ks y (pc + 3) L st (zA μ a (va_cpy f (zi μ a) sp.toNatClampNeg dp.toNatClampNeg n.toNatClampNeg)) Q) : EV w d kc ks y pc L (.int n :: .int dp :: .ref a :: .int sp :: .ref a0 :: st) μ Q := by
  intro p l e R s m args below meth c0 H locs cells slots Qf ls hG hC hL hP h1 h2 h3 h4 hQ
  obtain ⟨cs, q1, q2, q3, q4, q5⟩ := hsrc s H locs hG hC.fr hP
  have he := zWs_at w (μ := μ) ha.1 ha.2.1
  rw [zE_byt ha.2.2] at he
  have hrs := zrest (pc := pc) w (m := m) (ls := ls) (st := st) hr
  have e0 : 2 * (F0 m pc ls (st.map (zva w))).monitorRoom = 0 := rfl
  have key : ∀ (n1 : Nat) (H1 : Heap) (locs1 : List Loc), H1.size = H.size → va_P (zD w) vwCl ((zWs w μ).set (zix a) (zad w a, .inl (zcA w 6, (zk μ a).2, .inl (va_cpy f (zi μ a) sp.toNatClampNeg dp.toNatClampNeg n.toNatClampNeg)))) H1 → va_S (zAq w) s.heap H1 locs1 → zRp w s (zA μ a (va_cpy f (zi μ a) sp.toNatClampNeg dp.toNatClampNeg n.toNatClampNeg)) H1 locs1 := by
    intro n1 H1 locs1 hz p1 s1
    refine ⟨fun q => ⟨(hP.1 q).1, by rw [hz]; exact (hP.1 q).2.1, ?_⟩, s1⟩
    rw [← zWs_set w (μ := μ) (μ' := zA μ a (va_cpy f (zi μ a) sp.toNatClampNeg dp.toNatClampNeg n.toNatClampNeg)) ha.1 ha.2.1 rfl (fun b hb => zE_zA hb), zE_byt (show (zk (zA μ a _) a).1 = 12 from ha.2.2), zi_zA]
    exact p1
  exact zcopy_x hC.1 hC.2.1 (by rw [hC.2.2.1]; exact hL.1.symm) hC.2.2.2.1 (hC.word hl) (hC.word hna) (hC.word hst) (hC.word hini) (zKs hG hC.fr) (hP.p ha.2.1) (zWs_apart w μ) hP.2 (zix a) 6 q1 q2 q3 q4 q5 he rfl rfl h1' h2' h3' h4' h5' hfit (by omega) (by omega) hd
    (fun H1 locs1 hz p1 _ s1 => kk p l e R s m args below meth c0 H1 locs1 cells slots Qf ls hG hC hL (key 0 H1 locs1 hz p1 s1) h1 h2 h3 h4 hQ)
end EVA
