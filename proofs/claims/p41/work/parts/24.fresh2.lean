/-! new NineHeaps().run(600, 0), in a world of its own -/
theorem zNm0 (w : zW) (H : Heap) (hb : zb0 w = H.size) : zNm w (32, zD0, zI0, zR0) H := fun _ => ⟨⟨show 32 ≤ 32 by decide, Or.inl (show 32 ≤ 81 by decide)⟩, by rw [hb]; rfl, fun k q h => (by cases h)⟩
theorem zw3_32 (w : zW) (s : State) (H : Heap) : zad (zw3 w s H) 32 = H.size := rfl
/-- a run's end as a step of the caller's -/
theorem W_of_run {p : Program} {l : Launch} {e : Env} {R : Room} {s : State} {m : MethodId} {args : Array Value} {below : List Frame} {meth : Method} {c : Code} {H : Heap} {locs : List Loc} {cells slots mc ms pc : Nat} {ls : Array Slot} {st rest : List Value} {Qa : State → Outcome → State → Prop} {A : Addr → Prop} {Qf : State → Prop}
    (hr : va_Run p l e R s m args below meth c H locs cells slots mc ms (F0 m pc ls st) rest Qa A)
    (cont : ∀ (v : Option Value) (st₀ t : State) (L : List Loc), st₀.heap = H → (∀ q ∈ L, A q.base) → Qa st₀ (.returned v) t → W p l e R s m args below meth c t.heap (locs ++ L) (cells + mc) (slots + ms) Qf (F0 m (pc + 3) ls (v.toList ++ rest))) : W p l e R s m args below meth c H locs cells slots Qf (F0 m pc ls st) := by
  intro T hT X
  obtain ⟨v0, st₀, t, T', L', h0, X', hL', e1, e2, hq, stp⟩ := hr T hT X
  obtain ⟨t2, b1, b2⟩ := cont v0 st₀ t L' h0 hL' hq T' e1 X'
  exact ⟨t2, stp t2 b1, b2⟩
theorem ev_fresh {w : zW} {d kc ks kc' ks' : Nat} {L : List (Option Value)} {st : List Value} {μ : zM} {Q : Option Value → zM → Prop} (hd : 20 ≤ d) (hc : kc' + 52 ≤ kc) (hz : ks' + 1212 ≤ ks) (hr : (st.map fun v => v.category).sum ≤ 6)
    (kk : EV w d kc' ks' YL_law 912 L (.int 0 :: st) zM0 Q) : EV w d kc ks YL_law 898 L st μ Q := by
  intro p l e R s m args below meth c H locs cells slots Qf ls hG hC hL hP h1 h2 h3 h4 hQ
  have hF := hC.fr
  have hts := hC.2.2.2.2.1
  have hle := zw3_le hF hP
  obtain ⟨w3, hw3⟩ : ∃ w3, zw3 w s H = w3 := ⟨_, rfl⟩
  have hG3 : zGF w3 := by rw [← hw3]; exact zw3_G hG hF hP
  have hF3 : ∀ {U : State}, s.WarmedH U.vm → H.size ≤ U.heap.size → (∀ q : Nat, q < H.size → U.heap[q]? = H[q]?) → zFr w3 U := by rw [← hw3]; exact fun a b c => zw3_F hF a b c
  have hn3 : ∀ a k, zst w3 a k = none := by rw [← hw3]; exact fun _ _ => rfl
  have hb3 : zb0 w3 = H.size := by rw [← hw3]; rfl
  have h32 : zad w3 32 = H.size := by rw [← hw3]; rfl
  have hD3 : zD w3 = zD w := by rw [← hw3]; rfl
  have hP0 : zRp w3 { s with heap := H } (32, zD0, zI0, zR0) H [] := ⟨zNm0 w3 H hb3, va_S.rf⟩
  have hK := zKs hG hF
  have hKn := hK.1 11 _ (zcl_at 11 (by decide))
  have e12 : (R.frames ≥ 20) := by omega
  refine W.newcK hC.1 hC.2.1 hC.2.2.2.1 (hC.word zc_NineHeapsLaw_18) (hC.word zj11) (hC.word zn_NineHeaps) rfl dL_law_898 (by omega) (by omega) hKn.2.1 rfl fun H1 kC hkC e1 z1 o1 => ?_
  have hP1 : zRp w3 { s with heap := H } (zN (32, zD0, zI0, zR0) (16 + 11, 0)) H1 [] := by
    have hk : zk (zN (32, zD0, zI0, zR0) (16 + 11, 0)) (zn (32, zD0, zI0, zR0)) = (16 + 11, 0) := zk_zN
    refine hP0.push (show zrl 32 from ⟨by decide, Or.inl (by decide)⟩) rfl (fun b hb => zE_zN (by omega)) ?_ z1 o1
    rw [zE_obj (by rw [hk]), hD3]
    refine ⟨_, zcl_at 11 (by decide), (u_born (zty 11) hts (zuw 11 (by decide)) hKn hkC (by show H1[zad w3 32]? = _; rw [h32]; exact e1) (zty_ok 11 (by decide))).to fun j hj => ?_⟩
    show _ = ((List.range (zNf 11)).map (zv w3 (zN (32, zD0, zI0, zR0) (16 + 11, 0)) 32 11)).getD j .null
    rw [List.getD_eq_getElem?_getD, zfs_at hj]
    unfold zv zrr
    rw [hn3, show zr (zN (32, zD0, zI0, zR0) (16 + 11, 0)) 32 = fun _ => none from zr_zN, show zi (zN (32, zD0, zI0, zR0) (16 + 11, 0)) 32 = fun _ => 0 from zi_zN]
    rw [zdef 11 (by decide) j hj]
    cases zfl 11 j <;> rfl
  refine lv_dup hC.1 hC.2.1 dL_law_901 rfl ?_
  have hrs : ∀ (pc : Nat) (rest : List Value), (rest.map fun v => v.category).sum ≤ 8 → 2 * (F0 m pc ls (st.map (zva w))).monitorRoom + (rest.map fun v => v.category).sum ≤ 8 := fun pc rest h => by
    have e0 : 2 * (F0 m pc ls (st.map (zva w))).monitorRoom = 0 := rfl
    omega
  have hrc : ((st.map (zva w)).map fun v => v.category).sum ≤ 6 := by
    have e : ((st.map (zva w)).map fun v => v.category) = st.map fun v => v.category := by
      rw [List.map_map]
      exact List.map_congr_left fun v _ => zva_cat w v
    rw [e]
    exact hr
  have hF31 : zFr w3 { s with heap := H1 } := hF3 (State.WarmedH.refl _) hP1.2.1 (fun q hq => hP1.2.2.1 q hq (fun z => absurd (by rw [← hb3]; exact z) (Nat.not_le.mpr hq)))
  have hF3' : ∀ {U : State}, s.WarmedH U.vm → U.heap = H1 → zFr w3 U := fun hW hU => hF3 hW (by rw [hU]; exact hP1.2.1) (fun q hq => by rw [hU]; exact hP1.2.2.1 q hq (fun z => absurd (by rw [← hb3]; exact z) (Nat.not_le.mpr hq)))
  have hva32 : zva w3 (.ref 32) = .ref H.size := by
    show Value.ref (zad w3 32) = _
    rw [h32]
  have hrun := va_runI (y := Y11_init.1) (As := []) (b := H.size) (rest := Value.ref H.size :: st.map (zva w)) (index := 23) (own := YL_law.1.cls) (g := F0 m 902 ls (Value.ref H.size :: Value.ref H.size :: st.map (zva w))) ⟨hC.1, hC.2.1, hC.2.2.1, hC.2.2.2.1, hts⟩ (zmet l hG3 zm11_init.2.2.1 (As := [.ref 32]) rfl (Nat.le_of_ble_eq_true rfl) (e11_initc hn3 (Nat.le_refl 4) zMX_some.1)) ⟨⟨rfl, rfl, (zroom (k1 := 51) (z1 := 1192) zm11_init (d := d) (by omega) h1 h2).1, (zroom (k1 := 51) (z1 := 1192) zm11_init (d := d) (by omega) h1 h2).2, zws_pay zm11_init hC, List.mem_cons_self, hC.word zm11_init.1, hC.word zm11_init.2.1, zm11_init.2.2.2.1, zm11_init.len, hC.word zl_NineHeapsLaw_23⟩, rfl, hC.word zi11_init⟩ ⟨zPc.blind w3 [.ref 32] _, fun U hU hW => ⟨by show _ = [zva w3 (.ref 32)].toArray; rw [hva32], hF3' hW hU, by rw [hU]; exact hP1.1⟩⟩
    (cells := cells + 1) (slots := slots + 20) (p := p) (e := e) (below := below) (meth := meth) (locs := locs) rfl rfl hL.1 rfl (hrs 902 _ (by rw [List.map_cons, List.sum_cons, show (Value.ref H.size).category = 1 from rfl]; omega)) dL_law_902 ⟨by omega, by omega⟩
  refine W_of_run hrun fun v0 st₀ t L1 h0 hL1 hq => ?_
  obtain ⟨⟨v, μ', hv, ⟨q1, q2⟩, n1⟩, hF5⟩ := hq
  have hv' : v0 = v.map (zva w3) := by cases hv; rfl
  subst hv'
  subst q1
  rw [q2] at n1
  have hμ : ((zX1.1).1, (zX1.1).2, zX1.2.1, zX1.2.2) = ((81, zX1.1.2, zX1.2.1, zX1.2.2) : zM) := by rw [zX1_n]
  rw [hμ] at n1
  have n2 : zNm (zto w3) (114, zB1k, zB1I (fun _ _ => 0), zB1R) t.heap := zNm_gap hn3 (fun b hb => by unfold zB1k; rw [if_pos hb]) (fun b hb => by unfold zB1I; rw [if_pos hb]) (fun b hb => by funext k; unfold zB1R; rw [if_pos hb]) zB1_fx n1
  have hsz1 : H.size ≤ t.heap.size := Nat.le_trans hP1.2.1 (by rw [← h0]; exact hF5.1)
  have hk1 : ∀ q : Nat, q < H.size → t.heap[q]? = H[q]? := fun q hq => by
    have hnq : ¬ zAq w3 q := fun z => absurd (by rw [← hb3]; exact z) (Nat.not_le.mpr hq)
    rw [hF5.2 q (by rw [h0]; exact Nat.lt_of_lt_of_le hq hP1.2.1) hnq, h0]
    exact hP1.2.2.1 q hq hnq
  show W p l e R s m args below meth c t.heap (locs ++ L1) (cells + 1 + 51) (slots + 20 + 1192) Qf (F0 m 905 ls (Value.ref H.size :: st.map (zva w)))
  refine lv_sipush hC.1 hC.2.1 (v := (600 : Int32)) dL_law_905 (by decide) ?_
  refine lv_iconst hC.1 hC.2.1 (v := (0 : Int32)) dL_law_908 (by decide) ?_
  have hr0 : ∃ r1 : zMI × zMR, f11_run 114 zB1k 600 0 (zB1I (fun _ _ => 0)) zB1R = some ((0 : Int32), r1) := by
    have h := zB1r_0
    unfold zB1r at h
    generalize f11_run 114 zB1k 600 0 (zB1I (fun _ _ => 0)) zB1R = o at h
    cases o with
    | none => cases h
    | some r =>
      obtain ⟨r0, r1⟩ := r
      have e : r0 = 0 := Option.some.inj h
      exact ⟨r1, by rw [e]⟩
  obtain ⟨r1, hr1⟩ := hr0
  have hG4 : zGF (zto w3) := hG3
  have hF4' : ∀ {U : State}, s.WarmedH U.vm → U.heap = t.heap → zFr (zto w3) U := fun hW hU => hF3 hW (by rw [hU]; exact hsz1) (fun q hq => by rw [hU]; exact hk1 q hq)
  have hF4 : zFr (zto w3) { s with heap := t.heap } := hF4' (State.WarmedH.refl _) rfl
  have hP4 : zRp (zto w3) { s with heap := t.heap } (114, zB1k, zB1I (fun _ _ => 0), zB1R) t.heap [] := ⟨n2, va_S.rf⟩
  have hcell := zrcX (w := zto w3) (I := zB1I (fun _ _ => 0)) (R := zB1R) zB1_sh { s with heap := t.heap } t.heap [] hG4 hF4 hP4
  rw [show zad (zto w3) 32 = H.size from h32] at hcell
  have hrun2 := va_runV (y := Y11_run.1) (C := "NineHeaps") (As := [.int 600, .int 0]) (b := H.size) (rest := st.map (zva w)) (index := 161) (own := YL_law.1.cls) (g := F0 m 909 ls (.int 0 :: .int 600 :: Value.ref H.size :: st.map (zva w))) ⟨hC.1, hC.2.1, hC.2.2.1, hC.2.2.2.1, hts⟩ (zmet l hG4 zm11_run.2.2.1 (As := [.ref 32, .int 600, .int 0]) rfl (Nat.le_of_ble_eq_true rfl) (e11_run rfl zB1_sh (Nat.le_refl 8) hr1)) ⟨⟨rfl, rfl, (zroom (k1 := 0) (z1 := 0) zm11_run (d := d) (by omega) h1 h2).1, (zroom (k1 := 0) (z1 := 0) zm11_run (d := d) (by omega) h1 h2).2, zws_pay zm11_run hC, List.mem_cons_self, hC.word zm11_run.1, hC.word zm11_run.2.1, zm11_run.2.2.2.1, zm11_run.len, hC.word zl_NineHeapsLaw_161⟩, hC.word zi11_run, hC.word zv11_run⟩ ⟨zPc.blind (zto w3) [.ref 32, .int 600, .int 0] _, hcell, fun U hU hW => ⟨by show _ = [zva w3 (.ref 32), .int 600, .int 0].toArray; rw [hva32], hF4' hW hU, by rw [hU]; exact n2⟩⟩
    (cells := cells + 1 + 51) (slots := slots + 20 + 1192) (p := p) (e := e) (below := below) (meth := meth) (locs := locs ++ L1) rfl rfl hL.1 rfl (hrs 909 _ (by omega)) dL_law_909 ⟨by omega, by omega⟩
  refine W_of_run hrun2 fun v0 st₂ t2 L2 h20 hL2 hq => ?_
  obtain ⟨⟨v, μ', hv, ⟨q1, q2⟩, -⟩, hF6⟩ := hq
  have hv' : v0 = v.map (zva (zto w3)) := by cases hv; rfl
  subst hv'
  subst q1
  have hs3 : ∀ q, zAq w3 q → zAq w q := fun q z => Nat.le_trans hle (by rw [← hb3]; exact z)
  have hk2 : ∀ q : Nat, q < H.size → t2.heap[q]? = H[q]? := fun q hq => by
    have hnq : ¬ zAq w3 q := fun z => absurd (by rw [← hb3]; exact z) (Nat.not_le.mpr hq)
    rw [hF6.2 q (by rw [h20]; exact Nat.lt_of_lt_of_le hq hsz1) hnq, h20]
    exact hk1 q hq
  have hsz2 : H.size ≤ t2.heap.size := Nat.le_trans hsz1 (by rw [← h20]; exact hF6.1)
  refine kk p l e R s m args below meth c t2.heap (locs ++ L1 ++ L2) (cells + 1 + 51 + 0) (slots + 20 + 1192 + 0) Qf ls hG hC hL ⟨fun z => absurd rfl z, Nat.le_trans hP.2.1 hsz2, fun q g1 g2 => ?_, fun q hq => ?_⟩ h1 h2 (by omega) (by omega) (fun v μ1 H' locs' cells' slots' pc' ls' qv r a b ret => hQ v μ1 H' locs' cells' slots' pc' ls' qv r (by omega) (by omega) ret)
  · rw [hk2 q (Nat.lt_of_lt_of_le g1 hP.2.1)]
    exact hP.2.2.1 q g1 g2
  · rcases List.mem_append.mp hq with h | h
    · rcases List.mem_append.mp h with h | h
      · exact hP.2.2.2 q h
      · exact hs3 _ (hL1 q h)
    · exact hs3 _ (hL2 q h)
