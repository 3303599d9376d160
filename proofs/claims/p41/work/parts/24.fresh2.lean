/-! new NineHeaps().run(600, 0), in a world of its own -/
theorem zNm0 (w : zW) (H : Heap) (hb : zb0 w = H.size) : zNm w (32, zD0, zI0, zR0) H := fun _ => ⟨⟨show 32 ≤ 32 by decide, Or.inl (show 32 ≤ 81 by decide)⟩, by rw [hb]; rfl, fun k q h => (by cases h)⟩
theorem zw3_32 (w : zW) (s : State) (H : Heap) : zad (zw3 w s H) 32 = H.size := rfl
/-- a run's end as a step of the caller's -/
theorem W_of_run {p : Program} {l : Launch} {e : Env} {R : Room} {s : State} {m : MethodId} {args : Array Value} {below : List Frame} {meth : Method} {c : Code} {H : Heap} {locs : List Loc} {cells slots mc ms pc : Nat} {ls : Array Slot} {st rest : List Value} {Qa : State → Outcome → State → Prop} {A : Addr → Prop} {Qf : State → Prop}
    (hr : va_Run p l e R s m args below meth c H locs cells slots mc ms (F0 m pc ls st) rest Qa A)
    (cont : ∀ (v : Option Value) (st₀ t : State) (L : List Loc), st₀.heap = H → (∀ q ∈ L, A q.base) → Qa st₀ (.returned v) t → W p l e R s m args below meth c t.heap (locs ++ L) (cells + mc) (slots + ms) Qf (F0 m (pc + 3) ls (v.toList ++ rest))) : W p l e R s m args below meth c H locs cells slots Qf (F0 m pc ls st) := by
  intro T hT X
  obtain ⟨v0, st₀, t, T', L', h0, X', hL', e1, e2, hq, stp⟩ := hr T hT X
  obtain ⟨t2, b1, b2⟩ := cont v0 st₀ t L' h0 hL' hq T' e1 X'
  exact ⟨t2, stp t2 b1, b2⟩
theorem ev_fresh {w : zW} {d kc ks kc' ks' : Nat} {L : List (Option Value)} {st : List Value} {μ : zM} {Q : Option Value → zM → Prop} (hd : 20 ≤ d) (hc : kc' + 52 ≤ kc) (hz : ks' + 1212 ≤ ks) (hr : (st.map fun v => v.category).sum ≤ 6)
    (kk : EV w d kc' ks' YL_law 912 L (.int 0 :: st) zM0 Q) : EV w d kc ks YL_law 898 L st μ Q := by
  intro p l e R s m args below meth c H locs cells slots Qf ls hG hC hL hP h1 h2 h3 h4 hQ
  have hF := hC.fr
  have hts := hC.2.2.2.2.1
  have hle := zw3_le hF hP
  obtain ⟨w3, hw3⟩ : ∃ w3, zw3 w s H = w3 := ⟨_, rfl⟩
  have hG3 : zGF w3 := by rw [← hw3]; exact zw3_G hG hF hP
  have hF3 : ∀ {U : State}, s.WarmedH U.vm → H.size ≤ U.heap.size → (∀ q : Nat, q < H.size → U.heap[q]? = H[q]?) → zFr w3 U := by rw [← hw3]; exact fun a b c => zw3_F hF a b c
  have hn3 : ∀ a k, zst w3 a k = none := by rw [← hw3]; exact fun _ _ => rfl
  have hb3 : zb0 w3 = H.size := by rw [← hw3]; rfl
  have h32 : zad w3 32 = H.size := by rw [← hw3]; rfl
  have hD3 : zD w3 = zD w := by rw [← hw3]; rfl
  have hP0 : zRp w3 { s with heap := H } (32, zD0, zI0, zR0) H [] := ⟨zNm0 w3 H hb3, va_S.rf⟩
  have hK := zKs hG hF
  have hKn := hK.1 11 _ (zcl_at 11 (by decide))
  have e12 : (R.frames ≥ 20) := by omega
  refine W.newcK hC.1 hC.2.1 hC.2.2.2.1 (hC.word zc_NineHeapsLaw_18) (hC.word zj11) (hC.word zn_NineHeaps) rfl dL_law_898 (by omega) (by omega) hKn.2.1 rfl fun H1 kC hkC e1 z1 o1 => ?_
  have hP1 : zRp w3 { s with heap := H } (zN (32, zD0, zI0, zR0) (16 + 11, 0)) H1 [] := by
    have hk : zk (zN (32, zD0, zI0, zR0) (16 + 11, 0)) (zn (32, zD0, zI0, zR0)) = (16 + 11, 0) := zk_zN
    refine hP0.push (show zrl 32 from ⟨by decide, Or.inl (by decide)⟩) rfl (fun b hb => zE_zN (by omega)) ?_ z1 o1
    rw [zE_obj (by rw [hk]), hD3]
    refine ⟨_, zcl_at 11 (by decide), (u_born (zty 11) hts (zuw 11 (by decide)) hKn hkC (by show H1[zad w3 32]? = _; rw [h32]; exact e1) (zty_ok 11 (by decide))).to fun j hj => ?_⟩
    show _ = ((List.range (zNf 11)).map (zv w3 (zN (32, zD0, zI0, zR0) (16 + 11, 0)) 32 11)).getD j .null
    rw [List.getD_eq_getElem?_getD, zfs_at hj]
    unfold zv zrr
    rw [hn3, show zr (zN (32, zD0, zI0, zR0) (16 + 11, 0)) 32 = fun _ => none from zr_zN, show zi (zN (32, zD0, zI0, zR0) (16 + 11, 0)) 32 = fun _ => 0 from zi_zN]
    rw [zdef 11 (by decide) j hj]
    cases zfl 11 j <;> rfl
  refine lv_dup hC.1 hC.2.1 dL_law_901 rfl ?_
  have hrs : ∀ (pc : Nat) (rest : List Value), (rest.map fun v => v.category).sum ≤ 8 → 2 * (F0 m pc ls (st.map (zva w))).monitorRoom + (rest.map fun v => v.category).sum ≤ 8 := fun pc rest h => by
    have e0 : 2 * (F0 m pc ls (st.map (zva w))).monitorRoom = 0 := rfl
    omega
  have hrc : ((st.map (zva w)).map fun v => v.category).sum ≤ 6 := by
    have e : ((st.map (zva w)).map fun v => v.category) = st.map fun v => v.category := by
      rw [List.map_map]
      exact List.map_congr_left fun v _ => zva_cat w v
    rw [e]
    exact hr
  sorry
