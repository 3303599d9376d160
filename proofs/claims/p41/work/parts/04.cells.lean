/-! rows that read and write cells -/
theorem zins (ws : List Cond) (ps : List Nat) (h : ps.map (fun i => lw_tbl[i]?) = ws.map some) (hg : ws.all goodWord = true) : ∀ x ∈ ws, x ∈ zGT := by
  intro x hx
  have h1 : some x ∈ ps.map (fun i => lw_tbl[i]?) := by rw [h]; exact List.mem_map_of_mem hx
  obtain ⟨i, -, hi⟩ := List.mem_map.mp h1
  exact zin i hi (List.all_eq_true.mp hg x hx)
theorem zuw0 : ∀ x ∈ u_ws RX0 TX0 13, x ∈ zGT := zins _ [171, 173, 175, 177, 179, 181, 183, 185, 187, 189, 191, 193, 195] (by decide +kernel) (by decide +kernel)
theorem zuw1 : ∀ x ∈ u_ws RX1 TX1 11, x ∈ zGT := zins _ [739, 740, 741, 742, 743, 744, 745, 746, 747, 748, 749] (by decide +kernel) (by decide +kernel)
theorem zuw2 : ∀ x ∈ u_ws RX2 TX2 7, x ∈ zGT := zins _ [139, 141, 143, 145, 147, 149, 151] (by decide +kernel) (by decide +kernel)
theorem zuw3 : ∀ x ∈ u_ws RX3 TX3 5, x ∈ zGT := zins _ [233, 235, 237, 239, 241] (by decide +kernel) (by decide +kernel)
theorem zuw4 : ∀ x ∈ u_ws RX4 TX4 11, x ∈ zGT := zins _ [722, 723, 724, 725, 726, 727, 728, 729, 730, 731, 732] (by decide +kernel) (by decide +kernel)
theorem zuw5 : ∀ x ∈ u_ws RX5 TX5 11, x ∈ zGT := zins _ [676, 678, 680, 682, 684, 686, 688, 690, 692, 694, 696] (by decide +kernel) (by decide +kernel)
theorem zuw6 : ∀ x ∈ u_ws RX6 TX6 3, x ∈ zGT := zins _ [254, 256, 258] (by decide +kernel) (by decide +kernel)
theorem zuw7 : ∀ x ∈ u_ws RX7 TX7 10, x ∈ zGT := zins _ [89, 91, 93, 95, 97, 99, 101, 103, 105, 107] (by decide +kernel) (by decide +kernel)
theorem zuw8 : ∀ x ∈ u_ws RX8 TX8 11, x ∈ zGT := zins _ [704, 705, 706, 707, 708, 709, 710, 711, 712, 713, 714] (by decide +kernel) (by decide +kernel)
theorem zuw9 : ∀ x ∈ u_ws RX9 TX9 11, x ∈ zGT := zins _ [756, 757, 758, 759, 760, 761, 762, 763, 764, 765, 766] (by decide +kernel) (by decide +kernel)
theorem zuw10 : ∀ x ∈ u_ws RX10 TX10 11, x ∈ zGT := zins _ [770, 771, 772, 773, 774, 775, 776, 777, 778, 779, 780] (by decide +kernel) (by decide +kernel)
theorem zuw11 : ∀ x ∈ u_ws RX11 TX11 20, x ∈ zGT := zins _ [279, 281, 283, 285, 287, 289, 291, 293, 295, 297, 299, 301, 303, 305, 307, 309, 311, 313, 315, 317] (by decide +kernel) (by decide +kernel)
theorem zuw12 : ∀ x ∈ u_ws RJ4 TJ4 4, x ∈ zGT := zins _ [807, 809, 811, 813] (by decide +kernel) (by decide +kernel)
theorem zuw13 : ∀ x ∈ u_ws RJ0 TJ0 4, x ∈ zGT := zins _ [1011, 1013, 1015, 1017] (by decide +kernel) (by decide +kernel)
theorem zuw : ∀ c, c < 14 → ∀ x ∈ u_ws (zRf c) (zTf c) (zNf c), x ∈ zGT := fun c h => by
  match c, h with
  | 0, _ => exact zuw0
  | 1, _ => exact zuw1
  | 2, _ => exact zuw2
  | 3, _ => exact zuw3
  | 4, _ => exact zuw4
  | 5, _ => exact zuw5
  | 6, _ => exact zuw6
  | 7, _ => exact zuw7
  | 8, _ => exact zuw8
  | 9, _ => exact zuw9
  | 10, _ => exact zuw10
  | 11, _ => exact zuw11
  | 12, _ => exact zuw12
  | 13, _ => exact zuw13
theorem zty_ok : ∀ c, c < 14 → ∀ k, k < zNf c → parseFieldDescriptor (zTf c k).2.2.1 = some (zty c k) := fun c h => by
  match c, h with
  | 0, _ => exact tyX0_ok
  | 1, _ => exact tyX1_ok
  | 2, _ => exact tyX2_ok
  | 3, _ => exact tyX3_ok
  | 4, _ => exact tyX4_ok
  | 5, _ => exact tyX5_ok
  | 6, _ => exact tyX6_ok
  | 7, _ => exact tyX7_ok
  | 8, _ => exact tyX8_ok
  | 9, _ => exact tyX9_ok
  | 10, _ => exact tyX10_ok
  | 11, _ => exact tyX11_ok
  | 12, _ => exact tyJ4_ok
  | 13, _ => exact tyJ0_ok
theorem znm : ∀ c, c < 14 → ∀ a, a < zNf c → ∀ b, b < zNf c → a ≠ b → (zTf c a).2.1 ≠ (zTf c b).2.1 := fun c h => by
  match c, h with
  | 0, _ => exact nmX0
  | 1, _ => exact nmX1
  | 2, _ => exact nmX2
  | 3, _ => exact nmX3
  | 4, _ => exact nmX4
  | 5, _ => exact nmX5
  | 6, _ => exact nmX6
  | 7, _ => exact nmX7
  | 8, _ => exact nmX8
  | 9, _ => exact nmX9
  | 10, _ => exact nmX10
  | 11, _ => exact nmX11
  | 12, _ => exact nmJ4
  | 13, _ => exact nmJ0
/-- a cell is there, of a kind -/
def zHas (n : Nat) (kd : Nat → Nat × Nat) (a K : Nat) : Prop := zrl a ∧ a < n ∧ (kd a).1 = K
/-- a field as an instruction names it -/
def zFL (own : String) (idx c k : Nat) : Prop := c < 14 ∧ k < zNf c ∧ ∃ ref : String, Cond.fieldLink own idx ref (zTf c k).2.1 (zTf c k).2.2.1 ∈ zGT ∧ (ref = (zTf c k).1 ∨ Cond.sameField ref (zTf c k).1 (zTf c k).2.1 (zTf c k).2.2.1 ∈ zGT)
theorem zE_obj {w : zW} {μ : zM} {a c : Nat} (h : (zk μ a).1 = 16 + c) : zE w μ a = .inr (c, (List.range (zNf c)).map (zv w μ a c)) := by
  unfold zE
  rw [if_neg (by omega), if_neg (by omega), if_neg (by omega), if_neg (by omega), show (zk μ a).1 - 16 = c by omega]
theorem zE_int {w : zW} {μ : zM} {a : Nat} (h : (zk μ a).1 = 0) : zE w μ a = .inl (zcA w 0, (zk μ a).2, .inl (zi μ a)) := if_pos h
theorem zE_ref {w : zW} {μ : zM} {a j : Nat} (h : (zk μ a).1 = j) (h0 : 0 < j) (h1 : j < 12) : zE w μ a = .inl (zcA w j, (zk μ a).2, .inr (.inr (.inr (.inr (fun k => (zrr w μ a k).map (zad w)))))) := by
  unfold zE
  rw [if_neg (by omega), if_neg (by omega), if_neg (by omega), if_pos (by omega), h]
theorem zE_byt {w : zW} {μ : zM} {a : Nat} (h : (zk μ a).1 = 12) : zE w μ a = .inl (zcA w 6, (zk μ a).2, .inl (zi μ a)) := by
  unfold zE
  rw [if_neg (by omega), if_pos h]
theorem zE_lng {w : zW} {μ : zM} {a : Nat} (h : (zk μ a).1 = 14) : zE w μ a = .inl (zcA w 7, (zk μ a).2, .inr (.inl (zlg w a (zi μ a)))) := by
  unfold zE
  rw [if_neg (by omega), if_neg (by omega), if_pos h]
theorem zKs {w : zW} {s : State} (hG : zGF w) (hF : zFr w s) : va_K (zD w) vwCl (zT w) s := hG.2.1.moved hF.1
theorem zCtx.fr {w : zW} {y : zY} {p : Program} {s : State} {m : MethodId} {args : Array Value} {meth : Method} {c : Code} (h : zCtx w y p s m args meth c) : zFr w s := h.2.2.2.2.2.2.2.2
theorem zCtx.word {w : zW} {y : zY} {p : Program} {s : State} {m : MethodId} {args : Array Value} {meth : Method} {c : Code} (h : zCtx w y p s m args meth c) {v : Cond} (hv : v ∈ zGT) : v.before args s = true := h.2.2.2.2.1 v hv
theorem zRp.nm {w : zW} {s : State} {μ : zM} {H : Heap} {locs : List Loc} (h : zRp w s μ H locs) {a : Nat} (h2 : a < zn μ) : zvn (zn μ) ∧ H.size = zb0 w + zsz (zn μ) ∧ va_P (zD w) vwCl (zWs w μ) H := h.1 (by omega)
theorem zRp.p {w : zW} {s : State} {μ : zM} {H : Heap} {locs : List Loc} (h : zRp w s μ H locs) {a : Nat} (h2 : a < zn μ) : va_P (zD w) vwCl (zWs w μ) H := (h.nm h2).2.2
theorem zRp.at {w : zW} {s : State} {μ : zM} {H : Heap} {locs : List Loc} (h : zRp w s μ H locs) {a : Nat} (h1 : zrl a) (h2 : a < zn μ) : va_at (zD w) vwCl (zad w a, zE w μ a) H := h.p h2 (zix a) _ (zWs_at w h1 h2)
theorem zFL.same {c k : Nat} {s : State} {args : Array Value} {ref : String} (hts : ∀ v ∈ zGT, v.before args s = true) (h : ref = (zTf c k).1 ∨ Cond.sameField ref (zTf c k).1 (zTf c k).2.1 (zTf c k).2.2.1 ∈ zGT) :
    ∀ x, s.fieldFound? (zTf c k).1 (zTf c k).2.1 (zTf c k).2.2.1 = some x → s.fieldFound? ref (zTf c k).2.1 (zTf c k).2.2.1 = some x := by
  rcases h with h | h
  · subst h
    exact fun _ h9 => h9
  · exact fun x hx => u_same (hts _ h) x hx
theorem zfs_at {w : zW} {μ : zM} {a c k : Nat} (hk : k < zNf c) : ((List.range (zNf c)).map (zv w μ a c))[k]? = some (zv w μ a c k) := by
  rw [List.getElem?_map, List.getElem?_range hk]
  rfl
/-- what a memory with one row changed has of the other cells -/
theorem zE_zA {w : zW} {μ : zM} {a b : Nat} {f : Nat → Int32} (h : b ≠ a) : zE w (zA μ a f) b = zE w μ b := by
  have e : zi (zA μ a f) b = zi μ b := by
    funext k
    show (if b = a then f else μ.2.2.1 b) k = μ.2.2.1 b k
    rw [if_neg h]
  unfold zE zv
  rw [e]
  rfl
theorem zE_zR {w : zW} {μ : zM} {a b k : Nat} {r : Option Nat} (h : b ≠ a) : zE w (zR μ a k r) b = zE w μ b := by
  have e : zr (zR μ a k r) b = zr μ b := by
    funext j
    show (if b = a then va_up (μ.2.2.2 a) k r else μ.2.2.2 b) j = μ.2.2.2 b j
    rw [if_neg h]
  have e2 : ∀ j, zrr w (zR μ a k r) b j = zrr w μ b j := fun j => by
    unfold zrr
    rw [e]
  unfold zE zv
  simp only [e2]
  rfl
theorem zi_zA {μ : zM} {a : Nat} {f : Nat → Int32} : zi (zA μ a f) a = f := by
  show (if a = a then f else μ.2.2.1 a) = f
  rw [if_pos rfl]
theorem zi_zA_ne {μ : zM} {a b : Nat} {f : Nat → Int32} (h : b ≠ a) : zi (zA μ a f) b = zi μ b := by
  show (if b = a then f else μ.2.2.1 b) = μ.2.2.1 b
  rw [if_neg h]
theorem zr_zR {μ : zM} {a k : Nat} {r : Option Nat} : zr (zR μ a k r) a = va_up (zr μ a) k r := by
  show (if a = a then va_up (μ.2.2.2 a) k r else μ.2.2.2 a) = _
  rw [if_pos rfl]
  rfl
theorem zr_zR_ne {μ : zM} {a b k : Nat} {r : Option Nat} (h : b ≠ a) : zr (zR μ a k r) b = zr μ b := by
  show (if b = a then va_up (μ.2.2.2 a) k r else μ.2.2.2 b) = μ.2.2.2 b
  rw [if_neg h]
/-- a cell is written: the memory follows -/
theorem zRp.put {w : zW} {s : State} {μ μ' : zM} {H H' : Heap} {locs : List Loc} {a k : Nat} (h : zRp w s μ H locs) (h1 : zrl a) (h2 : a < zn μ) (hn : zn μ' = zn μ) (he : ∀ b, b ≠ a → zE w μ' b = zE w μ b)
    (hat : va_at (zD w) vwCl (zad w a, zE w μ' a) H') (hz : H'.size = H.size) (oq : ∀ q, q ≠ zad w a → H'[q]? = H[q]?) : zRp w s μ' H' (locs ++ [⟨zad w a, k⟩]) := by
  obtain ⟨r1, r2, r3⟩ := h.nm h2
  refine ⟨fun _ => ⟨by rw [hn]; exact r1, by rw [hn, hz]; exact r2, ?_⟩, h.2.put hz oq (show zb0 w ≤ zad w a by rw [zad_rl w h1]; omega)⟩
  rw [← zWs_set w h1 h2 hn he]
  exact r3.set (zWs_apart w μ) (zWs_at w h1 h2) hat oq
theorem zRp.top {w : zW} {s : State} {μ : zM} {H : Heap} {locs : List Loc} (h : zRp w s μ H locs) (hr : zrl (zn μ)) : H.size = zad w (zn μ) := by
  rw [zad_rl w hr, ← zsz_ix hr]
  exact (h.1 (zrl_vn hr).2.2).2.1
/-- a cell comes: the memory follows -/
theorem zRp.push {w : zW} {s : State} {μ μ' : zM} {H H' : Heap} {locs : List Loc} (h : zRp w s μ H locs) (hr : zrl (zn μ)) (hn : zn μ' = zn μ + 1) (he : ∀ b, b < zn μ → zE w μ' b = zE w μ b)
    (hat : va_at (zD w) vwCl (zad w (zn μ), zE w μ' (zn μ)) H') (hz : H'.size = H.size + 1) (oq : ∀ q, q < H.size → H'[q]? = H[q]?) : zRp w s μ' H' locs := by
  obtain ⟨v1, v2, v3⟩ := zrl_vn hr
  obtain ⟨r1, r2, r3⟩ := h.1 v3
  have r4 := h.2
  refine ⟨fun _ => ⟨by rw [hn]; exact v2, by rw [hn, hz, r2, zsz_push hr]; omega, ?_⟩, ⟨by have := r4.1; omega, fun q h1 h2 => ?_, r4.2.2⟩⟩
  · rw [zWs_push w hr hn he]
    refine (r3.kept fun k q hq => oq q.1 ((r3 k q hq).lt)).app (fun k q hq => ?_)
    have hz : k < 1 := (List.getElem?_eq_some_iff.mp hq).1
    rw [show k = 0 by omega] at hq
    cases hq
    exact hat
  · rw [oq q (Nat.lt_of_lt_of_le h1 r4.1)]
    exact r4.2.1 q h1 h2
section EVC
variable {w : zW} {d kc ks : Nat} {y : zY} {pc : Nat} {L : List (Option Value)} {st : List Value} {μ : zM} {Q Q' : Option Value → zM → Prop}
theorem ev_get {idx c k a : Nat} {v : Value} (hd : decode y.2.1 pc = .ok (.getfield idx, 3)) (hf : zFL y.1.cls idx c k) (ha : zHas μ.1 μ.2.1 a (16 + c)) (hv : zv w μ a c k = zva w v)
    (kk : EV w d kc ks y (pc + 3) L (v :: st) μ Q) : EV w d kc ks y pc L (.ref a :: st) μ Q := by
  intro p l e R s m args below meth c0 H locs cells slots Qf ls hG hC hL hP h1 h2 h3 h4 hQ
  obtain ⟨hc, hk, ref, hl, hs⟩ := hf
  have he : (zWs w μ)[zix a]? = some (zad w a, .inr (c, (List.range (zNf c)).map (zv w μ a c))) := by
    rw [zWs_at w ha.1 ha.2.1, zE_obj ha.2.2]
  exact va_get (D := zD w) (ci := c) (v := zva w v) (C := zRf c) (T := zTf c) (N := zNf c) hC.1 hC.2.1 hC.2.2.2.2.1 (zuw c hc) hC.2.2.2.1 (zKs hG hC.fr) (hP.p ha.2.1) (zix a) he (zcl_at c hc) k hk (hC.word hl) (zFL.same hC.2.2.2.2.1 hs) (by rw [zfs_at hk, hv]) hd
    (kk p l e R s m args below meth c0 H locs cells slots Qf ls hG hC hL hP h1 h2 h3 h4 hQ)
theorem ev_getI {idx c k a : Nat} {x : Int32} (hd : decode y.2.1 pc = .ok (.getfield idx, 3)) (hf : zFL y.1.cls idx c k) (hfl : zfl c k = false) (ha : zHas μ.1 μ.2.1 a (16 + c)) (hv : zi μ a k = x)
    (kk : EV w d kc ks y (pc + 3) L (.int x :: st) μ Q) : EV w d kc ks y pc L (.ref a :: st) μ Q :=
  ev_get hd hf ha (by unfold zv; rw [if_neg (by rw [hfl]; decide), hv]; rfl) kk
theorem ev_getR {idx c k a b : Nat} (hd : decode y.2.1 pc = .ok (.getfield idx, 3)) (hf : zFL y.1.cls idx c k) (hfl : zfl c k = true) (ha : zHas μ.1 μ.2.1 a (16 + c)) (hv : zrr w μ a k = some b)
    (kk : EV w d kc ks y (pc + 3) L (.ref b :: st) μ Q) : EV w d kc ks y pc L (.ref a :: st) μ Q :=
  ev_get hd hf ha (by unfold zv; rw [if_pos hfl, hv]; rfl) kk
theorem ev_getN {idx c k a : Nat} (hd : decode y.2.1 pc = .ok (.getfield idx, 3)) (hf : zFL y.1.cls idx c k) (hfl : zfl c k = true) (ha : zHas μ.1 μ.2.1 a (16 + c)) (hv : zrr w μ a k = none)
    (kk : EV w d kc ks y (pc + 3) L (.null :: st) μ Q) : EV w d kc ks y pc L (.ref a :: st) μ Q :=
  ev_get hd hf ha (by unfold zv; rw [if_pos hfl, hv]; rfl) kk
/-- which fields may be written here -/
def zMay (y : zY) (c k : Nat) : Prop := (zTf c k).2.2.2 = false ∨ ((zTf c k).2.2.2 = true ∧ y.1.name = "<init>" ∧ (zTf c k).1 = y.1.cls)
theorem ev_put {idx c k a : Nat} {v : Value} {μ' : zM} (hd : decode y.2.1 pc = .ok (.putfield idx, 3)) (hf : zFL y.1.cls idx c k) (hm : zMay y c k) (ha : zHas μ.1 μ.2.1 a (16 + c)) (hn : narrow (zty c k) (zva w v) = zva w v) (hfit : fits (zty c k) (zva w v) = true)
    (h1 : zn μ' = zn μ) (h2 : ∀ b, b ≠ a → zE w μ' b = zE w μ b) (h3 : (zk μ' a).1 = 16 + c) (h4 : ∀ j, j < zNf c → zv w μ' a c j = if j = k then zva w v else zv w μ a c j)
    (kk : EV w d kc ks y (pc + 3) L st μ' Q) : EV w d kc ks y pc L (v :: .ref a :: st) μ Q := by
  intro p l e R s m args below meth c0 H locs cells slots Qf ls hG hC hL hP g1 g2 g3 g4 hQ
  obtain ⟨hc, hk, ref, hl, hs⟩ := hf
  have hK := zKs hG hC.fr
  have hts := hC.2.2.2.2.1
  have hin := zuw c hc
  have hap := va_apart (own := y.1.cls) hts hin (zty c) (zty_ok c hc) (znm c hc) hK (zcl_at c hc)
  have hat := hP.at ha.1 ha.2.1
  rw [zE_obj ha.2.2] at hat
  obtain ⟨r, e1, cell, q1, q2, q3, q4⟩ := hat
  have hr : r = (zRf c, zTf c, zNf c) := Option.some.inj (e1.symm.trans (zcl_at c hc))
  subst hr
  obtain ⟨hS, hfc, kC, hkC, hkind⟩ := hK.1 c _ (zcl_at c hc)
  obtain ⟨cf, kf, fi, f, hi, hsl⟩ := hS k hk
  have hlay := hts _ (hin _ (u_in_lay hk))
  have hst := (u_facts hfc hkC (u_lays hts hin hk) hi).1
  have fin : ∀ H' : Heap, H'[zad w a]? = some (cell.setSlot f.slot (zva w v)) → H'.size = H.size → (∀ q, q ≠ zad w a → H'[q]? = H[q]?) → W p l e R s m args below meth c0 H' (locs ++ [⟨zad w a, f.slot⟩]) cells slots Qf (F0 m (pc + 3) ls (st.map (zva w))) := by
    intro H' x1 x2 x3
    refine kk p l e R s m args below meth c0 H' (locs ++ [⟨zad w a, f.slot⟩]) cells slots Qf ls hG hC hL (hP.put ha.1 ha.2.1 h1 h2 ?_ x2 x3) g1 g2 g3 g4 hQ
    rw [zE_obj h3]
    rw [hsl] at x1
    refine ⟨_, zcl_at c hc, t_OB.to (V := updV (vp_V ((List.range (zNf c)).map (zv w μ a c))) k (zva w v)) ⟨_, x1, q2, q3, t_set q4 hap hk (zva w v)⟩ (fun j hj => ?_)⟩
    show updV (vp_V ((List.range (zNf c)).map (zv w μ a c))) k (zva w v) j = ((List.range (zNf c)).map (zv w μ' a c)).getD j .null
    rw [List.getD_eq_getElem?_getD, zfs_at hj, h4 j hj]
    by_cases e : j = k
    · subst e
      simp [updV]
    · rw [if_neg e]
      simp [updV, e, vp_V, hj]
  rcases hm with hm | ⟨hm, hi2, hde⟩
  · unfold u_lay at hlay
    rw [if_neg (by rw [hm]; decide)] at hlay
    exact W.putK hC.1 hC.2.1 (f := f) ⟨hC.2.2.2.1, hC.word hl, ⟨_, _, _, zFL.same hts hs _ hi⟩, hst⟩ (by rw [q2]; exact u_store hfc hkC hkind hlay hi (zty_ok c hc k hk) hn hfit) q1 q3 (by rw [hsl]; exact k2_hasslot (q4 k hk)) rfl rfl hd fin
  · unfold u_lay at hlay
    rw [if_pos hm] at hlay
    have hcf : m.cls = cf := by
      obtain ⟨_, _, c', _, _, _, -, -, hf', -, -, -, hown2, -⟩ := Cond.laysFinal_spec hlay
      have e1 : c' = cf := by have := hi.symm.trans hf'; simp at this; exact this.1.symm
      rw [hde] at hown2
      rw [← e1]; exact Option.some.inj (hC.2.2.2.1.symm.trans hown2)
    exact W.putFinK hC.1 hC.2.1 hC.2.2.2.1 (hC.word hl) (zFL.same hts hs _ hi) hst hcf (hC.2.2.2.2.2.2.2.1.trans hi2) (by rw [q2]; exact u_fits hfc hkC hkind (Or.inr hlay) hi (zty_ok c hc k hk) hn hfit) q1 q3 (by rw [hsl]; exact k2_hasslot (q4 k hk)) rfl rfl hd fin
theorem ev_putI {idx c k a : Nat} {x : Int32} (hd : decode y.2.1 pc = .ok (.putfield idx, 3)) (hf : zFL y.1.cls idx c k) (hm : zMay y c k) (hfl : zfl c k = false) (hn : narrow (zty c k) (.int x) = .int x) (hfit : fits (zty c k) (.int x) = true) (ha : zHas μ.1 μ.2.1 a (16 + c))
    (kk : EV w d kc ks y (pc + 3) L st (zI μ a k x) Q) : EV w d kc ks y pc L (.int x :: .ref a :: st) μ Q := by
  refine ev_put (μ' := zI μ a k x) hd hf hm ha hn hfit rfl (fun b hb => zE_zA hb) ha.2.2 (fun j hj => ?_) kk
  unfold zv
  by_cases e : j = k
  · subst e
    rw [if_neg (by rw [hfl]; decide), if_pos rfl]
    unfold zI
    rw [zi_zA]
    simp [upd]
    rfl
  · rw [if_neg e]
    unfold zI
    rw [zi_zA]
    simp only [upd, e, if_false]
    rfl
theorem ev_putR {idx c k a b : Nat} (hd : decode y.2.1 pc = .ok (.putfield idx, 3)) (hf : zFL y.1.cls idx c k) (hm : zMay y c k) (hfl : zfl c k = true) (hs : zst w a k = none) (hn : ∀ q, narrow (zty c k) (.ref q) = .ref q) (hfit : ∀ q, fits (zty c k) (.ref q) = true) (ha : zHas μ.1 μ.2.1 a (16 + c))
    (kk : EV w d kc ks y (pc + 3) L st (zR μ a k (some b)) Q) : EV w d kc ks y pc L (.ref b :: .ref a :: st) μ Q := by
  refine ev_put (μ' := zR μ a k (some b)) hd hf hm ha (hn _) (hfit _) rfl (fun q hq => zE_zR hq) ha.2.2 (fun j hj => ?_) kk
  unfold zv zrr
  rw [zr_zR]
  by_cases e : j = k
  · subst e
    rw [if_pos hfl, if_pos rfl, hs]
    simp [va_up, va_rf, zva]
  · rw [if_neg e]
    simp only [va_up, e, if_false]
    rfl
theorem ev_putN {idx c k a : Nat} (hd : decode y.2.1 pc = .ok (.putfield idx, 3)) (hf : zFL y.1.cls idx c k) (hm : zMay y c k) (hfl : zfl c k = true) (hs : zst w a k = none) (hn : narrow (zty c k) .null = .null) (hfit : fits (zty c k) .null = true) (ha : zHas μ.1 μ.2.1 a (16 + c))
    (kk : EV w d kc ks y (pc + 3) L st (zR μ a k none) Q) : EV w d kc ks y pc L (.null :: .ref a :: st) μ Q := by
  refine ev_put (μ' := zR μ a k none) hd hf hm ha hn hfit rfl (fun q hq => zE_zR hq) ha.2.2 (fun j hj => ?_) kk
  unfold zv zrr
  rw [zr_zR]
  by_cases e : j = k
  · subst e
    rw [if_pos hfl, if_pos rfl, hs]
    simp [va_up, va_rf, zva]
  · rw [if_neg e]
    simp only [va_up, e, if_false]
    rfl
/-! arrays -/
theorem ev_iald {a : Nat} {i x : Int32} (hd : decode y.2.1 pc = .ok (.iaload, 1)) (ha : zHas μ.1 μ.2.1 a 0) (hin : vp_in i (μ.2.1 a).2) (hv : zi μ a i.toNatClampNeg = x)
    (kk : EV w d kc ks y (pc + 1) L (.int x :: st) μ Q) : EV w d kc ks y pc L (.int i :: .ref a :: st) μ Q := by
  intro p l e R s m args below meth c0 H locs cells slots Qf ls hG hC hL hP h1 h2 h3 h4 hQ
  have he := zWs_at w (μ := μ) ha.1 ha.2.1
  rw [zE_int ha.2.2] at he
  refine va_iald (D := zD w) hC.1 hC.2.1 (zKs hG hC.fr) (hP.p ha.2.1) (zix a) 0 he rfl hin hd ?_
  rw [hv]
  exact kk p l e R s m args below meth c0 H locs cells slots Qf ls hG hC hL hP h1 h2 h3 h4 hQ
theorem ev_iast {a : Nat} {i x : Int32} (hd : decode y.2.1 pc = .ok (.iastore, 1)) (ha : zHas μ.1 μ.2.1 a 0) (hin : vp_in i (μ.2.1 a).2)
    (kk : EV w d kc ks y (pc + 1) L st (zI μ a i.toNatClampNeg x) Q) : EV w d kc ks y pc L (.int x :: .int i :: .ref a :: st) μ Q := by
  intro p l e R s m args below meth c0 H locs cells slots Qf ls hG hC hL hP h1 h2 h3 h4 hQ
  have hat := hP.at ha.1 ha.2.1
  rw [zE_int ha.2.2] at hat
  refine W.iast hC.1 hC.2.1 (a := zad w a) (cell := vp_cell (zcA w 0) ((μ.2.1 a).2, .inl (zi μ a))) hat (((zKs hG hC.fr).2 0 _ rfl).1 _ (fun j => .int (zi μ a j))) (fun q => by cases q) (by show ¬ (i < 0 ∨ (arrV _ _ _).slots.size ≤ _); rw [arrV_size]; exact hin) rfl rfl hd fun H1 x1 x2 x3 => ?_
  refine kk p l e R s m args below meth c0 H1 _ cells slots Qf ls hG hC hL (hP.put (μ' := zI μ a i.toNatClampNeg x) ha.1 ha.2.1 rfl (fun b hb => zE_zA hb) ?_ x2 x3) h1 h2 h3 h4 hQ
  rw [zE_int (show (zk (zI μ a i.toNatClampNeg x) a).1 = 0 from ha.2.2)]
  show H1[zad w a]? = some (vp_cell _ _)
  rw [x1]
  unfold zI
  rw [zi_zA, vp_cell_i, vp_cell_i, arrV_store]
  show some (arrV _ (μ.2.1 a).2 _) = some (arrV _ (μ.2.1 a).2 _)
  congr 2
  funext q
  by_cases hq : q = i.toNatClampNeg
  · subst hq
    simp [updV, upd]
  · simp [updV, upd, hq]
theorem zT_at {w : zW} {j : Nat} (h : j < 6) : ∃ ty : FieldType, (zT w)[j]? = some (zcA w j, ty) ∧ ty.isReference = (j != 0) := by
  match j, h with
  | 0, _ => exact ⟨_, rfl, rfl⟩
  | 1, _ => exact ⟨_, rfl, rfl⟩
  | 2, _ => exact ⟨_, rfl, rfl⟩
  | 3, _ => exact ⟨_, rfl, rfl⟩
  | 4, _ => exact ⟨_, rfl, rfl⟩
  | 5, _ => exact ⟨_, rfl, rfl⟩
theorem ev_aald {a j : Nat} {i : Int32} {v : Value} (hd : decode y.2.1 pc = .ok (.aaload, 1)) (ha : zHas μ.1 μ.2.1 a j) (h0 : 0 < j) (h6 : j < 6) (hin : vp_in i (μ.2.1 a).2) (hv : va_rf ((zrr w μ a i.toNatClampNeg).map (zad w)) = zva w v)
    (kk : EV w d kc ks y (pc + 1) L (v :: st) μ Q) : EV w d kc ks y pc L (.int i :: .ref a :: st) μ Q := by
  intro p l e R s m args below meth c0 H locs cells slots Qf ls hG hC hL hP h1 h2 h3 h4 hQ
  have hat := hP.at ha.1 ha.2.1
  rw [zE_ref ha.2.2 h0 (by omega)] at hat
  obtain ⟨ty, ht, hr⟩ := zT_at (w := w) h6
  have hlt : i.toNatClampNeg < (μ.2.1 a).2 := Nat.not_le.mp fun q => hin (Or.inr q)
  refine W.aald (v := zva w v) (ty := ty) hC.1 hC.2.1 (cell := vp_cell (zcA w j) ((μ.2.1 a).2, .inr (.inr (.inr (.inr (fun k => (zrr w μ a k).map (zad w))))))) hat (((zKs hG hC.fr).2 j _ ht).1 _ (fun k => va_rf ((zrr w μ a k).map (zad w)))) (by rw [hr]; simp; omega) (fun q => by cases q) (by show ¬ (i < 0 ∨ (arrV _ _ _).slots.size ≤ _); rw [arrV_size]; exact hin) (by show (arrV _ _ _).slots[_]? = _; rw [arrV_read _ _ hlt, hv]) rfl rfl hd ?_
  exact kk p l e R s m args below meth c0 H locs cells slots Qf ls hG hC hL hP h1 h2 h3 h4 hQ
theorem ev_aaldR {a j b : Nat} {i : Int32} (hd : decode y.2.1 pc = .ok (.aaload, 1)) (ha : zHas μ.1 μ.2.1 a j) (h0 : 0 < j) (h6 : j < 6) (hin : vp_in i (μ.2.1 a).2) (hv : zrr w μ a i.toNatClampNeg = some b)
    (kk : EV w d kc ks y (pc + 1) L (.ref b :: st) μ Q) : EV w d kc ks y pc L (.int i :: .ref a :: st) μ Q := ev_aald hd ha h0 h6 hin (by rw [hv]; rfl) kk
theorem ev_aaldN {a j : Nat} {i : Int32} (hd : decode y.2.1 pc = .ok (.aaload, 1)) (ha : zHas μ.1 μ.2.1 a j) (h0 : 0 < j) (h6 : j < 6) (hin : vp_in i (μ.2.1 a).2) (hv : zrr w μ a i.toNatClampNeg = none)
    (kk : EV w d kc ks y (pc + 1) L (.null :: st) μ Q) : EV w d kc ks y pc L (.int i :: .ref a :: st) μ Q := ev_aald hd ha h0 h6 hin (by rw [hv]; rfl) kk
theorem ev_alen {a j : Nat} {x : Int32} (hd : decode y.2.1 pc = .ok (.arraylength, 1)) (ha : zHas μ.1 μ.2.1 a j) (h6 : j < 6) (hv : Int32.ofNat (μ.2.1 a).2 = x)
    (kk : EV w d kc ks y (pc + 1) L (.int x :: st) μ Q) : EV w d kc ks y pc L (.ref a :: st) μ Q := by
  intro p l e R s m args below meth c0 H locs cells slots Qf ls hG hC hL hP h1 h2 h3 h4 hQ
  have he := zWs_at w (μ := μ) ha.1 ha.2.1
  obtain ⟨ty, ht, -⟩ := zT_at (w := w) h6
  by_cases h0 : j = 0
  · subst h0
    rw [zE_int ha.2.2] at he
    exact va_alen (D := zD w) hC.1 hC.2.1 (zKs hG hC.fr) (hP.p ha.2.1) (zix a) 0 he ht hv hd (kk p l e R s m args below meth c0 H locs cells slots Qf ls hG hC hL hP h1 h2 h3 h4 hQ)
  · rw [zE_ref ha.2.2 (by omega) (by omega)] at he
    exact va_alen (D := zD w) hC.1 hC.2.1 (zKs hG hC.fr) (hP.p ha.2.1) (zix a) j he ht hv hd (kk p l e R s m args below meth c0 H locs cells slots Qf ls hG hC hL hP h1 h2 h3 h4 hQ)
/-- null into a row of references -/
theorem ev_aastN {a j : Nat} {i : Int32} (hd : decode y.2.1 pc = .ok (.aastore, 1)) (ha : zHas μ.1 μ.2.1 a j) (h0 : 1 < j) (h6 : j < 6) (hs : ∀ k, zst w a k = none) (hin : vp_in i (μ.2.1 a).2)
    (kk : EV w d kc ks y (pc + 1) L st (zR μ a i.toNatClampNeg none) Q) : EV w d kc ks y pc L (.null :: .int i :: .ref a :: st) μ Q := by
  intro p l e R s m args below meth c0 H locs cells slots Qf ls hG hC hL hP h1 h2 h3 h4 hQ
  have hat := hP.at ha.1 ha.2.1
  rw [zE_ref ha.2.2 (by omega) (by omega)] at hat
  have hC' : ∃ C : String, (zT w)[j]? = some (zcA w j, .object C) := by
    match j, h0, h6 with
    | 2, _, _ => exact ⟨_, rfl⟩
    | 3, _, _ => exact ⟨_, rfl⟩
    | 4, _, _ => exact ⟨_, rfl⟩
    | 5, _, _ => exact ⟨_, rfl⟩
  obtain ⟨C, ht⟩ := hC'
  refine va_WaastN (C := C) hC.1 hC.2.1 (cell := vp_cell (zcA w j) ((μ.2.1 a).2, .inr (.inr (.inr (.inr (fun k => (zrr w μ a k).map (zad w))))))) hat (((zKs hG hC.fr).2 j _ ht).1 _ (fun k => va_rf ((zrr w μ a k).map (zad w)))) (fun h => by cases h) (by show ¬ (i < 0 ∨ (arrV _ _ _).slots.size ≤ _); rw [arrV_size]; exact hin) rfl rfl hd fun H1 x1 x2 x3 => ?_
  refine kk p l e R s m args below meth c0 H1 _ cells slots Qf ls hG hC hL (hP.put (μ' := zR μ a i.toNatClampNeg none) ha.1 ha.2.1 rfl (fun b hb => zE_zR hb) ?_ x2 x3) h1 h2 h3 h4 hQ
  rw [zE_ref (j := j) (show (zk (zR μ a i.toNatClampNeg none) a).1 = j from ha.2.2) (by omega) (by omega)]
  show H1[zad w a]? = some (vp_cell _ _)
  rw [x1, vp_cell_q, vp_cell_q, arrV_store]
  show some (arrV _ (μ.2.1 a).2 _) = some (arrV _ (μ.2.1 a).2 _)
  congr 2
  funext q
  unfold zrr
  rw [zr_zR, hs]
  by_cases hq : q = i.toNatClampNeg
  · subst hq
    simp [updV, va_up, va_rf]
  · simp [updV, va_up, hq, hs]
/-! rows of bytes, rows of longs -/
theorem ev_bald2 {a : Nat} {i x : Int32} (hd : decode y.2.1 pc = .ok (.baload, 1)) (ha : zHas μ.1 μ.2.1 a 12) (hin : vp_in i (μ.2.1 a).2) (hv : zi μ a i.toNatClampNeg = x)
    (kk : EV w d kc ks y (pc + 1) L (.int x :: st) μ Q) : EV w d kc ks y pc L (.int i :: .ref a :: st) μ Q := by
  intro p l e R s m args below meth c0 H locs cells slots Qf ls hG hC hL hP h1 h2 h3 h4 hQ
  have he := zWs_at w (μ := μ) ha.1 ha.2.1
  rw [zE_byt ha.2.2] at he
  refine va_bald (D := zD w) hC.1 hC.2.1 (zKs hG hC.fr) (hP.p ha.2.1) (zix a) 6 he rfl hin hd ?_
  rw [hv]
  exact kk p l e R s m args below meth c0 H locs cells slots Qf ls hG hC hL hP h1 h2 h3 h4 hQ
theorem ev_bast {a : Nat} {i x v : Int32} (hd : decode y.2.1 pc = .ok (.bastore, 1)) (ha : zHas μ.1 μ.2.1 a 12) (hin : vp_in i (μ.2.1 a).2) (hv : x.toInt8.toInt32 = v)
    (kk : EV w d kc ks y (pc + 1) L st (zI μ a i.toNatClampNeg v) Q) : EV w d kc ks y pc L (.int x :: .int i :: .ref a :: st) μ Q := by
  subst hv
  intro p l e R s m args below meth c0 H locs cells slots Qf ls hG hC hL hP h1 h2 h3 h4 hQ
  have hat := hP.at ha.1 ha.2.1
  rw [zE_byt ha.2.2] at hat
  refine W.bast hC.1 hC.2.1 (a := zad w a) (cell := vp_cell (zcA w 6) ((μ.2.1 a).2, .inl (zi μ a))) hat (((zKs hG hC.fr).2 6 _ rfl).1 _ (fun j => .int (zi μ a j))) (fun q => by cases q) (by show ¬ (i < 0 ∨ (arrV _ _ _).slots.size ≤ _); rw [arrV_size]; exact hin) rfl rfl hd fun H1 x1 x2 x3 => ?_
  refine kk p l e R s m args below meth c0 H1 _ cells slots Qf ls hG hC hL (hP.put (μ' := zI μ a i.toNatClampNeg x.toInt8.toInt32) ha.1 ha.2.1 rfl (fun b hb => zE_zA hb) ?_ x2 x3) h1 h2 h3 h4 hQ
  rw [zE_byt (show (zk (zI μ a i.toNatClampNeg x.toInt8.toInt32) a).1 = 12 from ha.2.2)]
  show H1[zad w a]? = some (vp_cell _ _)
  rw [x1]
  unfold zI
  rw [zi_zA, vp_cell_i, vp_cell_i, arrV_store]
  show some (arrV _ (μ.2.1 a).2 _) = some (arrV _ (μ.2.1 a).2 _)
  congr 2
  funext q
  by_cases hq : q = i.toNatClampNeg
  · subst hq
    simp [updV, upd, narrow]
  · simp [updV, upd, hq]
theorem ev_alenB {a : Nat} {x : Int32} (hd : decode y.2.1 pc = .ok (.arraylength, 1)) (ha : zHas μ.1 μ.2.1 a 12) (hv : Int32.ofNat (μ.2.1 a).2 = x)
    (kk : EV w d kc ks y (pc + 1) L (.int x :: st) μ Q) : EV w d kc ks y pc L (.ref a :: st) μ Q := by
  intro p l e R s m args below meth c0 H locs cells slots Qf ls hG hC hL hP h1 h2 h3 h4 hQ
  have he := zWs_at w (μ := μ) ha.1 ha.2.1
  rw [zE_byt ha.2.2] at he
  exact va_alen (D := zD w) hC.1 hC.2.1 (zKs hG hC.fr) (hP.p ha.2.1) (zix a) 6 he rfl hv hd (kk p l e R s m args below meth c0 H locs cells slots Qf ls hG hC hL hP h1 h2 h3 h4 hQ)
theorem ev_lald {a : Nat} {i : Int32} {x : Int64} (hd : decode y.2.1 pc = .ok (.laload, 1)) (ha : zHas μ.1 μ.2.1 a 14) (hin : vp_in i (μ.2.1 a).2) (hv : zlg w a (zi μ a) i.toNatClampNeg = x)
    (kk : EV w d kc ks y (pc + 1) L (.long x :: st) μ Q) : EV w d kc ks y pc L (.int i :: .ref a :: st) μ Q := by
  intro p l e R s m args below meth c0 H locs cells slots Qf ls hG hC hL hP h1 h2 h3 h4 hQ
  have he := zWs_at w (μ := μ) ha.1 ha.2.1
  rw [zE_lng ha.2.2] at he
  refine va_lald (D := zD w) hC.1 hC.2.1 (zKs hG hC.fr) (hP.p ha.2.1) (zix a) 7 he rfl hin hd ?_
  rw [hv]
  exact kk p l e R s m args below meth c0 H locs cells slots Qf ls hG hC hL hP h1 h2 h3 h4 hQ
def zuL (h : Nat → Int64) (k : Nat) (x : Int64) : Nat → Int64 := fun j => if j = k then x else h j
/-- a memory whose row a holds the longs h -/
def zHm (μ : zM) (a : Nat) (h : Nat → Int64) : zM := zA μ a (zpr h)
theorem zHm_i {μ : zM} {a : Nat} {h : Nat → Int64} : zi (zHm μ a h) a = zpr h := by
  unfold zHm
  rw [zi_zA]
theorem zHm_n {μ : zM} {a : Nat} {h : Nat → Int64} : zn (zHm μ a h) = zn μ := rfl
theorem zHm_k {μ : zM} {a b : Nat} {h : Nat → Int64} : zk (zHm μ a h) b = zk μ b := rfl
theorem zHm_E {w : zW} {μ : zM} {a b : Nat} {h : Nat → Int64} (hb : b ≠ a) : zE w (zHm μ a h) b = zE w μ b := zE_zA hb
theorem ev_lastH {a : Nat} {i : Int32} {x : Int64} {h : Nat → Int64} (hw : zhm w = none) (hd : decode y.2.1 pc = .ok (.lastore, 1)) (ha : zHas μ.1 μ.2.1 a 14) (hin : vp_in i (μ.2.1 a).2)
    (kk : EV w d kc ks y (pc + 1) L st (zHm μ a (zuL h i.toNatClampNeg x)) Q) : EV w d kc ks y pc L (.long x :: .int i :: .ref a :: st) (zHm μ a h) Q := by
  intro p l e R s m args below meth c0 H locs cells slots Qf ls hG hC hL hP h1 h2 h3 h4 hQ
  have hat := hP.at ha.1 (by rw [zHm_n]; exact ha.2.1)
  rw [zE_lng (by rw [zHm_k]; exact ha.2.2), zHm_i, zlg_pr hw, zHm_k] at hat
  refine W.last hC.1 hC.2.1 (a := zad w a) (cell := vp_cell (zcA w 7) ((μ.2.1 a).2, .inr (.inl h))) hat (((zKs hG hC.fr).2 7 _ rfl).1 _ (fun j => .long (h j))) (fun q => by cases q) (by show ¬ (i < 0 ∨ (arrV _ _ _).slots.size ≤ _); rw [arrV_size]; exact hin) rfl rfl hd fun H1 x1 x2 x3 => ?_
  refine kk p l e R s m args below meth c0 H1 _ cells slots Qf ls hG hC hL (hP.put (μ' := zHm μ a (zuL h i.toNatClampNeg x)) ha.1 (by rw [zHm_n]; exact ha.2.1) (by rw [zHm_n, zHm_n]) (fun b hb => by rw [zHm_E hb, zHm_E hb]) ?_ x2 x3) h1 h2 h3 h4 hQ
  rw [zE_lng (by rw [zHm_k]; exact ha.2.2), zHm_i, zlg_pr hw, zHm_k]
  show H1[zad w a]? = some (vp_cell _ _)
  rw [x1, vp_cell_l, vp_cell_l, arrV_store]
  show some (arrV _ (μ.2.1 a).2 _) = some (arrV _ (μ.2.1 a).2 _)
  congr 2
  funext q
  by_cases hq : q = i.toNatClampNeg
  · subst hq
    simp [updV, zuL]
  · simp [updV, zuL, hq]
theorem ev_laldH {a : Nat} {i : Int32} {x : Int64} {h : Nat → Int64} (hw : zhm w = none) (hd : decode y.2.1 pc = .ok (.laload, 1)) (ha : zHas μ.1 μ.2.1 a 14) (hin : vp_in i (μ.2.1 a).2) (hv : h i.toNatClampNeg = x)
    (kk : EV w d kc ks y (pc + 1) L (.long x :: st) (zHm μ a h) Q) : EV w d kc ks y pc L (.int i :: .ref a :: st) (zHm μ a h) Q :=
  ev_lald hd ha hin (by rw [zHm_i, zlg_pr hw, hv]) kk
/-- the row is never written again: the world holds it -/
theorem ev_laldW {a : Nat} {i : Int32} {x : Int64} {h : Nat → Int64} (hw : zhm w = some (a, h)) (hd : decode y.2.1 pc = .ok (.laload, 1)) (ha : zHas μ.1 μ.2.1 a 14) (hin : vp_in i (μ.2.1 a).2) (hv : h i.toNatClampNeg = x)
    (kk : EV w d kc ks y (pc + 1) L (.long x :: st) μ Q) : EV w d kc ks y pc L (.int i :: .ref a :: st) μ Q :=
  ev_lald hd ha hin (show zlg w a (zi μ a) i.toNatClampNeg = x from (congrFun (zlg_w hw (zi μ a)) i.toNatClampNeg).trans hv) kk
end EVC
