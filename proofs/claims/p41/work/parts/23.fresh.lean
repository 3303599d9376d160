/-! the row frozen; a fresh object, asked at once -/
/-- from now on the row at ah is h, and isn't written -/
def zfz (w : zW) (ah : Nat) (h : Nat → Int64) : zW := (w.1, w.2.1, w.2.2.1, w.2.2.2.1, w.2.2.2.2.1, w.2.2.2.2.2.1, w.2.2.2.2.2.2.1, w.2.2.2.2.2.2.2.1, some (ah, h))
theorem zfz_E {w : zW} (hw : zhm w = none) (n : Nat) (kd : zMK) (J : zMI) (R : zMR) (ah : Nat) (h : Nat → Int64) (hk : (kd ah).1 = 14) (b : Nat) : zE (zfz w ah h) (n, kd, J, R) b = zE w (zHm (n, kd, J, R) ah h) b := by
  have hf : zhm (zfz w ah h) = some (ah, h) := rfl
  by_cases e : b = ah
  · subst e
    rw [zE_lng (show (zk (n, kd, J, R) b).1 = 14 from hk), zE_lng (by rw [zHm_k]; exact hk), zHm_k, zHm_i, zlg_pr hw, zlg_w hf]
    rfl
  · rw [zHm_E e]
    by_cases hb : (kd b).1 = 14
    · rw [zE_lng (show (zk (n, kd, J, R) b).1 = 14 from hb), zE_lng (show (zk (n, kd, J, R) b).1 = 14 from hb), zlg_ne hf e, zlg_n hw]
      rfl
    · have hk2 : ¬ (zk (n, kd, J, R) b).1 = 14 := hb
      unfold zE
      rw [if_neg hk2, if_neg hk2]
      rfl
theorem zfz_Lv (w : zW) (ah : Nat) (h : Nat → Int64) : ∀ (L : List (Option Value)) (i : Nat), zLv (zfz w ah h) i L = zLv w i L
  | [], _ => rfl
  | none :: L, i => zfz_Lv w ah h L (i + 1)
  | some v :: L, i => by
    show (i, zva (zfz w ah h) v) :: zLv (zfz w ah h) (i + 1) L = (i, zva w v) :: zLv w (i + 1) L
    rw [zfz_Lv w ah h L (i + 1)]
    rfl
/-- at the method's end nothing is said of the memory -/
theorem EV.frz {w : zW} {d kc ks : Nat} {y : zY} {pc : Nat} {L : List (Option Value)} {st : List Value} {n : Nat} {kd : zMK} {J : zMI} {R : zMR} {ah : Nat} {h : Nat → Int64} {q : Option Value → Prop} (hw : zhm w = none) (hk : (kd ah).1 = 14) (hx : EV (zfz w ah h) d kc ks y pc L st (n, kd, J, R) (fun v _ => q v)) : EV w d kc ks y pc L st (zHm (n, kd, J, R) ah h) (fun v _ => q v) := by
  intro p l e R0 s m args below meth c H locs cells slots Qf ls hG hC hL hP h1 h2 h3 h4 k
  have hWs : zWs (zfz w ah h) (n, kd, J, R) = zWs w (zHm (n, kd, J, R) ah h) := by
    unfold zWs
    refine List.map_congr_left fun j _ => ?_
    rw [zfz_E hw n kd J R ah h hk]
    rfl
  have hL' : zL (zfz w ah h) y.2.2.1 ls L := by
    unfold zL at hL ⊢
    rw [zfz_Lv]
    exact hL
  have hP' : zRp (zfz w ah h) s (n, kd, J, R) H locs := ⟨fun z => ⟨(hP.1 z).1, (hP.1 z).2.1, by rw [hWs]; exact (hP.1 z).2.2⟩, hP.2⟩
  refine hx p l e R0 s m args below meth c H locs cells slots Qf ls hG hC hL' hP' h1 h2 h3 h4 (fun v μ2 H' locs' cells' slots' pc' ls' qv r a b t => ?_)
  exact k v (0, zD0, zI0, zR0) H' locs' cells' slots' pc' ls' qv ⟨fun z => absurd rfl z, r.2⟩ a b t
def zM0 : zM := (0, zD0, zI0, zR0)
/-! less of the heap may be written -/
theorem va_Z_sub {C n d : String} {v : Value} {A A' : Nat → Prop} {U : State} {H : Heap} (h : va_Z C n d v A U H) (hs : ∀ q, A' q → A q) : va_Z C n d v A' U H := by
  obtain ⟨cf, kf, fi, f, a, cell, h1, h2, h3, h4, h5, h6, h7, h8⟩ := h
  exact ⟨cf, kf, fi, f, a, cell, h1, h2, h3, h4, h5, h6, h7, fun q => h8 (hs _ q)⟩
theorem va_T_sub {ty : FieldType} {t N : Nat} {f : Nat → Value} {A A' : Nat → Prop} {U : State} {H : Heap} (h : va_T ty t N f A U H) (hs : ∀ q, A' q → A q) : va_T ty t N f A' U H := by
  obtain ⟨cell, h1, h2, h3, h4, h5, h6, h7⟩ := h
  exact ⟨cell, h1, h2, h3, h4, h5, h6, fun q => h7 (hs _ q)⟩
theorem va_O_sub {E : String} {t : Nat} {A A' : Nat → Prop} {U : State} {H : Heap} (h : va_O E t A U H) (hs : ∀ q, A' q → A q) : va_O E t A' U H := by
  obtain ⟨cell, h1, h2, h3, h4⟩ := h
  exact ⟨cell, h1, h2, h3, fun q => h4 (hs _ q)⟩
theorem va_OF_sub {o n d : String} {v : Value} {t : Nat} {A A' : Nat → Prop} {U : State} {H : Heap} (h : va_OF o n d v t A U H) (hs : ∀ q, A' q → A q) : va_OF o n d v t A' U H := by
  obtain ⟨cf, k, i, f, cell, h1, h2, h3, h4, h5, h6⟩ := h
  exact ⟨cf, k, i, f, cell, h1, h2, h3, h4, h5, fun q => h6 (hs _ q)⟩
theorem vk_S_sub {N : Nat} {len : List Nat} {byt : List (List Int32)} {aK aV : Nat → Nat} {A A' : Nat → Prop} {U : State} {H : Heap} (h : vk_S N len byt aK aV A U H) (hs : ∀ q, A' q → A q) : vk_S N len byt aK aV A' U H :=
  ⟨fun i hi => ⟨va_O_sub (h.1 i hi).1 hs, va_OF_sub (h.1 i hi).2.1 hs, va_OF_sub (h.1 i hi).2.2.1 hs, va_T_sub (h.1 i hi).2.2.2 hs⟩, h.2⟩
/-! a world of its own, begun where the heap ends now -/
def zw3 (w : zW) (s : State) (H : Heap) : zW := (H.size, { s with heap := H }, zD w, zcA w, zca w, fun _ _ => none, zxl w, zxs w, none)
section
variable {w : zW} {s : State} {μ : zM} {H : Heap} {locs : List Loc}
theorem zw3_le (hF : zFr w s) (hP : zRp w s μ H locs) : zb0 w ≤ H.size := Nat.le_trans hF.2.1 hP.2.1
theorem zw3_G (hG : zGF w) (hF : zFr w s) (hP : zRp w s μ H locs) : zGF (zw3 w s H) := by
  have hle := zw3_le hF hP
  have hs : ∀ q, zAq (zw3 w s H) q → zAq w q := fun q h => Nat.le_trans hle h
  have hal : s.vm.Alike ({ s with heap := H } : State).vm := Vm.Alike.refl _
  have hkp : ∀ a : Nat, a < s.heap.size → ¬ zAq w a → H[a]? = s.heap[a]? := fun a h1 h2 => hP.2.2.1 a h1 h2
  have hk0 := zkept hG hF
  have hold : ∀ a : Nat, a < zb0 w → H[a]? = s.heap[a]? := fun a ha => hP.2.2.1 a (Nat.lt_of_lt_of_le ha hF.2.1) (fun z => absurd z (Nat.not_le.mpr ha))
  have tc : ∀ {i N : Nat} {f : Nat → Int32}, zTc w i N f → zTc (zw3 w s H) i N f := fun {i N f} ht => by
    obtain ⟨cell, q1, q2⟩ := ht
    have hl : zca w i < zb0 w := by rw [hG.1]; exact (Array.getElem?_eq_some_iff.mp q1).1
    exact ⟨cell, by show H[zca w i]? = _; rw [hold _ hl, hF.2.2.1 _ hl]; exact q1, q2⟩
  have tz : ∀ {C n d : String} {v : Value}, va_Z C n d v (zAq w) (zs0 w) (zs0 w).heap → va_Z C n d v (zAq (zw3 w s H)) ({ s with heap := H } : State) H := fun {C n d v} h => va_Z_sub (va_Z.moved hal ((va_Z.moved hF.1 h).kept hk0 |>.kept hkp)) hs
  refine ⟨rfl, (zKs hG hF).moved hal, ⟨(va_X.moved hal ((zX hG hF).kept (hold _ hG.2.2.1.2))), Nat.lt_of_lt_of_le hG.2.2.1.2 hle⟩, ⟨tz hG.2.2.2.1.1, tc hG.2.2.2.1.2⟩, ⟨tz hG.2.2.2.2.1.1, tc hG.2.2.2.2.1.2⟩, tz hG.2.2.2.2.2.1, ?_, fun C hC => ((hG.2.2.2.2.2.2.2.1 C hC).moved hF.1).moved hal, (hG.2.2.2.2.2.2.2.2.1.moved hF.1).moved hal, ?_, ?_⟩
  · exact vk_S_sub (vk_S.moved hal ((zstr hG hF).kept hkp)) hs
  · exact tz hG.2.2.2.2.2.2.2.2.2.1
  · exact ⟨tz hG.2.2.2.2.2.2.2.2.2.2.1, va_T_sub (va_T.moved hal ((va_T.moved hF.1 hG.2.2.2.2.2.2.2.2.2.2.2).kept hk0 |>.kept hkp)) hs⟩
theorem zw3_F (hF : zFr w s) {U : State} (hW : s.WarmedH U.vm) (hsz : H.size ≤ U.heap.size) (hq : ∀ q : Nat, q < H.size → U.heap[q]? = H[q]?) : zFr (zw3 w s H) U := by
  obtain ⟨h1, h2, h3, h4, h5⟩ := hF
  refine ⟨hW.alike, hsz, fun q hq' => hq q hq', fun i hi => vk_R.warm hW (h4 i hi), fun v hm => ?_⟩
  have hz := h5 v hm
  simp only [zNw, List.mem_cons, List.not_mem_nil, or_false] at hm
  rcases hm with rfl | rfl | rfl | rfl | rfl | rfl | rfl | rfl
  · exact va_Nw.warmC hW hz
  · exact va_Nw.warmC hW hz
  · exact va_Nw.warmC hW hz
  · exact va_Nw.warmC hW hz
  · exact va_Nw.warmC hW hz
  · exact va_Nw.warmC hW hz
  · exact va_Nw.warmM hW hz
  · exact va_Nw.warmM hW hz
/-- ghosts and what never changes, said of a heap -/
theorem zNm_gap {w : zW} (hw : ∀ a k, zst w a k = none) {H : Heap} {kd kd' : zMK} {I I' : zMI} {R R' : zMR} (h1 : ∀ b, b < 81 → kd' b = kd b) (h2 : ∀ b, b < 81 → I' b = I b) (h3 : ∀ b, b < 81 → R' b = R b) (hfx : zfx R' = R') (h : zNm w (81, kd, I, R) H) : zNm (zto w) (114, kd', I', R') H := fun _ => by
  have hz : zsz (zn (114, kd', I', R')) = zsz (zn (81, kd, I, R)) := rfl
  refine ⟨⟨show 32 ≤ 114 by decide, Or.inr (show 114 ≤ 114 by decide)⟩, ?_, ?_⟩
  · rw [hz]
    exact (h (show 81 ≠ 0 by decide)).2.1
  · have e : zWs (zto w) (114, kd', I', R') = zWs w (81, kd, I, R) := by
      rw [← zto_Ws hw, hfx]
      unfold zWs
      rw [hz]
      refine List.map_congr_left fun j hj => ?_
      have hj' : j < 49 := List.mem_range.mp hj
      have hu : zun j < 81 := by
        unfold zun
        rw [if_pos hj']
        omega
      rw [zghost_E (n := 81) (kd := kd) (I := I) (R := R) (h1 _ hu) (h2 _ hu) (h3 _ hu)]
    rw [e]
    exact (h (show 81 ≠ 0 by decide)).2.2
end
/-- a fresh object's run of 600 seconds: no programme -/
def zB1r : Option (Int32 × zMI × zMR) := f11_run 114 zB1k 600 0 (zB1I (fun _ _ => 0)) zB1R
theorem zB1r_0 : zB1r.map (fun r => r.1) = some 0 := by decide +kernel
