/-! once everything is built, what never changes is told as such -/
def zto (w : zW) : zW := (w.1, w.2.1, w.2.2.1, w.2.2.2.1, w.2.2.2.2.1, zSt0, w.2.2.2.2.2.2)
def zfx (R : zMR) : zMR := fun a k => match zSt0 a k with
  | some r => r
  | none => R a k
theorem zto_st (w : zW) : zst (zto w) = zSt0 := rfl
theorem zto_E {w : zW} (hw : ∀ a k, zst w a k = none) (n : Nat) (kd : zMK) (I : zMI) (R : zMR) (b : Nat) : zE w (n, kd, I, zfx R) b = zE (zto w) (n, kd, I, R) b := by
  have h : ∀ k, zrr w (n, kd, I, zfx R) b k = zrr (zto w) (n, kd, I, R) b k := fun k => by
    unfold zrr
    rw [hw, zto_st]
    show zfx R b k = _
    unfold zfx
    rfl
  unfold zE zv
  simp only [h]
  rfl
theorem zto_Ws {w : zW} (hw : ∀ a k, zst w a k = none) (n : Nat) (kd : zMK) (I : zMI) (R : zMR) : zWs w (n, kd, I, zfx R) = zWs (zto w) (n, kd, I, R) := by
  unfold zWs
  refine List.map_congr_left fun j _ => ?_
  rw [zto_E hw]
  rfl
theorem zto_Lv (w : zW) : ∀ (L : List (Option Value)) (i : Nat), zLv (zto w) i L = zLv w i L
  | [], _ => rfl
  | none :: L, i => zto_Lv w L (i + 1)
  | some v :: L, i => by
    show (i, zva (zto w) v) :: zLv (zto w) (i + 1) L = (i, zva w v) :: zLv w (i + 1) L
    rw [zto_Lv w L (i + 1)]
    rfl
theorem EV.mode {w : zW} {d kc ks : Nat} {y : zY} {pc : Nat} {L : List (Option Value)} {st : List Value} {n : Nat} {kd : zMK} {I : zMI} {R : zMR} {Q : Option Value → zM → Prop} (hw : ∀ a k, zst w a k = none)
    (h : EV (zto w) d kc ks y pc L st (n, kd, I, R) Q) : EV w d kc ks y pc L st (n, kd, I, zfx R) (fun v μ1 => ∃ μ2, Q v μ2 ∧ μ1 = (μ2.1, μ2.2.1, μ2.2.2.1, zfx μ2.2.2.2)) := by
  intro p l e R0 s m args below meth c H locs cells slots Qf ls hG hC hL hP h1 h2 h3 h4 k
  have hL' : zL (zto w) y.2.2.1 ls L := by
    unfold zL at hL ⊢
    rw [zto_Lv]
    exact hL
  have hP' : zRp (zto w) s (n, kd, I, R) H locs := ⟨fun q => ⟨(hP.1 q).1, (hP.1 q).2.1, by rw [← zto_Ws hw]; exact (hP.1 q).2.2⟩, hP.2⟩
  refine h p l e R0 s m args below meth c H locs cells slots Qf ls hG hC hL' hP' h1 h2 h3 h4 (fun v μ2 H' locs' cells' slots' pc' ls' q r a b t => ?_)
  refine k v (μ2.1, μ2.2.1, μ2.2.2.1, zfx μ2.2.2.2) H' locs' cells' slots' pc' ls' ⟨μ2, q, rfl⟩ ⟨fun z => ⟨(r.1 z).1, (r.1 z).2.1, by rw [zto_Ws hw]; exact (r.1 z).2.2⟩, r.2⟩ a b t
def zfxB (R : zMR) : Bool := [32, 37, 41, 42, 43, 56, 73, 75, 77, 79, 81].all fun a => (List.range 64).all fun k => match zSt0 a k with
  | none => true
  | some r => decide (R a k = r)
theorem zSt0_far {a k : Nat} (h : 64 ≤ k) : zSt0 a k = none := by
  unfold zSt0
  split <;> first | rfl | (split <;> first | rfl | (exfalso; omega)) | (rw [if_neg (by omega)])
theorem zfxB_eq {R : zMR} (h : zfxB R = true) : zfx R = R := by
  funext a k
  unfold zfx
  cases e : zSt0 a k with
  | none => rfl
  | some r =>
    have hk : k < 64 := Nat.not_le.mp fun q => by rw [zSt0_far q] at e; cases e
    have ha : a ∈ [32, 37, 41, 42, 43, 56, 73, 75, 77, 79, 81] := by
      have h2 : ¬ zStA a = false := fun q => by rw [zSt0_none q] at e; cases e
      rw [Bool.not_eq_false] at h2
      unfold zStA at h2
      simp only [Bool.or_eq_true, beq_iff_eq] at h2
      simp only [List.mem_cons, List.not_mem_nil, or_false]
      omega
    have h3 := List.all_eq_true.mp (List.all_eq_true.mp h a ha) k (List.mem_range.mpr hk)
    rw [e] at h3
    exact (of_decide_eq_true h3).symm
/-- ghosts hold what one likes -/
def zGE (I J : zMI) : Prop := ∀ b, b < 81 ∨ 114 ≤ b → J b = I b
theorem zghost_E {w : zW} {n n' : Nat} {kd kd' : zMK} {I I' : zMI} {R R' : zMR} {b : Nat} (h1 : kd' b = kd b) (h2 : I' b = I b) (h3 : R' b = R b) : zE w (n', kd', I', R') b = zE w (n, kd, I, R) b := by
  have e1 : zk (n', kd', I', R') b = zk (n, kd, I, R) b := h1
  have e2 : zi (n', kd', I', R') b = zi (n, kd, I, R) b := h2
  have e3 : zr (n', kd', I', R') b = zr (n, kd, I, R) b := h3
  unfold zE zv zrr
  rw [e1, e2, e3]
theorem EV.ghost {w : zW} {d kc ks : Nat} {y : zY} {pc : Nat} {L : List (Option Value)} {st : List Value} {n : Nat} {kd : zMK} {I I' : zMI} {R : zMR} {Q : Option Value → zM → Prop} (hI : zGE I I') (h : EV w d kc ks y pc L st (n, kd, I', R) Q) : EV w d kc ks y pc L st (n, kd, I, R) Q := by
  intro p l e R0 s m args below meth c H locs cells slots Qf ls hG hC hL hP h1 h2 h3 h4 k
  refine h p l e R0 s m args below meth c H locs cells slots Qf ls hG hC hL ⟨fun q => ⟨(hP.1 q).1, (hP.1 q).2.1, ?_⟩, hP.2⟩ h1 h2 h3 h4 k
  have e : zWs w (n, kd, I', R) = zWs w (n, kd, I, R) := by
    unfold zWs
    refine List.map_congr_left fun j _ => ?_
    rw [zghost_E (n := n) (kd := kd) (I := I) (R := R) rfl (hI _ (zun_rl j).2) rfl]
  rw [e]
  exact (hP.1 q).2.2
/-- 81 cells are there: the ghosts come behind them -/
theorem EV.gap {w : zW} {d kc ks : Nat} {y : zY} {pc : Nat} {L : List (Option Value)} {st : List Value} {kd kd' : zMK} {I I' : zMI} {R R' : zMR} {Q : Option Value → zM → Prop} (h1 : ∀ b, b < 81 → kd' b = kd b) (h2 : ∀ b, b < 81 → I' b = I b) (h3 : ∀ b, b < 81 → R' b = R b) (h : EV w d kc ks y pc L st (114, kd', I', R') Q) : EV w d kc ks y pc L st (81, kd, I, R) Q := by
  intro p l e R0 s m args below meth c H locs cells slots Qf ls hG hC hL hP g1 g2 g3 g4 k
  have hz : zsz (zn (114, kd', I', R')) = zsz (zn (81, kd, I, R)) := rfl
  refine h p l e R0 s m args below meth c H locs cells slots Qf ls hG hC hL ⟨fun _ => ⟨⟨show 32 ≤ 114 by decide, Or.inr (show 114 ≤ 114 by decide)⟩, ?_, ?_⟩, hP.2⟩ g1 g2 g3 g4 k
  · rw [hz]
    exact (hP.1 (show 81 ≠ 0 by decide)).2.1
  · have e : zWs w (114, kd', I', R') = zWs w (81, kd, I, R) := by
      unfold zWs
      rw [hz]
      refine List.map_congr_left fun j hj => ?_
      have hj' : j < 49 := List.mem_range.mp hj
      have hu : zun j < 81 := by
        unfold zun
        rw [if_pos hj']
        omega
      rw [zghost_E (n := 81) (kd := kd) (I := I) (R := R) (h1 _ hu) (h2 _ hu) (h3 _ hu)]
    rw [e]
    exact (hP.1 (show 81 ≠ 0 by decide)).2.2
