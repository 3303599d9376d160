/-! once everything is built, what never changes is told as such -/
def zto (w : zW) : zW := (w.1, w.2.1, w.2.2.1, w.2.2.2.1, w.2.2.2.2.1, zSt0, w.2.2.2.2.2.2)
def zfx (R : zMR) : zMR := fun a k => match zSt0 a k with
  | some r => r
  | none => R a k
theorem zto_st (w : zW) : zst (zto w) = zSt0 := rfl
theorem zto_E {w : zW} (hw : ∀ a k, zst w a k = none) (n : Nat) (kd : zMK) (I : zMI) (R : zMR) (b : Nat) : zE w (n, kd, I, zfx R) b = zE (zto w) (n, kd, I, R) b := by
  have h : ∀ k, zrr w (n, kd, I, zfx R) b k = zrr (zto w) (n, kd, I, R) b k := fun k => by
    unfold zrr
    rw [hw, zto_st]
    show zfx R b k = _
    unfold zfx
    rfl
  unfold zE zv
  simp only [h]
  rfl
theorem zto_Ws {w : zW} (hw : ∀ a k, zst w a k = none) (n : Nat) (kd : zMK) (I : zMI) (R : zMR) : zWs w (n, kd, I, zfx R) = zWs (zto w) (n, kd, I, R) := by
  unfold zWs
  refine List.map_congr_left fun j _ => ?_
  rw [zto_E hw]
  rfl
theorem zto_Lv (w : zW) : ∀ (L : List (Option Value)) (i : Nat), zLv (zto w) i L = zLv w i L
  | [], _ => rfl
  | none :: L, i => zto_Lv w L (i + 1)
  | some v :: L, i => by
    show (i, zva (zto w) v) :: zLv (zto w) (i + 1) L = (i, zva w v) :: zLv w (i + 1) L
    rw [zto_Lv w L (i + 1)]
    rfl
theorem EV.mode {w : zW} {d kc ks : Nat} {y : zY} {pc : Nat} {L : List (Option Value)} {st : List Value} {n : Nat} {kd : zMK} {I : zMI} {R : zMR} {Q : Option Value → zM → Prop} (hw : ∀ a k, zst w a k = none)
    (h : EV (zto w) d kc ks y pc L st (n, kd, I, R) Q) : EV w d kc ks y pc L st (n, kd, I, zfx R) (fun v μ1 => ∃ μ2, Q v μ2 ∧ μ1 = (μ2.1, μ2.2.1, μ2.2.2.1, zfx μ2.2.2.2)) := by
  intro p l e R0 s m args below meth c H locs cells slots Qf ls hG hC hL hP h1 h2 h3 h4 k
  have hL' : zL (zto w) y.2.2.1 ls L := by
    unfold zL at hL ⊢
    rw [zto_Lv]
    exact hL
  have hP' : zRp (zto w) s (n, kd, I, R) H locs := ⟨hP.1, hP.2.1, by rw [← zto_Ws hw]; exact hP.2.2.1, hP.2.2.2⟩
  refine h p l e R0 s m args below meth c H locs cells slots Qf ls hG hC hL' hP' h1 h2 h3 h4 (fun v μ2 H' locs' cells' slots' pc' ls' q r a b t => ?_)
  refine k v (μ2.1, μ2.2.1, μ2.2.2.1, zfx μ2.2.2.2) H' locs' cells' slots' pc' ls' ⟨μ2, q, rfl⟩ ⟨r.1, r.2.1, ?_, r.2.2.2⟩ a b t
  rw [zto_Ws hw]
  exact r.2.2.1
def zfxB (R : zMR) : Bool := [32, 37, 41, 42, 43, 56, 73, 75, 77, 79, 81].all fun a => (List.range 64).all fun k => match zSt0 a k with
  | none => true
  | some r => decide (R a k = r)
theorem zSt0_far {a k : Nat} (h : 64 ≤ k) : zSt0 a k = none := by
  unfold zSt0
  split <;> first | rfl | (split <;> first | rfl | (exfalso; omega)) | (rw [if_neg (by omega)])
theorem zfxB_eq {R : zMR} (h : zfxB R = true) : zfx R = R := by
  funext a k
  unfold zfx
  cases e : zSt0 a k with
  | none => rfl
  | some r =>
    have hk : k < 64 := Nat.not_le.mp fun q => by rw [zSt0_far q] at e; cases e
    have ha : a ∈ [32, 37, 41, 42, 43, 56, 73, 75, 77, 79, 81] := by
      have h2 : ¬ zStA a = false := fun q => by rw [zSt0_none q] at e; cases e
      rw [Bool.not_eq_false] at h2
      unfold zStA at h2
      simp only [Bool.or_eq_true, beq_iff_eq] at h2
      simp only [List.mem_cons, List.not_mem_nil, or_false]
      omega
    have h3 := List.all_eq_true.mp (List.all_eq_true.mp h a ha) k (List.mem_range.mpr hk)
    rw [e] at h3
    exact (of_decide_eq_true h3).symm
theorem cm_textM {w : zW} {d kc ks : Nat} {y : zY} {pc : Nat} {L : List (Option Value)} {n : Nat} {kd : zMK} {I : zMI} {R : zMR} {Q : Option Value → zM → Prop} {idx a : Nat} {r : Int32 × zMI} (hd : decode y.2.1 pc = .ok (.invokevirtual idx, 3)) (hl : Cond.methodLink y.1.cls idx yX12_text ∈ zGT) (ha : a = 81) (hS : zSh n kd) (hf : zfxB R = true) (hw : ∀ a k, zst w a k = none) (h : f12_text I = some r) (hdd : 6 ≤ d)
    (k : EV w d kc ks y (pc + 3) L [.int r.1] (n, kd, r.2, R) Q) : EV w d kc ks y pc L [.ref a] (n, kd, I, R) Q := by
  subst ha
  have h1 := EV.mode hw (e12_text (R := R) (zto_st w) hS (Nat.le_refl 5) h)
  rw [zfxB_eq hf] at h1
  refine ev_callV0 hd zm12_text hl zi12_text zv12_text (zrcM hS) (As := []) (rest := []) rfl rfl (Nat.le_of_ble_eq_true rfl) rfl (Nat.le_of_ble_eq_true rfl) (d' := 5) (by omega) h1 (fun v μ1 q => ?_)
  obtain ⟨μ2, ⟨rfl, rfl⟩, rfl⟩ := q
  show EV w d kc ks y (pc + 3) L [.int r.1] (n, kd, r.2, zfx R) Q
  rw [zfxB_eq hf]
  exact k
