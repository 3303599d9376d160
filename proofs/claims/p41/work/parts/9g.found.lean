/-! pure part: what the reference's search finds -/
theorem zNn_lt {c : Nat} {st : Nat → Nat} (h : zst' c st) : ∀ k, k ≤ c → zNn st k < (10 : Int) ^ k := by
  intro k
  induction k with
  | zero => intro _; exact (show (0 : Int) < 10 ^ 0 by decide)
  | succ k ih =>
    intro hk
    have h1 := ih (by omega)
    obtain ⟨a1, a2⟩ := h k (by omega)
    rw [zNn, Int.pow_succ]
    omega
section
variable {n : Nat} {kd : zMK} {R : zMR} {L s t c : Nat} {A : Nat → Nat} {I J0 : zMI}
theorem zDt_720 (hQ : zQ n kd R L s t A I J0) (hc : (J0 81 3).toInt.toNat = c) (c1 : 1 ≤ c) : zDt (zct J0) c 0 0 ≤ 720 := by
  have hst : zst' c (fun w => if w = 0 then 0 else 9) := fun w _ => by
    by_cases x : w = 0
    · subst x
      exact ⟨Nat.zero_le _, Nat.le_refl _⟩
    · show (if w = 0 then 0 else 9) ≤ (if w + 1 = 0 then 0 else 9) ∧ (if w + 1 = 0 then 0 else 9) ≤ 9
      rw [if_neg x, if_neg (by omega)]
      omega
  exact zDt_any (F := zct J0) (st := fun w => if w = 0 then 0 else 9) (m := 720) hst (if_neg (by omega)) (by decide) c 0 (by omega) (fun i _ hi => (zsg_r hQ hc hst hi).2)
theorem zct_nn (hQ : zQ n kd R L s t A I J0) (hc : (J0 81 3).toInt.toNat = c) : ∀ w h, w < c → h < 9 → 0 ≤ zct J0 w h := fun w h hw hh => by
  have := zct_r hQ (w := w) (h := h) (by omega) hh
  omega
theorem g12_finds (hQ : zQ n kd R L s t A I J0) (hc : (J0 81 3).toInt.toNat = c) (c1 : 1 ≤ c) : ∃ v J', f12_findsStretches J0 = some (v, J') ∧ v.toInt = zDt (zct J0) c 0 0 ∧ zgv c (zat (zct J0) c (zDt (zct J0) c 0 0)) (J' 111) ∧ zQJ J0 J' := by
  have a2 := hQ.2.1.2.1
  have c5 : c ≤ 5 := by omega
  obtain ⟨hp, hp4⟩ := zP10 c1 c5
  have hp0 : (0 : Int) < 10 ^ (c - 1) := Int.pow_pos (by decide)
  have hm := zDt_720 hQ hc c1
  obtain ⟨v, J1, u1, u2, u3⟩ := g12_findL (k85 := f12_findsStretches_B85) hQ hc c1 ((10 : Int) ^ (c - 1)).toNat zF (-1) 0 J0 zQJ_rfl (by rw [z0]; omega) (by rw [z0]; omega) (by unfold zF; omega) (Or.inl ⟨znm1, fun st hv x => by
    have : ∀ k, 0 ≤ zNn st k := by
      intro k
      induction k with
      | zero => exact Int.le_refl _
      | succ k ih => rw [zNn]; omega
    have := this (c - 1)
    rw [z0] at x
    omega⟩)
  obtain ⟨e1, e2⟩ := zfnd_end c1 (zct_nn hQ hc) (by omega) u2 (zNn_lt zat_st (c - 1) (by omega))
  obtain ⟨J2, y1, y2, y3, y4⟩ := g12_giveL (l1 := v) 5 zF 0 J1 (by rw [z0]; rfl) (by rw [z0]; omega) (by unfold zF; omega)
  refine ⟨v, J2, ?_, e1, fun w hw => ?_, zQJ_tr u3 ⟨fun b _ _ _ y _ => y4 b y, fun j _ => by rw [y4 81 (by decide)]⟩⟩
  · unfold f12_findsStretches
    rw [u1]
    unfold f12_findsStretches_B85
    exact y1
  · rw [y2 w (by rw [z0]; omega) (by omega)]
    exact e2 w hw
end
