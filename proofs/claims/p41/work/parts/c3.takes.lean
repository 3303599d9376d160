/-! pure part: how many, how long: on both sides -/
theorem tl_cmp0 (x y : Int64) : lg_cmp x y = 0 ↔ x.toInt = y.toInt := by
  unfold lg_cmp
  simp only [gt_iff_lt, Int64.lt_iff_toInt_lt, ← Int64.toInt_inj]
  repeat' split
  all_goals (constructor <;> intro hh <;> first | omega | decide | exact absurd hh (by decide))
theorem tl_cmpl (x y : Int64) : lg_cmp x y < 0 ↔ x.toInt < y.toInt := by
  unfold lg_cmp
  simp only [gt_iff_lt, Int64.lt_iff_toInt_lt, ← Int64.toInt_inj]
  repeat' split
  all_goals (constructor <;> intro hh <;> first | omega | decide | exact absurd hh (by decide))
theorem tl_cmple (x y : Int64) : lg_cmp x y ≤ 0 ↔ x.toInt ≤ y.toInt := by
  unfold lg_cmp
  simp only [gt_iff_lt, Int64.lt_iff_toInt_lt, ← Int64.toInt_inj]
  repeat' split
  all_goals (constructor <;> intro hh <;> first | omega | decide | exact absurd hh (by decide))
theorem tl_cmpge (x y : Int64) : 0 ≤ lg_cmp x y ↔ y.toInt ≤ x.toInt := by
  unfold lg_cmp
  simp only [gt_iff_lt, Int64.lt_iff_toInt_lt, ← Int64.toInt_inj]
  repeat' split
  all_goals (constructor <;> intro hh <;> first | omega | decide | exact absurd hh (by decide))
theorem tl_lt (x y : Int64) : x < y ↔ x.toInt < y.toInt := Int64.lt_iff_toInt_lt
theorem tl_32 (x : Int32) : x.toInt64.toInt = x.toInt := Int32.toInt_toInt64 x
theorem tl_to32 {x : Int64} (h : -2147483648 ≤ x.toInt ∧ x.toInt < 2147483648) : x.toInt32.toInt = x.toInt := by
  rw [Int64.toInt_toInt32]
  exact Int.bmod_eq_of_le (by omega) (by omega)
theorem tl_eq32 {x : Int64} {y : Int32} (h : x.toInt = y.toInt) : x.toInt32 = y := by
  have r := zrange y
  rw [zeq_iff, tl_to32 (by omega), h]
section
variable {sl : Nat} {sf : Nat → Int32}
theorem tl_held {x : Int64} {lo hi : Int32} (h : lo.toInt ≤ hi.toInt) : ∃ v, fL_held sl sf x lo hi = some v ∧ v.toInt = clampI x.toInt lo.toInt hi.toInt := by
  have rl := zrange lo
  have rh := zrange hi
  unfold fL_held clampI
  obtain ⟨a, ha⟩ : ∃ a, (if x < hi.toInt64 then x else hi.toInt64) = a := ⟨_, rfl⟩
  have a1 : a.toInt = if x.toInt < hi.toInt then x.toInt else hi.toInt := by
    rw [← ha]
    by_cases q : x < hi.toInt64
    · rw [if_pos q]
      rw [tl_lt, tl_32] at q
      rw [if_pos q]
    · rw [if_neg q, tl_32]
      rw [tl_lt, tl_32] at q
      rw [if_neg q]
  rw [zl_eq, ha, zl_eq]
  obtain ⟨b, hb⟩ : ∃ b, (if a < lo.toInt64 then lo.toInt64 else a) = b := ⟨_, rfl⟩
  have b1 : b.toInt = if a.toInt < lo.toInt then lo.toInt else a.toInt := by
    rw [← hb]
    by_cases q : a < lo.toInt64
    · rw [if_pos q, tl_32]
      rw [tl_lt, tl_32] at q
      rw [if_pos q]
    · rw [if_neg q]
      rw [tl_lt, tl_32] at q
      rw [if_neg q]
  rw [hb]
  refine ⟨_, rfl, ?_⟩
  have hb2 : b.toInt = if x.toInt < lo.toInt then lo.toInt else if hi.toInt < x.toInt then hi.toInt else x.toInt := by
    rw [b1, a1]
    by_cases q1 : x.toInt < hi.toInt
    · rw [if_pos q1]
      by_cases q2 : x.toInt < lo.toInt
      · rw [if_pos q2, if_pos q2]
      · rw [if_neg q2, if_neg q2, if_neg (by omega)]
    · rw [if_neg q1, if_neg (by omega), if_neg (by omega)]
      by_cases q2 : hi.toInt < x.toInt
      · rw [if_pos q2]
      · rw [if_neg q2]
        omega
  rw [tl_to32 (by rw [hb2]; repeat' split; all_goals omega)]
  exact hb2
def qT (sl : Nat) (sf : Nat → Int32) (w : Nat) (h d : Int) : Int :=
  max 1 (if sKind sl sf w = 2 then qTakes sl sf h d + (sMore sl sf w).toInt / 2 else if sKind sl sf w = 3 then qTakes sl sf h d + 1 else if sKind sl sf w = 4 then qTakes sl sf h d + ((sMore sl sf w).toInt / 2 + (if d ≤ (sMore sl sf w).toInt then 1 else 2)) else if sKind sl sf w = 5 then (if d < (sMore sl sf w).toInt then qTakes sl sf h d else qTakes sl sf h d / 2) else qTakes sl sf h d)
def qS (sl : Nat) (sf : Nat → Int32) (w : Nat) (l : Int) : Int :=
  max 1 (if sKind sl sf w = 1 ∨ sKind sl sf w = 3 then qSteps sl sf w l - (sMore sl sf w).toInt / 3 else if sKind sl sf w = 4 then 2 * qSteps sl sf w l else qSteps sl sf w l)
theorem clampI_r {x lo hi : Int} (h : lo ≤ hi) : lo ≤ clampI x lo hi ∧ clampI x lo hi ≤ hi := by
  unfold clampI
  split
  · omega
  · split <;> omega
theorem qTakes_r {h d : Int} : 1 ≤ qTakes sl sf h d ∧ qTakes sl sf h d ≤ 20 := by
  unfold qTakes
  split
  · omega
  · exact clampI_r (by decide)
theorem qSteps_r {w : Nat} {l : Int} : 1 ≤ qSteps sl sf w l ∧ qSteps sl sf w l ≤ 20 := by
  unfold qSteps
  split
  · omega
  · exact clampI_r (by decide)
theorem qT_r (hL : sl ≤ 260) {w : Nat} {h d : Int} : 1 ≤ qT sl sf w h d ∧ qT sl sf w h d ≤ 100 := by
  have r := qTakes_r (sl := sl) (sf := sf) (h := h) (d := d)
  have m := s_more (sf := sf) hL w
  unfold qT
  refine ⟨Int.le_max_left _ _, ?_⟩
  repeat' split
  all_goals omega
theorem qS_r (hL : sl ≤ 260) {w : Nat} {l : Int} : 1 ≤ qS sl sf w l ∧ qS sl sf w l ≤ 100 := by
  have r := qSteps_r (sl := sl) (sf := sf) (w := w) (l := l)
  have m := s_more (sf := sf) hL w
  unfold qS
  refine ⟨Int.le_max_left _ _, ?_⟩
  repeat' split
  all_goals omega
theorem t_max1 (x : Int32) (I : zMI) : ∃ v, f12_takesOf_B120 x I = some (v, I) ∧ v.toInt = max 1 x.toInt := by
  unfold f12_takesOf_B120
  rw [zl_eq]
  refine ⟨_, rfl, ?_⟩
  by_cases q : (1 : Int32) ≤ x
  · rw [if_pos q]
    rw [zle_iff, z1] at q
    omega
  · rw [if_neg q]
    rw [zle_iff, z1] at q
    rw [z1]
    omega
/-- the reference: how many seconds -/
theorem t_takesOf (hL : sl ≤ 260) {J : zMI} (hD : zDef sl sf J) {h l d : Int32} {w : Nat} (hw : w < (sMany sl sf).toInt.toNat) (hh : 0 ≤ h.toInt ∧ h.toInt ≤ 8) (hd : 0 ≤ d.toInt ∧ d.toInt ≤ 10000) : ∃ v J', f12_takesOf (Int32.ofNat w) h l d J = some (v, J') ∧ v.toInt = qT sl sf w h.toInt d.toInt ∧ ∀ b, b ≠ 97 → b ≠ 98 → J' b = J b := by
  have my := s_many (sf := sf) hL
  have ew := zofn_i (m := w) (by omega)
  obtain ⟨v, J', a1, a2, a3⟩ := t_asks0 hD (h := h) (l := l) (d := d) (w := w) (by omega) hh hd
  have e85 : J' 85 w = sMore sl sf w := by rw [a3 85 (by decide) (by decide)]; exact (hD.2.2.1.2 w hw).2.1
  have e84 : J' 84 w = sKind sl sf w := by rw [a3 84 (by decide) (by decide)]; exact (hD.2.2.1.2 w hw).1
  have mo := s_more (sf := sf) hL w
  have rv := qTakes_r (sl := sl) (sf := sf) (h := h.toInt) (d := d.toInt)
  have e2 : (2 : Int32).toInt = 2 := rfl
  have d2 := zdiv (a := sMore sl sf w) (b := 2) mo.2.1 (by decide)
  rw [e2] at d2
  have v2 := zdiv (a := v) (b := 2) (by omega) (by decide)
  rw [e2] at v2
  unfold f12_takesOf qT
  rw [a1, zb_some, if_pos (zib_ok (by omega) (by omega)), zofn_n (by omega), zl_eq]
  simp only [e84, e85]
  by_cases k2 : sKind sl sf w = 2
  · rw [if_pos k2, if_pos k2, zl_eq]
    obtain ⟨x, x1, x2⟩ := t_max1 (v + sMore sl sf w / 2) J'
    exact ⟨x, J', x1, by rw [x2, zadd (by omega) (by omega), d2, a2], a3⟩
  rw [if_neg k2, if_neg k2]
  by_cases k3 : sKind sl sf w = 3
  · rw [if_pos k3, if_pos k3]
    obtain ⟨x, x1, x2⟩ := t_max1 (v + 1) J'
    exact ⟨x, J', x1, by rw [x2, zadd (by rw [z1]; omega) (by rw [z1]; omega), z1, a2], a3⟩
  rw [if_neg k3, if_neg k3]
  by_cases k4 : sKind sl sf w = 4
  · rw [if_pos k4, if_pos k4]
    obtain ⟨y, hy⟩ : ∃ y : Int32, (if d ≤ sMore sl sf w then (1 : Int32) else 2) = y := ⟨_, rfl⟩
    have y1 : y.toInt = if d.toInt ≤ (sMore sl sf w).toInt then 1 else 2 := by
      rw [← hy]
      by_cases q : d ≤ sMore sl sf w
      · rw [if_pos q]
        rw [zle_iff] at q
        rw [if_pos q]
        rfl
      · rw [if_neg q]
        rw [zle_iff] at q
        rw [if_neg q]
        rfl
    have y2 : 1 ≤ y.toInt ∧ y.toInt ≤ 2 := by rw [y1]; split <;> omega
    rw [hy, zl_eq, zl_eq]
    obtain ⟨x, x1, x2⟩ := t_max1 (v + (sMore sl sf w / 2 + y)) J'
    have ei : (sMore sl sf w / 2 + y).toInt = (sMore sl sf w).toInt / 2 + y.toInt := by rw [zadd (by omega) (by omega), d2]
    exact ⟨x, J', x1, by rw [x2, zadd (by omega) (by omega), ei, a2, y1], a3⟩
  rw [if_neg k4, if_neg k4]
  by_cases k5 : sKind sl sf w = 5
  · rw [if_pos k5, if_pos k5]
    obtain ⟨y, hy⟩ : ∃ y : Int32, (if d < sMore sl sf w then v else v / 2) = y := ⟨_, rfl⟩
    have y1 : y.toInt = if d.toInt < (sMore sl sf w).toInt then qTakes sl sf h.toInt d.toInt else qTakes sl sf h.toInt d.toInt / 2 := by
      rw [← hy]
      by_cases q : d < sMore sl sf w
      · rw [if_pos q]
        rw [zlt_iff] at q
        rw [if_pos q, a2]
      · rw [if_neg q]
        rw [zlt_iff] at q
        rw [if_neg q, v2, a2]
    rw [hy, zl_eq]
    obtain ⟨x, x1, x2⟩ := t_max1 y J'
    exact ⟨x, J', x1, by rw [x2, y1], a3⟩
  · rw [if_neg k5, if_neg k5]
    obtain ⟨x, x1, x2⟩ := t_max1 v J'
    exact ⟨x, J', x1, by rw [x2, a2], a3⟩
theorem t_stepsOf (hL : sl ≤ 260) {J : zMI} (hD : zDef sl sf J) {h l d : Int32} {w : Nat} (hw : w < (sMany sl sf).toInt.toNat) (hl : 0 ≤ l.toInt ∧ l.toInt ≤ 10000) : ∃ v J', f12_stepsOf (Int32.ofNat w) h l d J = some (v, J') ∧ v.toInt = qS sl sf w l.toInt ∧ ∀ b, b ≠ 97 → b ≠ 98 → J' b = J b := by
  have my := s_many (sf := sf) hL
  have ew := zofn_i (m := w) (by omega)
  obtain ⟨v, J', a1, a2, a3⟩ := t_asks1 hD hL (h := h) (l := l) (d := d) (w := w) (by omega) hl
  have e85 : J' 85 w = sMore sl sf w := by rw [a3 85 (by decide) (by decide)]; exact (hD.2.2.1.2 w hw).2.1
  have e84 : J' 84 w = sKind sl sf w := by rw [a3 84 (by decide) (by decide)]; exact (hD.2.2.1.2 w hw).1
  have mo := s_more (sf := sf) hL w
  have rv := qSteps_r (sl := sl) (sf := sf) (w := w) (l := l.toInt)
  have e2 : (2 : Int32).toInt = 2 := rfl
  have e3 : (3 : Int32).toInt = 3 := rfl
  have d3 := zdiv (a := sMore sl sf w) (b := 3) mo.2.1 (by decide)
  rw [e3] at d3
  unfold f12_stepsOf qS
  rw [a1, zb_some, if_pos (zib_ok (by omega) (by omega)), zofn_n (by omega)]
  simp only [e84, e85]
  obtain ⟨y, hy⟩ : ∃ y : Int32, (if sKind sl sf w = 1 then v - sMore sl sf w / 3 else if sKind sl sf w = 3 then v - sMore sl sf w / 3 else if sKind sl sf w = 4 then (2 : Int32) * v else v) = y := ⟨_, rfl⟩
  have y1 : y.toInt = (if sKind sl sf w = 1 ∨ sKind sl sf w = 3 then qSteps sl sf w l.toInt - (sMore sl sf w).toInt / 3 else if sKind sl sf w = 4 then 2 * qSteps sl sf w l.toInt else qSteps sl sf w l.toInt) := by
    rw [← hy]
    by_cases k1 : sKind sl sf w = 1
    · rw [if_pos k1, if_pos (Or.inl k1), zsub (by omega) (by omega), d3, a2]
    rw [if_neg k1]
    by_cases k3 : sKind sl sf w = 3
    · rw [if_pos k3, if_pos (Or.inr k3), zsub (by omega) (by omega), d3, a2]
    have k13 : ¬ (sKind sl sf w = 1 ∨ sKind sl sf w = 3) := fun q => q.elim k1 k3
    rw [if_neg k3, if_neg k13]
    by_cases k4 : sKind sl sf w = 4
    · rw [if_pos k4, if_pos k4, zmul (by rw [e2]; omega) (by rw [e2]; omega), e2, a2]
    · rw [if_neg k4, if_neg k4, a2]
  rw [hy, zl_eq, zl_eq]
  refine ⟨_, J', rfl, ?_, a3⟩
  rw [← y1]
  by_cases q : (1 : Int32) ≤ y
  · rw [if_pos q]
    rw [zle_iff, z1] at q
    omega
  · rw [if_neg q]
    rw [zle_iff, z1] at q
    rw [z1]
    omega
end
