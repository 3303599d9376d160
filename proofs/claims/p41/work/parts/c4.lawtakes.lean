/-! pure part: the law's own takes and steps -/
theorem tix (c : Nat) {w : Nat} (h : c + w < 1000) : (Int32.ofNat c + Int32.ofNat w).toNatClampNeg = c + w := by
  rw [zofadd, zofn_n (by omega)]
theorem tib (c : Nat) {w : Nat} (h : c + w < 130) : zib (Int32.ofNat c + Int32.ofNat w) 130 = true := by
  rw [zofadd]
  exact zib_ok (by rw [zofn_i (by omega)]; omega) (by rw [zofn_i (by omega)]; omega)
section
variable {sl : Nat} {sf : Nat → Int32} {h : zML}
theorem tl_max1 (x : Int32) : ∃ v, (zl (if (1 : Int32) < x then x else (1 : Int32)) fun x2 => some (x2)) = some v ∧ v.toInt = max 1 x.toInt := by
  rw [zl_eq]
  refine ⟨_, rfl, ?_⟩
  by_cases q : (1 : Int32) < x
  · rw [if_pos q]
    rw [zlt_iff, z1] at q
    omega
  · rw [if_neg q]
    rw [zlt_iff, z1] at q
    rw [z1]
    omega
theorem tl_B108 {d : Int64} {v k m : Int32} (hv : 1 ≤ v.toInt) : ∃ x, fL_takes_B108 h sl sf d v k m = some x ∧ x.toInt = max 1 (if k = 5 then (if d.toInt < m.toInt then v.toInt else v.toInt / 2) else v.toInt) := by
  unfold fL_takes_B108
  have e2 : (2 : Int32).toInt = 2 := rfl
  have v2 := zdiv (a := v) (b := 2) (by omega) (by decide)
  rw [e2] at v2
  by_cases k5 : k = 5
  · rw [if_pos k5, if_pos k5]
    by_cases q : lg_cmp d m.toInt64 < 0
    · rw [if_pos q]
      rw [tl_cmpl, tl_32] at q
      rw [if_pos q]
      exact tl_max1 v
    · rw [if_neg q]
      rw [tl_cmpl, tl_32] at q
      rw [if_neg q, ← v2]
      exact tl_max1 _
  · rw [if_neg k5, if_neg k5]
    exact tl_max1 v
theorem tl_B35 (hL : sl ≤ 260) {w : Nat} {d : Int64} {v : Int32} (hw : w < 5) (hk : (h (20 + w)).toInt = (sKind sl sf w).toInt) (hv : 1 ≤ v.toInt ∧ v.toInt ≤ 20) : ∃ x, fL_takes_B35 h sl sf (Int32.ofNat w) d v = some x ∧ x.toInt = max 1 (if sKind sl sf w = 2 then v.toInt + (sMore sl sf w).toInt / 2 else if sKind sl sf w = 3 then v.toInt + 1 else if sKind sl sf w = 4 then v.toInt + ((sMore sl sf w).toInt / 2 + (if d.toInt ≤ (sMore sl sf w).toInt then 1 else 2)) else if sKind sl sf w = 5 then (if d.toInt < (sMore sl sf w).toInt then v.toInt else v.toInt / 2) else v.toInt) := by
  have mo := s_more (sf := sf) hL w
  have ek : (h ((Int32.ofNat 20 + Int32.ofNat w).toNatClampNeg)).toInt32 = sKind sl sf w := by rw [tix 20 (by omega)]; exact tl_eq32 hk
  have e2 : (2 : Int32).toInt = 2 := rfl
  have d2 := zdiv (a := sMore sl sf w) (b := 2) mo.2.1 (by decide)
  rw [e2] at d2
  have c23 : ¬ (2 : Int32) = 3 := by decide
  have c24 : ¬ (2 : Int32) = 4 := by decide
  have c25 : ¬ (2 : Int32) = 5 := by decide
  have c42 : ¬ (4 : Int32) = 2 := by decide
  have c43 : ¬ (4 : Int32) = 3 := by decide
  have c45 : ¬ (4 : Int32) = 5 := by decide
  have c32 : ¬ (3 : Int32) = 2 := by decide
  have c34 : ¬ (3 : Int32) = 4 := by decide
  have c35 : ¬ (3 : Int32) = 5 := by decide
  unfold fL_takes_B35
  rw [show (20 : Int32) = Int32.ofNat 20 from rfl, if_pos (tib 20 (by omega)), ek, zl_eq, mo.1, zb_some]
  by_cases k2 : sKind sl sf w = 2
  · rw [k2, if_pos rfl, if_pos rfl]
    unfold fL_takes_B65 fL_takes_B74 fL_takes_B83
    rw [zl_eq, if_neg c23, if_neg c24]
    have ev : (v + sMore sl sf w / 2).toInt = v.toInt + (sMore sl sf w).toInt / 2 := by rw [zadd (by omega) (by omega), d2]
    obtain ⟨x, x1, x2⟩ := tl_B108 (h := h) (sl := sl) (sf := sf) (d := d) (v := v + sMore sl sf w / 2) (k := 2) (m := sMore sl sf w) (by omega)
    exact ⟨x, x1, by rw [x2, if_neg c25, ev]⟩
  rw [if_neg k2, if_neg k2]
  by_cases k4 : sKind sl sf w = 4
  · rw [k4, if_pos rfl, if_neg c43, if_pos rfl]
    unfold fL_takes_B65 fL_takes_B74 fL_takes_B83
    obtain ⟨y, hy⟩ : ∃ y : Int32, (if lg_cmp d (sMore sl sf w).toInt64 ≤ 0 then (1 : Int32) else 2) = y := ⟨_, rfl⟩
    have y1 : y.toInt = if d.toInt ≤ (sMore sl sf w).toInt then 1 else 2 := by
      rw [← hy]
      by_cases q : lg_cmp d (sMore sl sf w).toInt64 ≤ 0
      · rw [if_pos q]
        rw [tl_cmple, tl_32] at q
        rw [if_pos q]
        rfl
      · rw [if_neg q]
        rw [tl_cmple, tl_32] at q
        rw [if_neg q]
        rfl
    have y2 : 1 ≤ y.toInt ∧ y.toInt ≤ 2 := by rw [y1]; split <;> omega
    rw [zl_eq, if_neg c43, if_pos rfl, hy, zl_eq]
    have e1 : (v + sMore sl sf w / 2).toInt = v.toInt + (sMore sl sf w).toInt / 2 := by rw [zadd (by omega) (by omega), d2]
    have ev : (v + sMore sl sf w / 2 + y).toInt = v.toInt + (sMore sl sf w).toInt / 2 + y.toInt := by rw [zadd (by omega) (by omega), e1]
    obtain ⟨x, x1, x2⟩ := tl_B108 (h := h) (sl := sl) (sf := sf) (d := d) (v := v + sMore sl sf w / 2 + y) (k := 4) (m := sMore sl sf w) (by omega)
    exact ⟨x, x1, by rw [x2, if_neg c45, ev, y1, Int.add_assoc]⟩
  rw [if_neg k4]
  by_cases k3 : sKind sl sf w = 3
  · rw [k3, if_pos rfl]
    unfold fL_takes_B74 fL_takes_B83
    rw [if_pos rfl, if_neg c34]
    have ev : (v + 1).toInt = v.toInt + 1 := by rw [zadd (by rw [z1]; omega) (by rw [z1]; omega), z1]
    obtain ⟨x, x1, x2⟩ := tl_B108 (h := h) (sl := sl) (sf := sf) (d := d) (v := v + 1) (k := 3) (m := sMore sl sf w) (by omega)
    exact ⟨x, x1, by rw [x2, if_neg c35, ev]⟩
  · rw [if_neg k3, if_neg k4]
    unfold fL_takes_B74 fL_takes_B83
    rw [if_neg k3, if_neg k4]
    exact tl_B108 hv.1
theorem tl_takes (hL : sl ≤ 260) {w : Nat} {hp d : Int64} (hw : w < 5) (hk : (h (20 + w)).toInt = (sKind sl sf w).toInt) (hh : 0 ≤ hp.toInt ∧ hp.toInt ≤ 8) (hd : 0 ≤ d.toInt ∧ d.toInt ≤ 10000) : ∃ x, fL_takes h sl sf (Int32.ofNat w) hp d = some x ∧ x.toInt = qT sl sf w hp.toInt d.toInt := by
  have at0 : fL_at sl sf 0 = some (sA sl sf 0) := s_at hL (k := 0) rfl (by decide)
  have tA := sTa_ok (sl := sl) (sf := sf)
  unfold fL_takes
  rw [s_plain hL, zb_some]
  have rq := qTakes_r (sl := sl) (sf := sf) (h := hp.toInt) (d := d.toInt)
  by_cases hpl : sPl sl sf = true
  · rw [if_pos hpl, if_neg (by decide)]
    have e : qTakes sl sf hp.toInt d.toInt = (2 : Int32).toInt := by unfold qTakes; rw [if_pos hpl]; rfl
    obtain ⟨x, x1, x2⟩ := tl_B35 (h := h) (sf := sf) hL (w := w) (d := d) (v := 2) hw hk (by decide)
    refine ⟨x, x1, ?_⟩
    rw [x2]
    unfold qT
    rw [e]
  · rw [if_neg hpl, if_pos rfl, at0, zb_some, tA.1]
    have eA := zofn_i (m := sTa sl sf) (by omega)
    have rA : sTa sl sf = 0 ∨ sTa sl sf = 1 := by omega
    obtain ⟨A, hA⟩ : ∃ A, sTa sl sf = A := ⟨_, rfl⟩
    have mA : (hp * (Int32.ofNat (sTa sl sf)).toInt64).toInt = hp.toInt * (sTa sl sf : Int) := by
      rw [hA] at eA rA ⊢
      rcases rA with rfl | rfl
      · rw [zlmul (by rw [tl_32, eA]; omega) (by rw [tl_32, eA]; omega), tl_32, eA]
      · rw [zlmul (by rw [tl_32, eA]; omega) (by rw [tl_32, eA]; omega), tl_32, eA]
    have rm : 0 ≤ hp.toInt * (sTa sl sf : Int) ∧ hp.toInt * (sTa sl sf : Int) ≤ 8 := by
      rw [hA] at rA ⊢
      rcases rA with rfl | rfl <;> omega
    have l1 : (1 : Int64).toInt = 1 := rfl
    have e1 : ((1 : Int64) + hp * (Int32.ofNat (sTa sl sf)).toInt64).toInt = 1 + hp.toInt * (sTa sl sf : Int) := by
      rw [zladd (by rw [mA, l1]; omega) (by rw [mA, l1]; omega), mA, l1]
    have e2 : ((1 : Int64) + hp * (Int32.ofNat (sTa sl sf)).toInt64 + d).toInt = 1 + hp.toInt * (sTa sl sf : Int) + d.toInt := by
      rw [zladd (by rw [e1]; omega) (by rw [e1]; omega), e1]
    obtain ⟨v, v1, v2⟩ := tl_held (sl := sl) (sf := sf) (x := (1 : Int64) + hp * (Int32.ofNat (sTa sl sf)).toInt64 + d) (lo := 1) (hi := 20) (by decide)
    have ev : v.toInt = qTakes sl sf hp.toInt d.toInt := by
      rw [v2, e2]
      unfold qTakes
      rw [if_neg hpl]
      rfl
    rw [v1, zb_some]
    obtain ⟨x, x1, x2⟩ := tl_B35 (h := h) (sf := sf) hL (w := w) (d := d) (v := v) hw hk (by omega)
    refine ⟨x, x1, ?_⟩
    rw [x2, ev]
    rfl
theorem tl_S37 (hL : sl ≤ 260) {w : Nat} {v : Int32} (hw : w < 5) (hk : (h (20 + w)).toInt = (sKind sl sf w).toInt) (hv : 1 ≤ v.toInt ∧ v.toInt ≤ 20) : ∃ x, fL_steps_B37 h sl sf (Int32.ofNat w) v = some x ∧ x.toInt = max 1 (if sKind sl sf w = 1 ∨ sKind sl sf w = 3 then v.toInt - (sMore sl sf w).toInt / 3 else if sKind sl sf w = 4 then 2 * v.toInt else v.toInt) := by
  have mo := s_more (sf := sf) hL w
  have ek : (h ((Int32.ofNat 20 + Int32.ofNat w).toNatClampNeg)).toInt32 = sKind sl sf w := by rw [tix 20 (by omega)]; exact tl_eq32 hk
  have e3 : (3 : Int32).toInt = 3 := rfl
  have e2 : (2 : Int32).toInt = 2 := rfl
  have d3 := zdiv (a := sMore sl sf w) (b := 3) mo.2.1 (by decide)
  rw [e3] at d3
  have ev : (v - sMore sl sf w / 3).toInt = v.toInt - (sMore sl sf w).toInt / 3 := by rw [zsub (by omega) (by omega), d3]
  have ev2 : ((2 : Int32) * v).toInt = 2 * v.toInt := by rw [zmul (by rw [e2]; omega) (by rw [e2]; omega), e2]
  have B61 : ∃ x, fL_steps_B61 h sl sf (Int32.ofNat w) v 1 = some x ∧ x.toInt = max 1 (v.toInt - (sMore sl sf w).toInt / 3) := by
    unfold fL_steps_B61
    rw [mo.1, zb_some, ← ev]
    exact tl_max1 _
  unfold fL_steps_B37
  rw [show (20 : Int32) = Int32.ofNat 20 from rfl, if_pos (tib 20 (by omega)), ek, zl_eq]
  by_cases k1 : sKind sl sf w = 1
  · rw [if_pos k1, if_pos (Or.inl k1)]
    exact B61
  rw [if_neg k1]
  by_cases k3 : sKind sl sf w = 3
  · rw [if_pos k3, if_pos (Or.inr k3)]
    exact B61
  have k13 : ¬ (sKind sl sf w = 1 ∨ sKind sl sf w = 3) := fun q => q.elim k1 k3
  rw [if_neg k3, if_neg k13]
  by_cases k4 : sKind sl sf w = 4
  · rw [if_pos k4, if_pos k4, ← ev2]
    exact tl_max1 _
  · rw [if_neg k4, if_neg k4]
    exact tl_max1 _
theorem tl_steps (hL : sl ≤ 260) {w : Nat} {l : Int64} (hw : w < 5) (hk : (h (20 + w)).toInt = (sKind sl sf w).toInt) (hl : 0 ≤ l.toInt ∧ l.toInt ≤ 10000) : ∃ x, fL_steps h sl sf (Int32.ofNat w) l = some x ∧ x.toInt = qS sl sf w l.toInt := by
  have at0 : fL_at sl sf 0 = some (sA sl sf 0) := s_at hL (k := 0) rfl (by decide)
  have tB := sTb_ok (sl := sl) (sf := sf)
  have my := s_many (sf := sf) hL
  unfold fL_steps
  rw [s_plain hL, zb_some]
  have rq := qSteps_r (sl := sl) (sf := sf) (w := w) (l := l.toInt)
  by_cases hpl : sPl sl sf = true
  · rw [if_pos hpl, if_neg (by decide)]
    have e : qSteps sl sf w l.toInt = (1 : Int32).toInt := by unfold qSteps; rw [if_pos hpl]; rfl
    obtain ⟨x, x1, x2⟩ := tl_S37 (h := h) (sf := sf) hL (w := w) (v := 1) hw hk (by decide)
    refine ⟨x, x1, ?_⟩
    rw [x2]
    unfold qS
    rw [e]
  · rw [if_neg hpl, if_pos rfl, my.1, zb_some, at0, zb_some, tB.1]
    have eB := zofn_i (m := sTb sl sf) (by omega)
    have ew := zofn_i (m := w) (by omega)
    have rm : 0 ≤ (w : Int) * (sTb sl sf : Int) ∧ (w : Int) * (sTb sl sf : Int) ≤ 12 := by
      have : w * sTb sl sf ≤ 4 * 3 := Nat.mul_le_mul (by omega) (by omega)
      constructor
      · exact Int.mul_nonneg (by omega) (by omega)
      · exact_mod_cast this
    have mB : (Int32.ofNat w * Int32.ofNat (sTb sl sf)).toInt = (w : Int) * (sTb sl sf : Int) := by
      rw [zmul (by rw [eB, ew]; omega) (by rw [eB, ew]; omega), eB, ew]
    have e1 : (sMany sl sf + Int32.ofNat w * Int32.ofNat (sTb sl sf)).toInt = (sMany sl sf).toInt + (w : Int) * (sTb sl sf : Int) := by
      rw [zadd (by rw [mB]; omega) (by rw [mB]; omega), mB]
    have e2 : ((sMany sl sf + Int32.ofNat w * Int32.ofNat (sTb sl sf)).toInt64 - l).toInt = (sMany sl sf).toInt + (w : Int) * (sTb sl sf : Int) - l.toInt := by
      rw [zlsub (by rw [tl_32, e1]; omega) (by rw [tl_32, e1]; omega), tl_32, e1]
    obtain ⟨v, v1, v2⟩ := tl_held (sl := sl) (sf := sf) (x := (sMany sl sf + Int32.ofNat w * Int32.ofNat (sTb sl sf)).toInt64 - l) (lo := 1) (hi := 20) (by decide)
    have ev : v.toInt = qSteps sl sf w l.toInt := by
      rw [v2, e2]
      unfold qSteps
      rw [if_neg hpl]
      rfl
    rw [v1, zb_some]
    obtain ⟨x, x1, x2⟩ := tl_S37 (h := h) (sf := sf) hL (w := w) (v := v) hw hk (by omega)
    refine ⟨x, x1, ?_⟩
    rw [x2, ev]
    rfl
end
