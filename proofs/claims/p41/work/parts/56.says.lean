/-! pure part: what a text says, alike on both sides -/
theorem g3_bounded (p v : Int32) (hp : 0 ≤ p.toInt ∧ p.toInt ≤ 2) : f3_bounded p v = some (zBd p.toNatClampNeg v) := by
  have z99 : (99 : Int32).toInt = 99 := rfl
  have z20 : (20 : Int32).toInt = 20 := rfl
  unfold f3_bounded zBd
  by_cases c : p = 2
  · have c' : p.toNatClampNeg = 2 := by rw [c]; rfl
    rw [if_pos c, if_pos c', zl_eq, zl_eq]
    by_cases c1 : v.toInt < 0
    · have c2 : ¬ (0 : Int32) < v := by rw [zlt_iff, z0]; omega
      rw [if_pos c1, if_neg c2, if_pos (by decide)]
    · rw [if_neg c1]
      by_cases c2 : (0 : Int32) < v
      · rw [if_pos c2]
        by_cases c3 : (99 : Int) < v.toInt
        · rw [if_pos c3, if_neg (by rw [zlt_iff, z99]; omega)]
        · rw [if_neg c3]
          by_cases c4 : v < 99
          · rw [if_pos c4]
          · rw [if_neg c4]
            congr 1
            rw [zlt_iff, z99] at c4
            rw [zeq_iff, z99]
            omega
      · rw [if_neg c2, if_pos (by decide)]
        rw [zlt_iff, z0] at c2
        rw [if_neg (by omega)]
        congr 1
        rw [zeq_iff, z0]
        omega
  · have c' : ¬ p.toNatClampNeg = 2 := by
      rw [zcl_iff]
      rw [zeq_iff, z2] at c
      omega
    rw [if_neg c, if_neg c', zl_eq, zl_eq]
    by_cases c1 : v.toInt < 1
    · have c2 : ¬ (1 : Int32) < v := by rw [zlt_iff, z1]; omega
      rw [if_pos c1, if_neg c2, if_pos (by decide)]
    · rw [if_neg c1]
      by_cases c2 : (1 : Int32) < v
      · rw [if_pos c2]
        by_cases c3 : (20 : Int) < v.toInt
        · rw [if_pos c3, if_neg (by rw [zlt_iff, z20]; omega)]
        · rw [if_neg c3]
          by_cases c4 : v < 20
          · rw [if_pos c4]
          · rw [if_neg c4]
            congr 1
            rw [zlt_iff, z20] at c4
            rw [zeq_iff, z20]
            omega
      · rw [if_neg c2, if_pos (by decide)]
        rw [zlt_iff, z1] at c2
        rw [if_neg (by omega)]
        congr 1
        rw [zeq_iff, z1]
        omega
theorem g12_bounded (p v : Int32) (hp : 0 ≤ p.toInt ∧ p.toInt ≤ 2) : f12_within v (if p = 2 then 0 else 1) (if p = 2 then 99 else 20) = some (zBd p.toNatClampNeg v) := by
  have z99 : (99 : Int32).toInt = 99 := rfl
  have z20 : (20 : Int32).toInt = 20 := rfl
  unfold f12_within zBd
  by_cases c : p = 2
  · have c' : p.toNatClampNeg = 2 := by rw [c]; rfl
    rw [if_pos c, if_pos c, if_pos c', zl_eq]
    simp only [zle_iff, z0, z99]
    congr 1
    repeat' split
    all_goals first | rfl | (exfalso; omega)
  · have c' : ¬ p.toNatClampNeg = 2 := by
      rw [zcl_iff]
      rw [zeq_iff, z2] at c
      omega
    rw [if_neg c, if_neg c, if_neg c', zl_eq]
    simp only [zle_iff, z1, z20]
    congr 1
    repeat' split
    all_goals first | rfl | (exfalso; omega)
theorem zBd_rng (p : Nat) (v : Int32) : (p = 2 → 0 ≤ (zBd p v).toInt ∧ (zBd p v).toInt ≤ 99) ∧ (p ≠ 2 → 1 ≤ (zBd p v).toInt ∧ (zBd p v).toInt ≤ 20) := by
  have z99 : (99 : Int32).toInt = 99 := rfl
  have z20 : (20 : Int32).toInt = 20 := rfl
  unfold zBd
  refine ⟨fun h => ?_, fun h => ?_⟩
  · rw [if_pos h]
    split
    · rw [z0]; omega
    · split
      · rw [z99]; omega
      · omega
  · rw [if_neg h]
    split
    · rw [z1]; omega
    · split
      · rw [z20]; omega
      · omega
theorem zsayE {n : Nat} {kd : zMK} {R : zMR} {L s : Nat} {k : Nat → Int32 → Int32 → zMI → Option (Int32 × zMI)} {part l7 l8 w : Int32} {I J : zMI} {d q q' : Nat} (hL : zLo n kd R L s) (hk : zwk w) (hd : l7.toInt = (d : Int)) (h1 : zne w ≤ d) (h2 : d < 40) (es : ∀ j, j < d → I s j = J 97 j) (en : ∀ j, j < 6 → I (s + 1) j = J 98 j) : zsQ n kd R k q q' L s part l7 l8 w I J d := by
  rcases hk with hk | hk | hk | hk | hk | hk | hk | hk | hk | hk | hk
  · exact zsay_num hL hk hd h2
  · exact zsay_name hL hk hd h2 en
  · subst hk
    exact zsay_two hL hd h2 es (by decide) h1 (fun a b => by
      have e : zw2c (-11) = 11 := by decide
      rw [e]
      unfold f3_worked f12_two
      refine ⟨_, ?_, rfl⟩
      rw [if_neg (by decide), if_neg (by decide), if_neg (by decide), if_neg (by decide), if_neg (by decide), if_neg (by decide), if_neg (by decide), if_pos rfl]
      rfl) (by decide)
  · subst hk
    exact zsay_two hL hd h2 es (by decide) h1 (fun a b => by
      have e : zw2c (-12) = 12 := by decide
      rw [e]
      unfold f3_worked f12_two
      refine ⟨_, ?_, by rw [if_neg (by decide), if_pos rfl]; rfl⟩
      rw [if_neg (by decide), if_neg (by decide), if_neg (by decide), if_neg (by decide), if_neg (by decide), if_neg (by decide), if_pos rfl]
      rfl) (by decide)
  · subst hk
    exact zsay_two hL hd h2 es (by decide) h1 (fun a b => by
      have e : zw2c (-13) = 14 := by decide
      rw [e]
      unfold f3_worked f12_two
      refine ⟨_, ?_, by rw [if_neg (by decide), if_neg (by decide), if_pos rfl]; rfl⟩
      rw [if_neg (by decide), if_neg (by decide), if_neg (by decide), if_neg (by decide), if_neg (by decide), if_pos rfl]
      rfl) (by decide)
  · subst hk
    exact zsay_two hL hd h2 es (by decide) h1 (fun a b => by
      have e : zw2c (-14) = 15 := by decide
      rw [e]
      unfold f3_worked f12_two
      refine ⟨_, ?_, by rw [if_neg (by decide), if_neg (by decide), if_neg (by decide), if_pos rfl]; rfl⟩
      rw [if_neg (by decide), if_neg (by decide), if_neg (by decide), if_neg (by decide), if_pos rfl]
      rfl) (by decide)
  · subst hk
    exact zsay_two hL hd h2 es (by decide) h1 (fun a b => by
      have e : zw2c (-15) = 16 := by decide
      rw [e]
      unfold f3_worked f12_two
      refine ⟨_, ?_, by rw [if_neg (by decide), if_neg (by decide), if_neg (by decide), if_neg (by decide), if_pos rfl]⟩
      rw [if_neg (by decide), if_neg (by decide), if_neg (by decide), if_pos rfl]) (by decide)
  · subst hk
    exact zsay_two hL hd h2 es (by decide) h1 (fun a b => by
      have e : zw2c (-16) = 17 := by decide
      rw [e]
      unfold f3_worked f12_two
      refine ⟨_, ?_, by rw [if_neg (by decide), if_neg (by decide), if_neg (by decide), if_neg (by decide), if_neg (by decide), if_pos rfl]⟩
      rw [if_neg (by decide), if_neg (by decide), if_pos rfl]) (by decide)
  · subst hk
    exact zsay_two hL hd h2 es (by decide) h1 (fun a b => by
      have e : zw2c (-17) = 18 := by decide
      rw [e]
      unfold f3_worked f12_two
      refine ⟨_, ?_, by rw [if_neg (by decide), if_neg (by decide), if_neg (by decide), if_neg (by decide), if_neg (by decide), if_neg (by decide)]⟩
      rw [if_neg (by decide), if_pos rfl]) (by decide)
  · subst hk
    exact zsay_not hL hd h2 es h1
  · subst hk
    exact zsay_neg hL hd h2 es h1
theorem zsays_end {J : zMI} {part l7 l8 x : Int32} {t q' : Nat} (hp : 0 ≤ part.toInt ∧ part.toInt ≤ 2) (h8 : x.toInt ≤ l8.toInt) (ht : (J 81 12).toInt = (t : Int)) (ht6 : t < 6) (e89 : J 89 (4 * t + (part + 1).toNatClampNeg) = x) : f12_says_L16 (q' + 1) part l7 l8 J = some (J 97 0, J) := by
  have ep : (part + 1).toInt = part.toInt + 1 := zadd (by rw [z1]; omega) (by rw [z1]; omega)
  have a1 : ((4 : Int32) * J 81 12).toInt = 4 * t := by rw [zmul (by rw [zn4i]; omega) (by rw [zn4i]; omega), zn4i, ht]
  have a2 : ((4 : Int32) * J 81 12 + part).toInt = 4 * t + part.toInt := by rw [zadd (by omega) (by omega), a1]
  have a3 : ((4 : Int32) * J 81 12 + part + 1).toInt = 4 * t + part.toInt + 1 := by rw [zadd (by rw [z1]; omega) (by rw [z1]; omega), a2, z1]
  have a4 : ((4 : Int32) * J 81 12 + part + 1).toNatClampNeg = 4 * t + (part + 1).toNatClampNeg := by simp only [zcl_iff, a3, ep]; omega
  rw [f12_says_L16]
  rw [if_pos (zib_ok (by omega) (by omega)), a4, e89, if_pos (by rw [zle_iff]; omega), if_pos (zib_ok (by rw [z0]; omega) (by rw [z0]; omega))]
  rfl
theorem zsays_loop {n : Nat} {kd : zMK} {R : zMR} {L s t : Nat} {part : Int32} (hL : zLo n kd R L s) (hp : 0 ≤ part.toInt ∧ part.toInt ≤ 2) (ht6 : t < 6) {x : Int32} (hx : x.toInt ≤ ((kd (s + 3)).2 : Int)) : ∀ (m q q' : Nat) (l7 l8 : Int32) (d : Nat) (I J : zMI), l8.toInt + m = x.toInt → 0 ≤ l8.toInt → m < q → m < q' → l7.toInt = (d : Int) → zdp (I (s + 3)) m l8.toInt.toNat d → I (s + 4) (part + 1).toNatClampNeg = x → (J 81 12).toInt = (t : Int) → J 89 (4 * t + (part + 1).toNatClampNeg) = x →
    (∀ j, j < (kd (s + 3)).2 → zwk (I (s + 3) j) ∧ J 88 (200 * t + j) = zw2c (I (s + 3) j)) → (∀ j, j < d → I s j = J 97 j) → (∀ j, j < 6 → I (s + 1) j = J 98 j) →
    ∃ v I' J', f3_says_L109 n kd R (f3_says_B241 n kd R) q L part l7 l8 I = some (zBd part.toNatClampNeg v, I') ∧ f12_says_L16 q' part l7 l8 J = some (v, J') ∧ (∀ b, b ≠ s → I' b = I b) ∧ ∀ b, b ≠ 97 → J' b = J b := by
  have ep : (part + 1).toInt = part.toInt + 1 := zadd (by rw [z1]; omega) (by rw [z1]; omega)
  obtain ⟨r0, r1, r2, r3, r4, n0, n1, n2, n4⟩ := zLo_rows hL
  have hL0 := hL
  obtain ⟨g19, -, gn, -, -, -, -, g160, -, q2, q3, q4, q0, q1⟩ := hL
  intro m
  induction m with
  | zero =>
    intro q q' l7 l8 d I J e h0 hq hq' hd hz ex ht e89 hw es en
    obtain ⟨q, rfl⟩ : ∃ p, q = p + 1 := ⟨q - 1, by omega⟩
    obtain ⟨q', rfl⟩ : ∃ p, q' = p + 1 := ⟨q' - 1, by omega⟩
    have hz' : d = 1 := hz
    subst hz'
    refine ⟨J 97 0, I, J, ?_, zsays_end hp (by omega) ht ht6 e89, fun _ _ => rfl, fun _ _ => rfl⟩
    have e7 : l7 = 1 := by rw [zeq_iff, hd, z1]; rfl
    rw [f3_says_L109]
    rw [if_pos g19, q1, zm_some, if_pos r4, n4, if_pos (zib_ok (by omega) (by omega)), ex, if_pos (by rw [zle_iff]; omega)]
    unfold f3_says_B241
    rw [if_pos e7, if_pos g19, q2, zm_some, if_pos r0, n0, if_pos (zib_ok (by rw [z0]; omega) (by rw [z0]; omega)), zb_some, show (0 : Int32).toNatClampNeg = 0 from rfl, es 0 (by omega), g3_bounded _ _ hp, zb_some]
  | succ m ih =>
    intro q q' l7 l8 d I J e h0 hq hq' hd hz ex ht e89 hw es en
    obtain ⟨q, rfl⟩ : ∃ p, q = p + 1 := ⟨q - 1, by omega⟩
    obtain ⟨q', rfl⟩ : ∃ p, q' = p + 1 := ⟨q' - 1, by omega⟩
    obtain ⟨z1', z2', z3'⟩ := hz
    have n8 : l8.toNatClampNeg = l8.toInt.toNat := zcl_iff l8
    have hj : l8.toInt.toNat < (kd (s + 3)).2 := by omega
    obtain ⟨w1, w2⟩ := hw _ hj
    obtain ⟨w, ew⟩ : ∃ w, I (s + 3) l8.toInt.toNat = w := ⟨_, rfl⟩
    rw [ew] at w1 w2 z1' z3'
    have F := zsayF (k := f3_says_B241 n kd R) (q := q) (l7 := l7) hL0 hp (l8 := l8) (I := I) (w := w) ⟨h0, by rw [ex]; omega⟩ (by omega) (by rw [n8]; exact ew) hd z2'
    have G := zsayG (q' := q') (l7 := l7) (J := J) (t := t) (c := zw2c w) hp (x := x) ⟨h0, by omega⟩ (by omega) ht ht6 e89 (by rw [n8]; exact w2)
    obtain ⟨v, l7', v1, v2, v3⟩ := zsayE (k := f3_says_B241 n kd R) (part := part) (l8 := l8) (q := q) (q' := q') hL0 w1 hd z1' z2' es en
    have e1 := zsucc e
    have ne3 : s + 3 ≠ s := by omega
    have ne4 : s + 4 ≠ s := by omega
    have ne1 : s + 1 ≠ s := by omega
    obtain ⟨u, I', J', u1, u2, u3, u4⟩ := ih q q' l7' (l8 + 1) (d - zne w + 1) (uI I s (d - zne w) v) (uI J 97 (d - zne w) v) (by omega) (by omega) (by omega) (by omega) v1 (by rw [uI_ne ne3, e1, show (l8.toInt + 1).toNat = l8.toInt.toNat + 1 by omega]; exact z3') (by rw [uI_ne ne4]; exact ex) (by rw [uI_ne (by decide)]; exact ht) (by rw [uI_ne (by decide)]; exact e89) (fun j hj => by rw [uI_ne ne3, uI_ne (by decide)]; exact hw j hj) (fun j hj => by
      by_cases c : j = d - zne w
      · rw [c, uI_at, uI_at]
      · rw [uI_off c, uI_off c]
        exact es j (by omega)) (fun j hj => by rw [uI_ne ne1, uI_ne (by decide)]; exact en j hj)
    refine ⟨u, I', J', ?_, ?_, fun b hb => by rw [u3 b hb, uI_ne hb], fun b hb => by rw [u4 b hb, uI_ne hb]⟩
    · rw [F, v2]
      exact u1
    · rw [G, v3]
      exact u2
