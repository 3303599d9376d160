/-! pure part: a text as the class holds it and as the reference holds it (I: the class's memory, J: the reference's) -/
def zwk (w : Int32) : Prop := (0 ≤ w.toInt ∧ w.toInt ≤ 9999) ∨ (-6 ≤ w.toInt ∧ w.toInt ≤ -1) ∨ w = -11 ∨ w = -12 ∨ w = -13 ∨ w = -14 ∨ w = -15 ∨ w = -16 ∨ w = -17 ∨ w = -21 ∨ w = -22
def zw2c (w : Int32) : Int32 := if 0 ≤ w then w + 100000 else if -6 ≤ w then -1 - w else if w = -11 then 11 else if w = -12 then 12 else if w = -13 then 14 else if w = -14 then 15 else if w = -15 then 16 else if w = -16 then 17 else if w = -17 then 18 else if w = -21 then 13 else 19
def zne (w : Int32) : Nat := if -6 ≤ w then 0 else if -19 ≤ w then 2 else 1
/-- m words from i on, the stack so high: they find what they need, it never grows above 40, and one number is left -/
def zdp (f : Nat → Int32) : Nat → Nat → Nat → Prop
  | 0, _, d => d = 1
  | m + 1, i, d => zne (f i) ≤ d ∧ d < 40 ∧ zdp f m (i + 1) (d - zne (f i) + 1)
def zBd (p : Nat) (v : Int32) : Int32 := if p = 2 then (if v.toInt < 0 then 0 else if 99 < v.toInt then 99 else v) else (if v.toInt < 1 then 1 else if 20 < v.toInt then 20 else v)
/-- the class's objects of a text: L the law, s its stack, then names, lone, words, starts -/
def zLo (n : Nat) (kd : zMK) (R : zMR) (L s : Nat) : Prop := zKdB n kd L 19 = true ∧ ((L = 67 ∧ s = 68) ∨ (114 ≤ L ∧ s = L + 2 ∧ (kd (L + 1)).1 = 0)) ∧ s + 4 < n ∧ kd s = (0, 40) ∧ kd (s + 1) = (0, 6) ∧ kd (s + 2) = (0, 3) ∧ (kd (s + 3)).1 = 0 ∧ (kd (s + 3)).2 ≤ 160 ∧ kd (s + 4) = (0, 4) ∧ R L 2 = some s ∧ R L 3 = some (s + 1) ∧ R L 4 = some (s + 2) ∧ R L 0 = some (s + 3) ∧ R L 1 = some (s + 4)
/-- what they hold -/
def zLx (len s : Nat) (I J : zMI) (t : Nat) : Prop := (∀ p, p < 4 → I (s + 4) p = J 89 (4 * t + p)) ∧ 0 ≤ (I (s + 4) 0).toInt ∧ (I (s + 4) 0).toInt < (I (s + 4) 1).toInt ∧ (I (s + 4) 1).toInt < (I (s + 4) 2).toInt ∧ (I (s + 4) 2).toInt < (I (s + 4) 3).toInt ∧ (I (s + 4) 3).toInt = (len : Int) ∧
  (∀ j, j < len → zwk (I (s + 3) j) ∧ J 88 (200 * t + j) = zw2c (I (s + 3) j)) ∧ (∀ p, p < 3 → zdp (I (s + 3)) ((I (s + 4) (p + 1)).toInt.toNat - (I (s + 4) p).toInt.toNat) (I (s + 4) p).toInt.toNat 0) ∧
  ∀ p, p < 3 → I (s + 2) p = if (I (s + 4) (p + 1)).toInt = (I (s + 4) p).toInt + 1 ∧ 0 ≤ (I (s + 3) (I (s + 4) p).toInt.toNat).toInt then zBd p (I (s + 3) (I (s + 4) p).toInt.toNat) else -1
def zLw (n : Nat) (kd : zMK) (R : zMR) (L s : Nat) (I J : zMI) (t : Nat) : Prop := zLo n kd R L s ∧ zLx (kd (s + 3)).2 s I J t
theorem zKd_ok {n a K : Nat} {kd : zMK} (h1 : 32 ≤ a) (h2 : a < n) (h3 : (kd a).1 = K) : zKdB n kd a K = true := by
  unfold zKdB
  simp [h1, h2, h3]
theorem zLo_rows {n : Nat} {kd : zMK} {R : zMR} {L s : Nat} (h : zLo n kd R L s) : zKdB n kd s 0 = true ∧ zKdB n kd (s + 1) 0 = true ∧ zKdB n kd (s + 2) 0 = true ∧ zKdB n kd (s + 3) 0 = true ∧ zKdB n kd (s + 4) 0 = true ∧ (kd s).2 = 40 ∧ (kd (s + 1)).2 = 6 ∧ (kd (s + 2)).2 = 3 ∧ (kd (s + 4)).2 = 4 := by
  obtain ⟨h1, h2, h3, h4, h5, h6, h7, h8, h9, h10⟩ := h
  refine ⟨zKd_ok (by omega) (by omega) (by rw [h4]), zKd_ok (by omega) (by omega) (by rw [h5]), zKd_ok (by omega) (by omega) (by rw [h6]), zKd_ok (by omega) (by omega) h7, zKd_ok (by omega) (by omega) (by rw [h9]), by rw [h4], by rw [h5], by rw [h6], by rw [h9]⟩
theorem zlow {w : Int32} (h : zwk w) : -22 ≤ w.toInt ∧ w.toInt ≤ 9999 := by
  unfold zwk at h
  rcases h with h | h | h | h | h | h | h | h | h | h | h
  · omega
  · omega
  all_goals subst h; decide
theorem zn6i : (6 : Int32).toInt = 6 := rfl
theorem zn11i : (11 : Int32).toInt = 11 := rfl
theorem zn3i : (3 : Int32).toInt = 3 := rfl
theorem zn4i : (4 : Int32).toInt = 4 := rfl
theorem zn5i : (5 : Int32).toInt = 5 := rfl
theorem zn40i : (40 : Int32).toInt = 40 := rfl
theorem znm1 : (-1 : Int32).toInt = -1 := rfl
theorem znm6 : (-6 : Int32).toInt = -6 := by decide
theorem znm19 : (-19 : Int32).toInt = -19 := by decide
theorem zn100k : (100000 : Int32).toInt = 100000 := by decide +kernel
def zsF (n : Nat) (kd : zMK) (R : zMR) (k : Nat → Int32 → Int32 → zMI → Option (Int32 × zMI)) (q : Nat) (L s : Nat) (part l7 l8 w : Int32) (I : zMI) : Option (Int32 × zMI) := zl (if w < (-6 : Int32) then (if w < (-19 : Int32) then ((1 : Int32)) else ((2 : Int32))) else ((0 : Int32))) fun x21 =>
      if (l7 - x21) < (0 : Int32) then some ((0 : Int32), I) else
      if x21 = (0 : Int32) then
      zb (f3_read n kd I R L w) fun p38 =>
      f3_says_B228 n kd R (f3_says_L109 n kd R k q) L part l8 (l7 - x21) s (l7 - x21) p38 I
      else
      if zib (l7 - x21) 40 = true then
      if zib (l7 - (1 : Int32)) 40 = true then
      zb (f3_worked w (I s (l7 - x21).toNatClampNeg) (I s (l7 - (1 : Int32)).toNatClampNeg)) fun p36 =>
      f3_says_B228 n kd R (f3_says_L109 n kd R k q) L part l8 (l7 - x21) s (l7 - x21) p36 I
      else none
      else none
def zsG (q' : Nat) (part l7 l8 c : Int32) (J : zMI) : Option (Int32 × zMI) := zl c fun x10 =>
      if (100000 : Int32) ≤ x10 then
      f12_says_B66 (f12_says_L16 q') part l7 l8 x10 J
      else
      if (11 : Int32) ≤ x10 then
      if x10 = (13 : Int32) then
      if zib (l7 - (1 : Int32)) 200 = true then
      zl (if (J 97 (l7 - (1 : Int32)).toNatClampNeg) = (0 : Int32) then ((1 : Int32)) else ((0 : Int32))) fun x27 =>
      zl (uI J 97 (l7 - (1 : Int32)).toNatClampNeg x27) fun J29 =>
      f12_says_B191 (f12_says_L16 q') part l7 l8 J29
      else none
      else
      if x10 = (19 : Int32) then
      if zib (l7 - (1 : Int32)) 200 = true then
      zl (uI J 97 (l7 - (1 : Int32)).toNatClampNeg (-(J 97 (l7 - (1 : Int32)).toNatClampNeg))) fun J23 =>
      f12_says_B191 (f12_says_L16 q') part l7 l8 J23
      else none
      else
      if zib ((l7 + (-1 : Int32)) - (1 : Int32)) 200 = true then
      if zib (l7 + (-1 : Int32)) 200 = true then
      zb (f12_two x10 (J 97 ((l7 + (-1 : Int32)) - (1 : Int32)).toNatClampNeg) (J 97 (l7 + (-1 : Int32)).toNatClampNeg)) fun p18 =>
      zl (uI J 97 ((l7 + (-1 : Int32)) - (1 : Int32)).toNatClampNeg p18) fun J20 =>
      f12_says_B191 (f12_says_L16 q') part (l7 + (-1 : Int32)) l8 J20
      else none
      else none
      else
      f12_says_B66 (f12_says_L16 q') part l7 l8 x10 J
theorem zsayF {n : Nat} {kd : zMK} {R : zMR} {L s : Nat} {k : Nat → Int32 → Int32 → zMI → Option (Int32 × zMI)} {part l7 l8 w : Int32} {I : zMI} {d q : Nat} (hL : zLo n kd R L s) (hp : 0 ≤ part.toInt ∧ part.toInt ≤ 2) (h8 : 0 ≤ l8.toInt ∧ l8.toInt < (I (s + 4) (part + 1).toNatClampNeg).toInt) (hlen : l8.toInt < ((kd (s + 3)).2 : Int)) (hw : I (s + 3) l8.toNatClampNeg = w) (hd : l7.toInt = (d : Int)) (h2 : d < 40) : f3_says_L109 n kd R k (q + 1) L part l7 l8 I = zsF n kd R k q L s part l7 l8 w I := by
  obtain ⟨r0, r1, r2, r3, r4, n0, n1, n2, n4⟩ := zLo_rows hL
  obtain ⟨g19, -, gn, -, -, -, -, g160, -, q2, q3, q4, q0, q1⟩ := hL
  have ep : (part + 1).toInt = part.toInt + 1 := zadd (by rw [z1]; omega) (by rw [z1]; omega)
  have nlen : ¬ Int32.ofNat (kd (s + 3)).2 ≤ l8 := by
    rw [zle_iff, show (Int32.ofNat (kd (s + 3)).2).toInt = ((kd (s + 3)).2 : Int) from nI_toInt (by omega)]
    omega
  have hzib8 : zib l8 (kd (s + 3)).2 = true := zib_ok h8.1 hlen
  have hc7 : l7 < 40 := by rw [zlt_iff, zn40i]; omega
  rw [f3_says_L109]
  simp only [g19, r4, q1, q0, q2, zm_some, r3, r0, n4, n0, if_true, hw, hzib8, hc7]
  rw [if_pos (zib_ok (by omega) (by omega)), if_neg (by rw [zle_iff]; omega), if_neg nlen]
  rfl
theorem zsayG {part l7 l8 c x : Int32} {J : zMI} {t q' : Nat} (hp : 0 ≤ part.toInt ∧ part.toInt ≤ 2) (h8 : 0 ≤ l8.toInt ∧ l8.toInt < x.toInt) (hlen : l8.toInt ≤ 160) (ht : (J 81 12).toInt = (t : Int)) (ht6 : t < 6)
    (e89 : J 89 (4 * t + (part + 1).toNatClampNeg) = x) (e88 : J 88 (200 * t + l8.toNatClampNeg) = c) : f12_says_L16 (q' + 1) part l7 l8 J = zsG q' part l7 l8 c J := by
  have ep : (part + 1).toInt = part.toInt + 1 := zadd (by rw [z1]; omega) (by rw [z1]; omega)
  have a1 : ((4 : Int32) * J 81 12).toInt = 4 * t := by rw [zmul (by rw [zn4i]; omega) (by rw [zn4i]; omega), zn4i, ht]
  have a2 : ((4 : Int32) * J 81 12 + part).toInt = 4 * t + part.toInt := by rw [zadd (by omega) (by omega), a1]
  have a3 : ((4 : Int32) * J 81 12 + part + 1).toInt = 4 * t + part.toInt + 1 := by rw [zadd (by rw [z1]; omega) (by rw [z1]; omega), a2, z1]
  have a4 : ((4 : Int32) * J 81 12 + part + 1).toNatClampNeg = 4 * t + (part + 1).toNatClampNeg := by simp only [zcl_iff, a3, ep]; omega
  have b1 : ((200 : Int32) * J 81 12).toInt = 200 * t := by rw [zmul (by rw [z200]; omega) (by rw [z200]; omega), z200, ht]
  have b2 : ((200 : Int32) * J 81 12 + l8).toInt = 200 * t + l8.toInt := by rw [zadd (by omega) (by omega), b1]
  have b3 : ((200 : Int32) * J 81 12 + l8).toNatClampNeg = 200 * t + l8.toNatClampNeg := by simp only [zcl_iff, b2]; omega
  rw [f12_says_L16]
  rw [if_pos (zib_ok (by omega) (by omega)), a4, e89, if_neg (by rw [zle_iff]; omega), if_pos (zib_ok (by omega) (by omega)), b3, e88]
  rfl
theorem zsayP {n : Nat} {kd : zMK} {R : zMR} {L s : Nat} {k : Nat → Int32 → Int32 → zMI → Option (Int32 × zMI)} {part l8 : Int32} {I : zMI} {q : Nat} (hL : zLo n kd R L s) (x l : Int32) (j : Nat) (e : l.toInt = (j : Int)) (hj : j < 40) : f3_says_B228 n kd R (f3_says_L109 n kd R k q) L part l8 l s l x I = f3_says_L109 n kd R k q L part (l + 1) (l8 + 1) (uI I s j x) := by
  obtain ⟨r0, r1, r2, r3, r4, n0, n1, n2, n4⟩ := zLo_rows hL
  unfold f3_says_B228
  rw [if_pos r0, n0, if_pos (zib_ok (by omega) (by omega)), zl_eq, zcl_iff, e]
  rfl
theorem zsd {l7 c : Int32} {d m : Nat} (hd : l7.toInt = (d : Int)) (h2 : d < 40) (hc : c.toInt = (m : Int)) (hm : m ≤ d) : (l7 - c).toInt = ((d - m : Nat) : Int) := by
  rw [zsub (by omega) (by omega), hd, hc]
  omega
def zsQ (n : Nat) (kd : zMK) (R : zMR) (k : Nat → Int32 → Int32 → zMI → Option (Int32 × zMI)) (q q' : Nat) (L s : Nat) (part l7 l8 w : Int32) (I J : zMI) (d : Nat) : Prop := ∃ v, ∃ l7' : Int32, l7'.toInt = ((d - zne w + 1 : Nat) : Int) ∧ zsF n kd R k q L s part l7 l8 w I = f3_says_L109 n kd R k q L part l7' (l8 + 1) (uI I s (d - zne w) v) ∧ zsG q' part l7 l8 (zw2c w) J = f12_says_L16 q' part l7' (l8 + 1) (uI J 97 (d - zne w) v)
section
variable {n : Nat} {kd : zMK} {R : zMR} {L s : Nat} {k : Nat → Int32 → Int32 → zMI → Option (Int32 × zMI)} {part l7 l8 w : Int32} {I J : zMI} {d q q' : Nat}
theorem zsay_num (hL : zLo n kd R L s) (hk : 0 ≤ w.toInt ∧ w.toInt ≤ 9999) (hd : l7.toInt = (d : Int)) (h2 : d < 40) : zsQ n kd R k q q' L s part l7 l8 w I J d := by
  have c1 : ¬ w < -6 := by rw [zlt_iff, znm6]; omega
  have c2 : zw2c w = w + 100000 := by unfold zw2c; rw [if_pos (by rw [zle_iff, z0]; omega)]
  have c3 : zne w = 0 := by unfold zne; rw [if_pos (by rw [zle_iff, znm6]; omega)]
  have e5 : (w + 100000).toInt = w.toInt + 100000 := by rw [zadd (by rw [zn100k]; omega) (by rw [zn100k]; omega), zn100k]
  have c4 : w + 100000 - 100000 = w := by
    rw [zeq_iff, zsub (by rw [zn100k, e5]; omega) (by rw [zn100k, e5]; omega), e5, zn100k]
    omega
  have rd : f3_read n kd I R L w = some w := by
    unfold f3_read
    rw [if_pos, zb_some]
    rw [zlt_iff, z0, zsub (by rw [znm1]; omega) (by rw [znm1]; omega), znm1]
    omega
  have e72 : (l7 + 1).toInt = ((d + 1 : Nat) : Int) := by
    rw [zadd (by rw [z1]; omega) (by rw [z1]; omega), hd, z1]
    omega
  have n7 : l7.toNatClampNeg = d := by rw [zcl_iff, hd]; omega
  refine ⟨w, l7 + 1, ?_, ?_, ?_⟩
  · rw [c3, e72]
    omega
  · unfold zsF
    rw [if_neg c1, zl_eq, Int32.sub_zero, if_neg (by rw [zlt_iff, z0]; omega), if_pos rfl, rd, zb_some, zsayP hL w l7 d hd h2, c3]
    rfl
  · unfold zsG
    rw [c2, zl_eq, if_pos (by rw [zle_iff, e5, zn100k]; omega)]
    unfold f12_says_B66 f12_says_B93 f12_says_B191
    rw [if_pos (by rw [zle_iff, e5, zn11i]; omega), if_pos (zib_ok (by omega) (by omega)), zl_eq, c4, n7, c3]
    rfl
theorem zsay_name (hL : zLo n kd R L s) (hk : -6 ≤ w.toInt ∧ w.toInt ≤ -1) (hd : l7.toInt = (d : Int)) (h2 : d < 40) (en : ∀ j, j < 6 → I (s + 1) j = J 98 j) : zsQ n kd R k q q' L s part l7 l8 w I J d := by
  obtain ⟨r0, r1, r2, r3, r4, n0, n1, n2, n4⟩ := zLo_rows hL
  have hL0 := hL
  obtain ⟨g19, -, gn, -, -, -, -, g160, -, q2, q3, q4, q0, q1⟩ := hL
  have c1 : ¬ w < -6 := by rw [zlt_iff, znm6]; omega
  obtain ⟨m, hm⟩ : ∃ m, (-1 : Int32) - w = m := ⟨_, rfl⟩
  have em : m.toInt = -1 - w.toInt := by
    have h := zsub (a := -1) (b := w) (by rw [znm1]; omega) (by rw [znm1]; omega)
    rw [hm, znm1] at h
    exact h
  have c2 : zw2c w = m := by
    unfold zw2c
    rw [if_neg (by rw [zle_iff, z0]; omega), if_pos (by rw [zle_iff, znm6]; omega)]
    exact hm
  have c3 : zne w = 0 := by unfold zne; rw [if_pos (by rw [zle_iff, znm6]; omega)]
  have rd : f3_read n kd I R L w = some (I (s + 1) m.toNatClampNeg) := by
    unfold f3_read
    rw [hm, if_neg (by rw [zlt_iff, z0]; omega), if_neg (by rw [zle_iff, zn6i]; omega), if_pos g19, q3, zm_some, if_pos r1, n1, if_pos (zib_ok (by omega) (by omega)), zb_some]
  have e72 : (l7 + 1).toInt = ((d + 1 : Nat) : Int) := by
    rw [zadd (by rw [z1]; omega) (by rw [z1]; omega), hd, z1]
    omega
  have n7 : l7.toNatClampNeg = d := by rw [zcl_iff, hd]; omega
  refine ⟨I (s + 1) m.toNatClampNeg, l7 + 1, ?_, ?_, ?_⟩
  · rw [c3, e72]
    omega
  · unfold zsF
    rw [if_neg c1, zl_eq, Int32.sub_zero, if_neg (by rw [zlt_iff, z0]; omega), if_pos rfl, rd, zb_some, zsayP hL0 _ l7 d hd h2, c3]
    rfl
  · unfold zsG
    rw [c2, zl_eq, if_neg (by rw [zle_iff, em, zn100k]; omega), if_neg (by rw [zle_iff, em, zn11i]; omega)]
    unfold f12_says_B66 f12_says_B93 f12_says_B191
    rw [if_neg (by rw [zle_iff, em, zn11i]; omega), if_pos (zib_ok (by omega) (by omega)), if_pos (zib_ok (by omega) (by omega)), zl_eq, n7, c3, en _ (by rw [zcl_iff, em]; omega)]
    rfl
theorem zsay_two (hL : zLo n kd R L s) (hd : l7.toInt = (d : Int)) (h2 : d < 40) (es : ∀ j, j < d → I s j = J 97 j) (e2 : zne w = 2) (h1 : 2 ≤ d) (ew : ∀ a b, ∃ v, f3_worked w a b = some v ∧ f12_two (zw2c w) a b = some v) (hc : w < -6 ∧ ¬ w < -19 ∧ ¬ (100000 : Int32) ≤ zw2c w ∧ (11 : Int32) ≤ zw2c w ∧ ¬ zw2c w = 13 ∧ ¬ zw2c w = 19) : zsQ n kd R k q q' L s part l7 l8 w I J d := by
  obtain ⟨k1, k2, k3, k4, k5, k6⟩ := hc
  have f2 := zsd (c := 2) (m := 2) hd h2 rfl h1
  have f1 := zsd (c := 1) (m := 1) hd h2 rfl (by omega)
  have g1 : (l7 + (-1 : Int32)).toInt = ((d - 1 : Nat) : Int) := by
    rw [zadd (by rw [znm1]; omega) (by rw [znm1]; omega), hd, znm1]
    omega
  have g2 : (l7 + (-1 : Int32) - 1).toInt = ((d - 2 : Nat) : Int) := by
    rw [zsub (by rw [z1]; omega) (by rw [z1]; omega), g1, z1]
    omega
  have m2 : (l7 - 2).toNatClampNeg = d - 2 := by rw [zcl_iff, f2]; omega
  have m1 : (l7 - 1).toNatClampNeg = d - 1 := by rw [zcl_iff, f1]; omega
  have o1 : (l7 + (-1 : Int32)).toNatClampNeg = d - 1 := by rw [zcl_iff, g1]; omega
  have o2 : (l7 + (-1 : Int32) - 1).toNatClampNeg = d - 2 := by rw [zcl_iff, g2]; omega
  obtain ⟨v, hv1, hv⟩ := ew (J 97 (d - 2)) (J 97 (d - 1))
  have el : l7 - 2 + 1 = l7 + (-1 : Int32) := by
    rw [zeq_iff, g1, zadd (by rw [z1]; omega) (by rw [z1]; omega), f2, z1]
    omega
  refine ⟨v, l7 + (-1 : Int32), ?_, ?_, ?_⟩
  · rw [g1, e2]
    omega
  · unfold zsF
    rw [if_pos k1, if_neg k2, zl_eq, if_neg (by rw [zlt_iff, z0]; omega), if_neg (by decide), if_pos (zib_ok (by omega) (by omega)), if_pos (zib_ok (by omega) (by omega)), m2, m1, es _ (by omega), es _ (by omega), hv1, zb_some, zsayP hL v (l7 - 2) (d - 2) f2 (by omega), el, e2]
  · unfold zsG
    rw [zl_eq, if_neg k3, if_pos k4, if_neg k5, if_neg k6, if_pos (zib_ok (by omega) (by omega)), if_pos (zib_ok (by omega) (by omega)), o2, o1, hv, zb_some, zl_eq, e2]
    rfl
theorem zsay_not (hL : zLo n kd R L s) (hd : l7.toInt = (d : Int)) (h2 : d < 40) (es : ∀ j, j < d → I s j = J 97 j) (h1 : 1 ≤ d) : zsQ n kd R k q q' L s part l7 l8 (-21) I J d := by
  have e1 : zne (-21) = 1 := by decide
  have f1 := zsd (c := 1) (m := 1) hd h2 rfl (by omega)
  have m1 : (l7 - 1).toNatClampNeg = d - 1 := by rw [zcl_iff, f1]; omega
  have el : l7 - 1 + 1 = l7 := by
    rw [zeq_iff, zadd (by rw [z1]; omega) (by rw [z1]; omega), f1, z1, hd]
    omega
  refine ⟨if J 97 (d - 1) = 0 then 1 else 0, l7, by rw [hd, e1]; omega, ?_, ?_⟩
  · unfold zsF
    rw [if_pos (by decide), if_pos (by decide), zl_eq, if_neg (by rw [zlt_iff, z0]; omega), if_neg (by decide), if_pos (zib_ok (by omega) (by omega)), if_pos (zib_ok (by omega) (by omega)), m1, es _ (by omega)]
    unfold f3_worked
    rw [if_pos rfl, zl_eq, zb_some, zsayP hL _ (l7 - 1) (d - 1) f1 (by omega), el, e1]
  · have c2 : zw2c (-21) = 13 := by decide
    unfold zsG
    rw [c2, zl_eq, if_neg (by decide), if_pos (by decide), if_pos rfl, if_pos (zib_ok (by omega) (by omega)), m1, zl_eq, zl_eq, e1]
    rfl
theorem zsay_neg (hL : zLo n kd R L s) (hd : l7.toInt = (d : Int)) (h2 : d < 40) (es : ∀ j, j < d → I s j = J 97 j) (h1 : 1 ≤ d) : zsQ n kd R k q q' L s part l7 l8 (-22) I J d := by
  have e1 : zne (-22) = 1 := by decide
  have f1 := zsd (c := 1) (m := 1) hd h2 rfl (by omega)
  have m1 : (l7 - 1).toNatClampNeg = d - 1 := by rw [zcl_iff, f1]; omega
  have el : l7 - 1 + 1 = l7 := by
    rw [zeq_iff, zadd (by rw [z1]; omega) (by rw [z1]; omega), f1, z1, hd]
    omega
  refine ⟨-(J 97 (d - 1)), l7, by rw [hd, e1]; omega, ?_, ?_⟩
  · have ew : ∀ a b, f3_worked (-22) a b = some (-b) := fun a b => by
      unfold f3_worked
      rw [if_neg (by decide), if_neg (by decide), if_neg (by decide), if_neg (by decide), if_neg (by decide), if_neg (by decide), if_neg (by decide), if_neg (by decide)]
    unfold zsF
    rw [if_pos (by decide), if_pos (by decide), zl_eq, if_neg (by rw [zlt_iff, z0]; omega), if_neg (by decide), if_pos (zib_ok (by omega) (by omega)), if_pos (zib_ok (by omega) (by omega)), m1, es _ (by omega), ew, zb_some, zsayP hL _ (l7 - 1) (d - 1) f1 (by omega), el, e1]
  · have c2 : zw2c (-22) = 19 := by decide
    unfold zsG
    rw [c2, zl_eq, if_neg (by decide), if_pos (by decide), if_neg (by decide), if_pos rfl, if_pos (zib_ok (by omega) (by omega)), m1, zl_eq, e1]
    rfl
end
