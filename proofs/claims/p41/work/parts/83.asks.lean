/-! pure part: asks answers alike -/
theorem zxor_nn (a b : Int32) : (0 : Int32) ≤ (a ^^^ b) ↔ ((0 ≤ a.toInt) ↔ (0 ≤ b.toInt)) := by
  have key : ∀ x : Int32, x.toBitVec.msb = decide (x.toInt < 0) := fun x => BitVec.msb_eq_toInt
  have hx := key (a ^^^ b)
  rw [Int32.toBitVec_xor, BitVec.msb_xor, key a, key b] at hx
  rw [zle_iff, z0]
  by_cases h1 : a.toInt < 0
  · by_cases h2 : b.toInt < 0
    · rw [decide_eq_true h1, decide_eq_true h2] at hx
      have h3 := of_decide_eq_false hx.symm
      omega
    · rw [decide_eq_true h1, decide_eq_false h2] at hx
      have h3 := of_decide_eq_true hx.symm
      omega
  · by_cases h2 : b.toInt < 0
    · rw [decide_eq_false h1, decide_eq_true h2] at hx
      have h3 := of_decide_eq_true hx.symm
      omega
    · rw [decide_eq_false h1, decide_eq_false h2] at hx
      have h3 := of_decide_eq_false hx.symm
      omega
theorem gFd_pos {a b : Int32} (ha : 0 ≤ a.toInt) (hb : 0 < b.toInt) : fJ9_floorDiv_7cf53 a b = some (a / b) ∧ fJ9_floorMod_7cf53 a b = some (a - a / b * b) := by
  have n0 : ¬ b = 0 := fun q => by rw [q, z0] at hb; omega
  have x : (0 : Int32) ≤ (a ^^^ b) := (zxor_nn a b).mpr ⟨fun _ => by omega, fun _ => ha⟩
  unfold fJ9_floorDiv_7cf53 fJ9_floorMod_7cf53
  rw [if_pos n0, if_pos x, if_pos n0, if_pos x]
  exact ⟨rfl, rfl⟩
theorem gFd_neg {a b : Int32} (ha : a.toInt < 0) (hb : 0 < b.toInt) : ∃ q r, fJ9_floorDiv_7cf53 a b = some q ∧ q.toInt < 0 ∧ fJ9_floorMod_7cf53 a b = some r := by
  have n0 : ¬ b = 0 := fun q => by rw [q, z0] at hb; omega
  have x : ¬ (0 : Int32) ≤ (a ^^^ b) := fun q => by
    have := (zxor_nn a b).mp q
    omega
  have hra := zrange a
  have dv : (a / b).toInt = a.toInt.tdiv b.toInt := by
    have e : a.toInt.tdiv b.toInt = - ((-a.toInt) / b.toInt) := by
      rw [← Int.tdiv_eq_ediv_of_nonneg (by omega), Int.neg_tdiv, Int.neg_neg]
    have d0 : 0 ≤ (-a.toInt) / b.toInt := Int.ediv_nonneg (by omega) (by omega)
    have d1 : (-a.toInt) / b.toInt ≤ -a.toInt := Int.ediv_le_self _ (by omega)
    rw [Int32.toInt_div]
    exact Int.bmod_eq_of_le (by rw [e]; omega) (by rw [e]; omega)
  have dn : (a / b).toInt ≤ 0 ∧ -2147483648 ≤ (a / b).toInt := by
    have e : a.toInt.tdiv b.toInt = - ((-a.toInt) / b.toInt) := by
      rw [← Int.tdiv_eq_ediv_of_nonneg (by omega), Int.neg_tdiv, Int.neg_neg]
    have d0 : 0 ≤ (-a.toInt) / b.toInt := Int.ediv_nonneg (by omega) (by omega)
    exact ⟨by rw [dv, e]; omega, (zrange _).1⟩
  have dn2 : -2147483648 < (a / b).toInt ∨ (a / b).toInt < 0 := by omega
  have rm : ∃ r, fJ9_floorMod_7cf53 a b = some r := by
    unfold fJ9_floorMod_7cf53
    rw [if_pos n0, if_neg x]
    split <;> exact ⟨_, rfl⟩
  obtain ⟨r, hr⟩ := rm
  by_cases c : (a / b) * b = a
  · refine ⟨a / b, r, ?_, ?_, hr⟩
    · unfold fJ9_floorDiv_7cf53
      rw [if_pos n0, if_neg x, if_pos c]
    · by_cases q : (a / b).toInt = 0
      · exfalso
        have : a / b = 0 := by rw [zeq_iff, q, z0]
        rw [this, Int32.zero_mul] at c
        rw [← c, z0] at ha
        omega
      · omega
  · refine ⟨a / b - 1, r, ?_, ?_, hr⟩
    · unfold fJ9_floorDiv_7cf53
      rw [if_pos n0, if_neg x, if_neg c]
    · by_cases q : (a / b).toInt = -2147483648
      · exfalso
        have e : a.toInt.tdiv b.toInt = - ((-a.toInt) / b.toInt) := by
          rw [← Int.tdiv_eq_ediv_of_nonneg (by omega), Int.neg_tdiv, Int.neg_neg]
        rw [dv, e] at q
        have d1 : (-a.toInt) / b.toInt * b.toInt ≤ -a.toInt := Int.ediv_mul_le _ (by omega)
        have d2 : (-a.toInt) / b.toInt = 2147483648 := by omega
        rw [d2] at d1
        have b1 : b.toInt = 1 := by omega
        have b1' : b = 1 := by rw [zeq_iff, b1, z1]
        apply c
        rw [b1', Int32.mul_one, zeq_iff]
        rw [b1'] at dv
        rw [dv, z1, Int.tdiv_one]
      · rw [zsub (by rw [z1]; omega) (by rw [z1]; omega), z1]
        omega
theorem zmod_of {a b : Int32} (ha : 0 ≤ a.toInt) (hb : 0 < b.toInt) : (a - a / b * b).toInt = a.toInt % b.toInt := by
  have hra := zrange a
  have e := zdiv ha hb
  have m1 : a.toInt / b.toInt * b.toInt ≤ a.toInt := Int.ediv_mul_le _ (by omega)
  have d0 : 0 ≤ a.toInt / b.toInt := Int.ediv_nonneg ha (by omega)
  have m0 : 0 ≤ a.toInt / b.toInt * b.toInt := Int.mul_nonneg d0 (by omega)
  have em : (a / b * b).toInt = a.toInt / b.toInt * b.toInt := by
    rw [zmul (by rw [e]; omega) (by rw [e]; omega), e]
  rw [zsub (by rw [em]; omega) (by rw [em]; omega), em]
  have := Int.mul_ediv_add_emod a.toInt b.toInt
  rw [Int.mul_comm] at this
  omega
theorem zH6_ok : zH6 (zC zT0) := fun n kd I R part hl wd hC => by
  have z1000 : (1000 : Int32).toInt = 1000 := rfl
  have z8200 : (8200 : Int32).toInt = 8200 := rfl
  obtain ⟨L, s, hB⟩ := zC_B0 hC
  have hB0 := hB
  obtain ⟨hX, ⟨e4, e2, r3, r2⟩, hw, hh, l1, l2, l3, l4, l5, l6⟩ := hB
  have hLb := (zLo_big l5.1).1
  have tx : f11_textOf I R (I 32 7) = some (some L) := by
    rw [g11_textOf2 (by omega) (by omega) l3, ← l4]
    congr 2
    omega
  have g19 := l5.1.1
  -- the class, when all is well
  by_cases ok : (0 ≤ part.toInt ∧ part.toInt ≤ 2) ∧ (0 ≤ hl.toInt ∧ hl.toInt ≤ 8200 ∧ hl.toInt % 1000 ≤ 200) ∧ (0 ≤ wd.toInt ∧ wd.toInt / 1000 < (I 81 3).toInt)
  · obtain ⟨kp, ⟨k1, k2, k3⟩, k4, k5⟩ := ok
    obtain ⟨f1, f2⟩ := gFd_pos (a := hl) (b := 1000) k1 (by decide)
    obtain ⟨f3, f4⟩ := gFd_pos (a := wd) (b := 1000) k4 (by decide)
    have d1 : (hl / 1000).toInt = hl.toInt / 1000 := by rw [zdiv k1 (by decide), z1000]
    have d2 : (wd / 1000).toInt = wd.toInt / 1000 := by rw [zdiv k4 (by decide), z1000]
    have d3 : (hl - hl / 1000 * 1000).toInt = hl.toInt % 1000 := by rw [zmod_of k1 (by decide), z1000]
    have w0 : 0 ≤ (wd / 1000).toInt := by omega
    have w5 : (wd / 1000).toInt < 5 := by omega
    obtain ⟨v1, v2, v3, v4⟩ := hw (wd / 1000).toInt.toNat (by omega)
    have ew : Int32.ofNat (wd / 1000).toInt.toNat = wd / 1000 := zofn w0
    rw [ew] at v2
    have nA := zCx_A hX (w := (wd / 1000).toInt.toNat) (by omega)
    have say : ∀ J : zMI, zLw n kd R L s I J (I 81 12).toInt.toNat → J 81 = I 81 → J 85 = I 85 → ∃ v I' J', f3_says n kd R L part (some (zAd (I 81 3).toInt.toNat R (wd / 1000).toInt.toNat)) (hl / 1000) (hl - hl / 1000 * 1000) (wd - wd / 1000 * 1000) (I 32 4) I = some (v, I') ∧ f12_asksOf part (hl / 1000) (hl - hl / 1000 * 1000) (wd / 1000) (wd - wd / 1000 * 1000) J = some (v, J') ∧ (∀ b, b ≠ s → b ≠ s + 1 → I' b = I b) ∧ ∀ b, b ≠ 97 → b ≠ 98 → J' b = J b := fun J hJ e81 e85 => by
      obtain ⟨v, I', J', u1, u2, u3, u4, -⟩ := zsays (part := part) (h := hl / 1000) (left := hl - hl / 1000 * 1000) (done := wd - wd / 1000 * 1000) (many := I 32 4) (w := wd / 1000) hJ (by rw [e81]; exact l6) (by omega) kp v2.1 nA.2.1 ⟨w0, w5⟩ v2.2.2.2.1 (by rw [e85]; exact v2.2.2.2.2.1) (by rw [e81]; exact e4)
      exact ⟨v, I', J', u1, u2, u3, u4⟩
    obtain ⟨v, I', _, u1, -, u3, -⟩ := say I l5 rfl rfl
    have fx : zFX (zAd (I 81 3).toInt.toNat R) s I I' := ⟨fun b _ _ _ _ y1 y2 => u3 b y1 y2, fun w j hw5 _ => by rw [u3 _ (zCx_A hX hw5).1 (zCx_A hX hw5).2.1], fun h hh9 => by rw [u3 _ (by omega) (by omega)]⟩
    have hL' : zLw n kd R L s I I' (I 81 12).toInt.toNat := ⟨l5.1, zLx_eq l5.2 rfl rfl rfl (u3 88 (by omega) (by omega)) (u3 89 (by omega) (by omega))⟩
    obtain ⟨v', I'', J', w1, w2, w3, w4⟩ := say I' hL' (u3 81 (by omega) (by omega)) (u3 85 (by omega) (by omega))
    rw [u1] at w1
    cases w1
    have zx : zFM I' J' := ⟨fun b y1 y2 => w4 b (by omega) (by omega), fun j _ => by rw [w4 81 (by decide) (by decide)]⟩
    refine ⟨(v, I'), ?_, (v, J'), ?_, rfl, zC_going hC hB0 zAd_0 fx zx (fun _ _ _ => rfl)⟩
    · unfold f11_asks
      rw [f1, zb_some, f2, zb_some, f3, zb_some, g11_walkerOf2 w0 (by rw [e4]; omega) (by rw [e4]; exact r3.2), zb_some, f4, zb_some, tx, zb_some, if_neg (by rw [zlt_iff, z0]; omega), if_neg (by rw [zlt_iff, z2]; omega), g11_noHeap, zb_some]
      simp only [zB_0]
      rw [if_pos (not_not_intro ⟨by omega, by omega⟩), if_neg (by rw [zlt_iff, z200]; omega), v1, zm_some, zm_some, if_pos g19, u1, zb_some]
    · unfold f12_asks f12_asks_B52
      dsimp only
      rw [g12_in, zb_some, z0, z2, g12_in, zb_some, z0, z8200, zisW hC (by rw [u3 81 (by omega) (by omega)]), zb_some]
      simp only [zB_0]
      rw [if_neg (not_not_intro kp), if_neg (not_not_intro ⟨k1, k2⟩), if_neg (by rw [zlt_iff, z200]; omega), if_neg (by rw [zlt_iff, z0]; omega), if_neg (not_not_intro ⟨w0, by omega⟩), if_neg (by decide), w2, zb_some]
  · -- refused by both
    have M : f12_asks part hl wd I = some (-2, I) := by
      unfold f12_asks f12_asks_B51 f12_asks_B52
      rw [g12_in, zb_some, z0, z2, g12_in, zb_some, z0, z8200]
      simp only [zB_0]
      by_cases kp : 0 ≤ part.toInt ∧ part.toInt ≤ 2
      · rw [if_neg (not_not_intro kp)]
        by_cases k1 : 0 ≤ hl.toInt ∧ hl.toInt ≤ 8200
        · rw [if_neg (not_not_intro k1)]
          have d3 : (hl - hl / 1000 * 1000).toInt = hl.toInt % 1000 := by rw [zmod_of k1.1 (by decide), z1000]
          by_cases k3 : (200 : Int32) < hl - hl / 1000 * 1000
          · rw [if_pos k3, if_pos trivial]
          · rw [if_neg k3]
            rw [zlt_iff, z200, d3] at k3
            by_cases k4 : wd < 0
            · rw [if_pos k4, if_pos trivial]
            · rw [if_neg k4, zisW hC rfl, zb_some]
              simp only [zB_0]
              rw [zlt_iff, z0] at k4
              have d2 : (wd / 1000).toInt = wd.toInt / 1000 := by rw [zdiv (by omega) (by decide), z1000]
              rw [if_pos (fun q => ok ⟨kp, ⟨k1.1, k1.2, by omega⟩, by omega, by omega⟩), if_pos trivial]
        · rw [if_pos k1, if_pos trivial]
      · rw [if_pos kp, if_pos trivial]
    have C : f11_asks n kd R part hl wd I = some (-2, I) := by
      obtain ⟨q1, r1, f1, f2, c1⟩ : ∃ q r, fJ9_floorDiv_7cf53 hl 1000 = some q ∧ fJ9_floorMod_7cf53 hl 1000 = some r ∧ ((0 ≤ q.toInt ∧ q.toInt ≤ 8 ∧ r.toInt ≤ 200) → (0 ≤ hl.toInt ∧ hl.toInt ≤ 8200 ∧ hl.toInt % 1000 ≤ 200)) := by
        by_cases c : 0 ≤ hl.toInt
        · obtain ⟨f1, f2⟩ := gFd_pos (a := hl) (b := 1000) c (by decide)
          have d1 : (hl / 1000).toInt = hl.toInt / 1000 := by rw [zdiv c (by decide), z1000]
          have d3 : (hl - hl / 1000 * 1000).toInt = hl.toInt % 1000 := by rw [zmod_of c (by decide), z1000]
          exact ⟨_, _, f1, f2, fun q => by rw [d1, d3] at q; omega⟩
        · obtain ⟨q, r, f1, f2, f3⟩ := gFd_neg (a := hl) (b := 1000) (by omega) (by decide)
          exact ⟨q, r, f1, f3, fun x => by omega⟩
      obtain ⟨q3, r3', f3, f4, c3⟩ : ∃ q r, fJ9_floorDiv_7cf53 wd 1000 = some q ∧ fJ9_floorMod_7cf53 wd 1000 = some r ∧ ((0 ≤ q.toInt ∧ q.toInt < (I 81 3).toInt) → (0 ≤ wd.toInt ∧ wd.toInt / 1000 < (I 81 3).toInt)) := by
        by_cases c : 0 ≤ wd.toInt
        · obtain ⟨f1, f2⟩ := gFd_pos (a := wd) (b := 1000) c (by decide)
          have d1 : (wd / 1000).toInt = wd.toInt / 1000 := by rw [zdiv c (by decide), z1000]
          exact ⟨_, _, f1, f2, fun q => by rw [d1] at q; omega⟩
        · obtain ⟨q, r, f1, f2, f3⟩ := gFd_neg (a := wd) (b := 1000) (by omega) (by decide)
          exact ⟨q, r, f1, f3, fun x => by omega⟩
      unfold f11_asks
      rw [f1, zb_some, f2, zb_some, f3, zb_some, g11_walkerOf hC, zb_some, f4, zb_some, tx, zb_some]
      by_cases kp0 : part < 0
      · rw [if_pos kp0]
      rw [if_neg kp0]
      by_cases kp2 : (2 : Int32) < part
      · rw [if_pos kp2]
      rw [if_neg kp2, g11_noHeap, zb_some]
      simp only [zB_0]
      by_cases k1 : 0 ≤ q1.toInt ∧ q1.toInt ≤ 8
      · rw [if_pos (not_not_intro k1)]
        by_cases k3 : (200 : Int32) < r1
        · rw [if_pos k3]
        rw [if_neg k3]
        by_cases k5 : 0 ≤ q3.toInt ∧ q3.toInt < (I 81 3).toInt
        · exfalso
          rw [zlt_iff, z0] at kp0
          rw [zlt_iff, z2] at kp2
          rw [zlt_iff, z200] at k3
          exact ok ⟨⟨by omega, by omega⟩, c1 ⟨k1.1, k1.2, by omega⟩, c3 k5⟩
        · rw [if_neg k5, zm_none]
      · rw [if_neg (fun q => q k1)]
    exact ⟨(-2, I), C, (-2, I), M, rfl, hC⟩
