/-! pure part: a text is asked, on both sides -/
def zNmq (I : zMI) (r : Nat) (a b c d e f : Int32) : zMI := uI (uI (uI (uI (uI (uI I r 0 a) r 1 b) r 2 c) r 3 d) r 4 e) r 5 f
theorem zNm_ne {I : zMI} {r b : Nat} {a1 a2 a3 a4 a5 a6 : Int32} (h : b ≠ r) : zNmq I r a1 a2 a3 a4 a5 a6 b = I b := by
  unfold zNmq
  rw [uI_ne h, uI_ne h, uI_ne h, uI_ne h, uI_ne h, uI_ne h]
theorem zNm_at {I J : zMI} {r r' : Nat} {a1 a2 a3 a4 a5 a6 : Int32} : ∀ j, j < 6 → zNmq I r a1 a2 a3 a4 a5 a6 r j = zNmq J r' a1 a2 a3 a4 a5 a6 r' j := fun j hj => by
  unfold zNmq
  by_cases c5 : j = 5
  · rw [c5, uI_at, uI_at]
  rw [uI_off c5, uI_off c5]
  by_cases c4 : j = 4
  · rw [c4, uI_at, uI_at]
  rw [uI_off c4, uI_off c4]
  by_cases c3 : j = 3
  · rw [c3, uI_at, uI_at]
  rw [uI_off c3, uI_off c3]
  by_cases c2 : j = 2
  · rw [c2, uI_at, uI_at]
  rw [uI_off c2, uI_off c2]
  by_cases c1 : j = 1
  · rw [c1, uI_at, uI_at]
  rw [uI_off c1, uI_off c1]
  have c0 : j = 0 := by omega
  rw [c0, uI_at, uI_at]
theorem g12_asksOf {part h left w done : Int32} {J : zMI} (hw : 0 ≤ w.toInt ∧ w.toInt < 5) : f12_asksOf part h left w done J = zb (f12_says part (zNmq J 98 h w (J 85 w.toNatClampNeg) left done (J 81 3))) fun p20 => zb (f12_within p20.1 (if part = 2 then 0 else 1) (if part = 2 then 99 else 20)) fun p28 => some (p28, p20.2) := by
  have hz : ∀ k : Int32, 0 ≤ k.toInt ∧ k.toInt < 6 → zib k 6 = true := fun k hk => zib_ok hk.1 (by omega)
  unfold f12_asksOf
  rw [if_pos (hz 0 (by decide)), zl_eq, if_pos (hz 1 (by decide)), zl_eq, if_pos (zib_ok hw.1 (by omega)), if_pos (hz 2 (by decide)), zl_eq, if_pos (hz 3 (by decide)), zl_eq, if_pos (hz 4 (by decide)), zl_eq, if_pos (hz 5 (by decide)), zl_eq]
  simp (disch := omega) only [uI_ne]
  rfl
theorem zLx_part {len s t : Nat} {I J : zMI} (hx : zLx len s I J t) {p : Nat} (hp : p < 3) : 0 ≤ (I (s + 4) p).toInt ∧ (I (s + 4) p).toInt < (I (s + 4) (p + 1)).toInt ∧ (I (s + 4) (p + 1)).toInt ≤ (len : Int) := by
  obtain ⟨-, h0, h1, h2, h3, h4, -⟩ := hx
  rcases (show p = 0 ∨ p = 1 ∨ p = 2 by omega) with rfl | rfl | rfl
  · show 0 ≤ (I (s + 4) 0).toInt ∧ (I (s + 4) 0).toInt < (I (s + 4) 1).toInt ∧ (I (s + 4) 1).toInt ≤ (len : Int)
    omega
  · show 0 ≤ (I (s + 4) 1).toInt ∧ (I (s + 4) 1).toInt < (I (s + 4) 2).toInt ∧ (I (s + 4) 2).toInt ≤ (len : Int)
    omega
  · show 0 ≤ (I (s + 4) 2).toInt ∧ (I (s + 4) 2).toInt < (I (s + 4) 3).toInt ∧ (I (s + 4) 3).toInt ≤ (len : Int)
    omega
/-- how the class comes to its loop -/
theorem g3_says_go {n : Nat} {kd : zMK} {R : zMR} {L s a : Nat} {I : zMI} {part h left done many x : Int32} (hL : zLo n kd R L s) (hp : 0 ≤ part.toInt ∧ part.toInt ≤ 2) (hW : zWkB n kd a = true) (ha : a ≠ s + 1) (hl : I (s + 2) part.toNatClampNeg = -1) (hx : I (s + 4) part.toNatClampNeg = x) (h0 : 0 ≤ x.toInt) :
    f3_says n kd R L part (some a) h left done many I = f3_says_L109 n kd R (f3_says_B241 n kd R) zF L part 0 x (zNmq I (s + 1) h (I a 0) (I a 1) left done many) := by
  obtain ⟨r0, r1, r2, r3, r4, n0, n1, n2, n4⟩ := zLo_rows hL
  obtain ⟨g19, -, gn, -, -, -, -, g160, -, q2, q3, q4, q0, q1⟩ := hL
  have ep : (part + 1).toInt = part.toInt + 1 := zadd (by rw [z1]; omega) (by rw [z1]; omega)
  have t1 : ¬ part < 0 := by rw [zlt_iff, z0]; omega
  have t2 : ¬ (3 : Int32) ≤ part := by rw [zle_iff, zn3i]; omega
  have t3 : ¬ Int32.ofNat 4 ≤ part + 1 := by rw [zle_iff, show (Int32.ofNat 4).toInt = 4 from rfl, ep]; omega
  have hz : ∀ k : Int32, 0 ≤ k.toInt ∧ k.toInt < 6 → zib k 6 = true := fun k hk => zib_ok hk.1 (by omega)
  have hx0 : (if (0 : Int32) < x then x else 0) = x := by
    by_cases c : (0 : Int32) < x
    · rw [if_pos c]
    · rw [if_neg c]
      rw [zlt_iff, z0] at c
      rw [zeq_iff, z0]
      omega
  unfold f3_says
  rw [if_neg t1, if_neg t2, if_pos g19, q1, zm_some, if_pos r4, n4, if_neg t3, zm_some, q4, zm_some, if_pos r2, n2, if_pos (zib_ok hp.1 (by omega)), if_pos hl, q3, zm_some, if_pos r1, n1, if_pos (hz 0 (by decide)), zl_eq, zm_some, if_pos hW, if_pos r1, n1, if_pos (hz 1 (by decide)), zl_eq, zm_some, if_pos r1, n1, if_pos (hz 2 (by decide)), zl_eq, zm_some, if_pos r1, n1, if_pos (hz 3 (by decide)), zl_eq, zm_some, if_pos r1, n1, if_pos (hz 4 (by decide)), zl_eq, zm_some, if_pos r1, n1, if_pos (hz 5 (by decide)), zl_eq, zm_some, if_pos r4, n4, if_pos (zib_ok hp.1 (by omega)), zl_eq]
  simp (disch := omega) only [uI_ne, hx, hx0]
  rfl
theorem g3_says_lone {n : Nat} {kd : zMK} {R : zMR} {L s a : Nat} {I : zMI} {part h left done many : Int32} (hL : zLo n kd R L s) (hp : 0 ≤ part.toInt ∧ part.toInt ≤ 2) (hl : ¬ I (s + 2) part.toNatClampNeg = -1) :
    f3_says n kd R L part (some a) h left done many I = some (I (s + 2) part.toNatClampNeg, I) := by
  obtain ⟨r0, r1, r2, r3, r4, n0, n1, n2, n4⟩ := zLo_rows hL
  obtain ⟨g19, -, gn, -, -, -, -, g160, -, q2, q3, q4, q0, q1⟩ := hL
  have ep : (part + 1).toInt = part.toInt + 1 := zadd (by rw [z1]; omega) (by rw [z1]; omega)
  have t1 : ¬ part < 0 := by rw [zlt_iff, z0]; omega
  have t2 : ¬ (3 : Int32) ≤ part := by rw [zle_iff, zn3i]; omega
  have t3 : ¬ Int32.ofNat 4 ≤ part + 1 := by rw [zle_iff, show (Int32.ofNat 4).toInt = 4 from rfl, ep]; omega
  have hz3 : zib part 3 = true := zib_ok hp.1 (by omega)
  unfold f3_says
  rw [if_neg t1, if_neg t2, if_pos g19, q1, zm_some, if_pos r4, n4, if_neg t3, zm_some, q4, zm_some, if_pos r2, n2, if_pos hz3, if_neg hl, zm_some, if_pos r2, n2, if_pos hz3]
theorem zsG_num {q' : Nat} {part l8 w : Int32} {J : zMI} (hk : 0 ≤ w.toInt ∧ w.toInt ≤ 9999) : zsG q' part 0 l8 (zw2c w) J = f12_says_L16 q' part 1 (l8 + 1) (uI J 97 0 w) := by
  have c2 : zw2c w = w + 100000 := by unfold zw2c; rw [if_pos (by rw [zle_iff, z0]; omega)]
  have e5 : (w + 100000).toInt = w.toInt + 100000 := by rw [zadd (by rw [zn100k]; omega) (by rw [zn100k]; omega), zn100k]
  have c4 : w + 100000 - 100000 = w := by
    rw [zeq_iff, zsub (by rw [zn100k, e5]; omega) (by rw [zn100k, e5]; omega), e5, zn100k]
    omega
  unfold zsG
  rw [c2, zl_eq, if_pos (by rw [zle_iff, e5, zn100k]; omega)]
  unfold f12_says_B66 f12_says_B93 f12_says_B191
  rw [if_pos (by rw [zle_iff, e5, zn11i]; omega), if_pos (zib_ok (by rw [z0]; omega) (by rw [z0]; omega)), zl_eq, c4]
  rfl
theorem zsays {n : Nat} {kd : zMK} {R : zMR} {L s a t : Nat} {I J : zMI} {part h left done many w : Int32} (hLw : zLw n kd R L s I J t) (ht : (J 81 12).toInt = (t : Int)) (ht6 : t < 6) (hp : 0 ≤ part.toInt ∧ part.toInt ≤ 2) (hW : zWkB n kd a = true) (ha : a ≠ s + 1) (hw : 0 ≤ w.toInt ∧ w.toInt < 5) (e0 : I a 0 = w) (e1 : I a 1 = J 85 w.toNatClampNeg) (em : many = J 81 3) :
    ∃ v I' J', f3_says n kd R L part (some a) h left done many I = some (v, I') ∧ f12_asksOf part h left w done J = some (v, J') ∧ (∀ b, b ≠ s → b ≠ s + 1 → I' b = I b) ∧ (∀ b, b ≠ 97 → b ≠ 98 → J' b = J b) ∧ (part = 2 → 0 ≤ v.toInt ∧ v.toInt ≤ 99) ∧ (part ≠ 2 → 1 ≤ v.toInt ∧ v.toInt ≤ 20) := by
  obtain ⟨hL, hx⟩ := hLw
  have ep : (part + 1).toInt = part.toInt + 1 := zadd (by rw [z1]; omega) (by rw [z1]; omega)
  have en : (part + 1).toNatClampNeg = part.toNatClampNeg + 1 := by simp only [zcl_iff, ep]; omega
  have hp3 : part.toNatClampNeg < 3 := by rw [zcl_iff]; omega
  have hg := hL
  obtain ⟨g19, -, gn, -, -, -, -, g160, -⟩ := hg
  obtain ⟨p1, p2, p3⟩ := zLx_part hx hp3
  have hx0 := hx
  obtain ⟨x1, -, -, -, -, -, x2, x3, x4⟩ := hx
  have xl := x4 _ hp3
  have xd := x3 _ hp3
  obtain ⟨y, ey⟩ : ∃ y, I (s + 4) part.toNatClampNeg = y := ⟨_, rfl⟩
  obtain ⟨x, ex⟩ : ∃ x, I (s + 4) (part + 1).toNatClampNeg = x := ⟨_, rfl⟩
  have ex' := ex
  rw [en] at ex'
  rw [ex', ey] at p2 xl xd
  rw [ex'] at p3
  rw [ey] at p1
  have e89 : J 89 (4 * t + part.toNatClampNeg) = y := by rw [← ey]; exact (x1 _ (by omega)).symm
  have e89' : J 89 (4 * t + (part + 1).toNatClampNeg) = x := by rw [en, ← ex']; exact (x1 _ (by omega)).symm
  have r2 : part = 2 → part.toNatClampNeg = 2 := fun c => by rw [c]; rfl
  have r2' : part ≠ 2 → part.toNatClampNeg ≠ 2 := fun c q => c (by rw [zeq_iff, z2]; rw [zcl_iff] at q; omega)
  -- the reference's way in
  have a1 : ((4 : Int32) * J 81 12).toInt = 4 * t := by rw [zmul (by rw [zn4i]; omega) (by rw [zn4i]; omega), zn4i, ht]
  have a2 : ((4 : Int32) * J 81 12 + part).toInt = 4 * t + part.toInt := by rw [zadd (by omega) (by omega), a1]
  have a3 : ((4 : Int32) * J 81 12 + part).toNatClampNeg = 4 * t + part.toNatClampNeg := by simp only [zcl_iff, a2]; omega
  have G : f12_says part (zNmq J 98 h w (J 85 w.toNatClampNeg) left done (J 81 3)) = f12_says_L16 zF part 0 y (zNmq J 98 h w (J 85 w.toNatClampNeg) left done (J 81 3)) := by
    unfold f12_says
    rw [zNm_ne (show 81 ≠ 98 by decide), zNm_ne (show 89 ≠ 98 by decide), if_pos (zib_ok (by omega) (by omega)), zl_eq, a3, e89]
  obtain ⟨M, hM⟩ : ∃ M, zNmq J 98 h w (J 85 w.toNatClampNeg) left done (J 81 3) = M := ⟨_, rfl⟩
  have M_ne : ∀ b, b ≠ 98 → M b = J b := fun b hb => by rw [← hM, zNm_ne hb]
  have M81 : M 81 = J 81 := M_ne 81 (by decide)
  have M88 : M 88 = J 88 := M_ne 88 (by decide)
  have M89 : M 89 = J 89 := M_ne 89 (by decide)
  by_cases c : x.toInt = y.toInt + 1 ∧ 0 ≤ (I (s + 3) y.toInt.toNat).toInt
  · rw [if_pos c] at xl
    obtain ⟨b1, b2⟩ := zBd_rng part.toNatClampNeg (I (s + 3) y.toInt.toNat)
    have nl : ¬ I (s + 2) part.toNatClampNeg = -1 := fun q => by
      rw [xl] at q
      by_cases c2 : part = 2
      · have := (b1 (r2 c2)).1
        rw [q, znm1] at this
        omega
      · have := (b2 (r2' c2)).1
        rw [q, znm1] at this
        omega
    obtain ⟨wd, ewd⟩ : ∃ wd, I (s + 3) y.toInt.toNat = wd := ⟨_, rfl⟩
    rw [ewd] at c xl b1 b2
    have ny : y.toNatClampNeg = y.toInt.toNat := zcl_iff y
    obtain ⟨w1, w2⟩ := x2 y.toInt.toNat (by omega)
    rw [ewd] at w1 w2
    have S1' := zsayG (q' := 999997 + 1 + 1) (part := part) (l7 := 0) (l8 := y) (J := M) (t := t) (c := zw2c wd) (x := x) hp ⟨p1, p2⟩ (by omega) (by rw [M81]; exact ht) ht6 (by rw [M89]; exact e89') (by rw [M88, ny]; exact w2)
    have S2 := zsG_num (q' := 999997 + 1 + 1) (part := part) (l8 := y) (J := M) (w := wd) ⟨c.2, (zlow w1).2⟩
    have e8 : (y + 1).toInt = y.toInt + 1 := zadd (by rw [z1]; omega) (by rw [z1]; omega)
    have S3 := zsays_end (J := uI M 97 0 wd) (part := part) (l7 := 1) (l8 := y + 1) (x := x) (t := t) (q' := 999997 + 1) hp (by omega) (by rw [uI_ne (by decide), M81]; exact ht) ht6 (by rw [uI_ne (by decide), M89]; exact e89')
    have hz : zF = 999997 + 1 + 1 + 1 := by decide +kernel
    refine ⟨zBd part.toNatClampNeg wd, I, uI M 97 0 wd, ?_, ?_, fun _ _ _ => rfl, fun b h1 h2 => by rw [uI_ne h1, M_ne b h2], fun c2 => b1 (r2 c2), fun c2 => b2 (r2' c2)⟩
    · rw [g3_says_lone hL hp nl, xl]
    · have S : f12_says_L16 zF part 0 y M = some (wd, uI M 97 0 wd) := by
        rw [hz, S1', S2, S3]
        rfl
      rw [g12_asksOf hw, G, hM, S, zb_some, g12_bounded part wd hp, zb_some]
  · rw [if_neg c] at xl
    obtain ⟨v, I', J', u1, u2, u3, u4⟩ := zsays_loop hL hp ht6 (x := x) p3 (x.toInt - y.toInt).toNat zF zF 0 y 0 (zNmq I (s + 1) h (I a 0) (I a 1) left done many) M (by omega) p1 (by unfold zF; omega) (by unfold zF; omega) rfl (by rw [zNm_ne (show s + 3 ≠ s + 1 by omega), show (x.toInt - y.toInt).toNat = x.toInt.toNat - y.toInt.toNat by omega]; exact xd) (by rw [zNm_ne (show s + 4 ≠ s + 1 by omega)]; exact ex) (by rw [M81]; exact ht) (by rw [M89]; exact e89') (fun j hj => by rw [zNm_ne (show s + 3 ≠ s + 1 by omega), M88]; exact x2 j hj) (fun j hj => absurd hj (Nat.not_lt_zero j)) (fun j hj => by rw [← hM, e0, e1, em]; exact zNm_at j hj)
    refine ⟨zBd part.toNatClampNeg v, I', J', ?_, ?_, fun b h1 h2 => by rw [u3 b h1, zNm_ne h2], fun b h1 h2 => by rw [u4 b h1, M_ne b h2], fun c2 => (zBd_rng _ v).1 (r2 c2), fun c2 => (zBd_rng _ v).2 (r2' c2)⟩
    · rw [g3_says_go hL hp hW ha xl ey p1]
      exact u1
    · rw [g12_asksOf hw, G, hM, u2, zb_some, g12_bounded part v hp, zb_some]
