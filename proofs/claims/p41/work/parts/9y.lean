/-! pure part: a whole text is read on both sides -/
def zFQ (I I' : zMI) : Prop := (∀ b, b ≠ 37 → b ≠ 39 → b ≠ 40 → I' b = I b) ∧ ∀ j, j ≠ 2 → j ≠ 3 → j ≠ 4 → j ≠ 5 → j ≠ 6 → j ≠ 8 → I' 37 j = I 37 j
def zFU (t : Nat) (J J' : zMI) : Prop := (∀ b, b ≠ 81 → b ≠ 88 → b ≠ 89 → b ≠ 96 → J' b = J b) ∧ (∀ j, j ≠ 8 → j ≠ 11 → j < 22 → J' 81 j = J 81 j) ∧ (∀ k, k < 200 * t → J' 88 k = J 88 k) ∧ ∀ k, k < 4 * t → J' 89 k = J 89 k
theorem zFP_Q {i : Nat} {I I' : zMI} (h : zFP i I I') : zFQ I I' := ⟨h.1, h.2.1⟩
theorem zFQ_tr {I I' I'' : zMI} (h : zFQ I I') (h' : zFQ I' I'') : zFQ I I'' := ⟨fun b x y z => by rw [h'.1 b x y z, h.1 b x y z], fun j x1 x2 x3 x4 x5 x6 => by rw [h'.2 j x1 x2 x3 x4 x5 x6, h.2 j x1 x2 x3 x4 x5 x6]⟩
theorem zFT_U {t i : Nat} {J J' : zMI} (h : zFT t i J J') : zFU t J J' := ⟨h.1, fun j _ _ x => h.2.1 j (Or.inl x), h.2.2.1, fun k x => h.2.2.2 k (by omega)⟩
theorem zFU_tr {t : Nat} {J J' J'' : zMI} (h : zFU t J J') (h' : zFU t J' J'') : zFU t J J'' := ⟨fun b x y z w => by rw [h'.1 b x y z w, h.1 b x y z w], fun j x y z => by rw [h'.2.1 j x y z, h.2.1 j x y z], fun k x => by rw [h'.2.2.1 k x, h.2.2.1 k x], fun k x => by rw [h'.2.2.2 k x, h.2.2.2 k x]⟩
/-- where the reference's reading begins -/
def zRb (T : Nat → Int32) (z t : Nat) (J : zMI) : Prop := J 81 8 = Int32.ofNat z ∧ (∀ k, k < z → J 87 k = T k) ∧ (∀ j, j < 96 → J 95 j = zTw j) ∧ J 81 11 = Int32.ofNat t
/-- what a good text is -/
def zGw3 (W1 W2 W3 : List Int32) : Prop := ∃ N2 N3, W2 = N2 ++ W1 ∧ W3 = N3 ++ W2 ∧ zds W1 0 = some 1 ∧ zds N2 0 = some 1 ∧ zds N3 0 = some 1 ∧ (∀ x ∈ W3, zwk x) ∧ W3.length ≤ 160
section
variable {T : Nat → Int32} {z t : Nat}
theorem g12_B122 {J : zMI} {l1 : Int32} (h11 : J 81 11 = Int32.ofNat t) (ht : t ≤ 5) : ∃ J', f12_text_B122 l1 J = some (if l1 = 0 then -100 - J 81 23 else Int32.ofNat t, J') ∧ J' 81 8 = 0 ∧ J' 81 11 = (if l1 = 0 then Int32.ofNat t else Int32.ofNat (t + 1)) ∧ J' 89 (4 * t + 3) = J 81 30 ∧ (∀ k, k ≠ 4 * t + 3 → J' 89 k = J 89 k) ∧ (∀ b, b ≠ 81 → b ≠ 89 → J' b = J b) ∧ ∀ j, j ≠ 8 → j ≠ 11 → J' 81 j = J 81 j := by
  have et := zofn_i (m := t) (by omega)
  have z4 : (4 : Int32).toInt = 4 := rfl
  have e1 : ((4 : Int32) * Int32.ofNat t).toInt = 4 * (t : Int) := by rw [zmul (by rw [z4]; omega) (by rw [z4]; omega), z4, et]
  have e2 : ((4 : Int32) * Int32.ofNat t + 3).toInt = ((4 * t + 3 : Nat) : Int) := by rw [zadd (by rw [zn3i]; omega) (by rw [zn3i]; omega), zn3i]; omega
  have n2 : ((4 : Int32) * Int32.ofNat t + 3).toNatClampNeg = 4 * t + 3 := by rw [zcl_iff, e2]; omega
  unfold f12_text_B122
  rw [h11, if_pos (zib_ok (by omega) (by omega)), zl_eq, zl_eq, n2]
  by_cases c : l1 = 0
  · rw [if_pos c, if_pos c, if_pos c]
    exact ⟨_, by rw [uI_off (by decide), uI_ne (by decide)], uI_at, by rw [uI_off (by decide), uI_ne (by decide)]; exact h11, by rw [uI_ne (by decide), uI_at], fun k x => by rw [uI_ne (by decide), uI_off x], fun b x y => by rw [uI_ne x, uI_ne y], fun j x y => by rw [uI_off x, uI_ne (by decide)]⟩
  · rw [if_neg c, if_neg c, if_neg c, zl_eq, uI_at, uI_off (show (11 : Nat) ≠ 8 by decide), uI_ne (show (81 : Nat) ≠ 89 by decide), h11, zofs (by omega)]
    have e3 : Int32.ofNat (t + 1) - 1 = Int32.ofNat t := by rw [← zofs (by omega), zeq_iff, zsub (by rw [zadd (by rw [z1]; omega) (by rw [z1]; omega), z1]; omega) (by rw [zadd (by rw [z1]; omega) (by rw [z1]; omega), z1]; omega), zadd (by rw [z1]; omega) (by rw [z1]; omega), z1]; omega
    rw [e3]
    exact ⟨_, rfl, by rw [uI_off (by decide), uI_at], uI_at, by rw [uI_ne (by decide), uI_ne (by decide), uI_at], fun k x => by rw [uI_ne (by decide), uI_ne (by decide), uI_off x], fun b x y => by rw [uI_ne x, uI_ne x, uI_ne y], fun j x y => by rw [uI_off y, uI_off x, uI_ne (by decide)]⟩
theorem zKr_0 {k : Int32} (hk : zkin k) : zKr k = 0 ↔ k = 0 := by
  rcases hk with k | k | k | k | k | k | k | k | k | k | k | k | k | k | k | k | k | k <;> subst k <;> decide
theorem zread {I : zMI} (hz : z ≤ 160) (ht : t ≤ 5) (h1 : I 37 1 = Int32.ofNat z) (hT : ∀ k, k < z → I 38 k = T k) (hb : ∀ k, k < z → 0 ≤ (T k).toInt) : ∃ fl I', f7_read I = some (fl, I') ∧ zFQ I I' ∧
    ((fl = -1 ∧ ∃ W1 W2 W3, zGw3 W1 W2 W3 ∧ zhs (I' 39) 0 W3 ∧ I' 37 8 = Int32.ofNat W3.length ∧ I' 40 0 = 0 ∧ I' 40 1 = Int32.ofNat W1.length ∧ I' 40 2 = Int32.ofNat W2.length ∧ I' 40 3 = Int32.ofNat W3.length ∧ ∀ J, zRb T z t J → ∃ J', f12_text J = some (Int32.ofNat t, J') ∧ J' 81 8 = 0 ∧ J' 81 11 = Int32.ofNat (t + 1) ∧ zhs (J' 88) (200 * t) (W3.map zw2c) ∧ J' 89 (4 * t) = 0 ∧ J' 89 (4 * t + 1) = Int32.ofNat W1.length ∧ J' 89 (4 * t + 2) = Int32.ofNat W2.length ∧ J' 89 (4 * t + 3) = Int32.ofNat W3.length ∧ zFU t J J')
    ∨ (¬ fl = -1 ∧ ∀ J, zRb T z t J → ∃ J', f12_text J = some (-100 - fl, J') ∧ J' 81 8 = 0 ∧ J' 81 11 = Int32.ofNat t ∧ zFU t J J')) := by
  have et := zofn_i (m := t) (by omega)
  obtain ⟨I0, hI0⟩ : ∃ I0, uI (uI (uI I 37 2 0) 37 6 (-1)) 37 8 0 = I0 := ⟨_, rfl⟩
  have a1 : I0 37 1 = Int32.ofNat z := by rw [← hI0, uI_off (by decide), uI_off (by decide), uI_off (by decide)]; exact h1
  have aT : ∀ k, k < z → I0 38 k = T k := fun k hk => by rw [← hI0, uI_ne (by decide), uI_ne (by decide), uI_ne (by decide)]; exact hT k hk
  have a2 : I0 37 2 = Int32.ofNat 0 := by rw [← hI0, uI_off (by decide), uI_off (by decide), uI_at]; rfl
  have a6 : I0 37 6 = -1 := by rw [← hI0, uI_off (by decide), uI_at]
  have a8 : I0 37 8 = Int32.ofNat 0 := by rw [← hI0, uI_at]; rfl
  have q0 : zFQ I I0 := by rw [← hI0]; exact ⟨fun b x _ _ => by rw [uI_ne x, uI_ne x, uI_ne x], fun j x1 _ _ _ x5 x6 => by rw [uI_off x6, uI_off x5, uI_off x1]⟩
  obtain ⟨I1, b1, b2, b3, b4, b5, b6, b7⟩ := g7_next (T := T) (z := z) (I := I0) (p := 0) hz (Nat.zero_le _) hb a1 aT a2
  have q1 : zFQ I I1 := zFQ_tr q0 ⟨fun b x _ _ => b7 b x, fun j x1 x2 x3 x4 _ _ => b6 j x1 x2 x3 x4⟩
  have c1 : zCS T z I1 0 [] := ⟨by rw [b6 1 (by decide) (by decide) (by decide) (by decide)]; exact a1, fun k hk => by rw [b7 38 (by decide)]; exact aT k hk, b2, b3, b4, b5, by rw [b6 6 (by decide) (by decide) (by decide) (by decide)]; exact a6, by rw [b6 8 (by decide) (by decide) (by decide) (by decide)]; exact a8, trivial, Nat.zero_le _, hz, hb⟩
  -- the reference's beginning
  have rb : ∀ J, zRb T z t J → ∃ J0, f12_text J = f12_text_L26 f12_text_B101 zF 1 0 J0 ∧ zRz T z t J0 0 [] ∧ zFU t J J0 := fun J hJ => by
    obtain ⟨x1, x2, x3, x4⟩ := hJ
    refine ⟨uI (uI J 81 22 0) 81 30 0, ?_, ⟨by rw [uI_off (by decide), uI_off (by decide)]; exact x1, fun k hk => by rw [uI_ne (by decide), uI_ne (by decide)]; exact x2 k hk, fun j hj => by rw [uI_ne (by decide), uI_ne (by decide)]; exact x3 j hj, by rw [uI_off (by decide), uI_at]; rfl, by rw [uI_off (by decide), uI_off (by decide)]; exact x4, by rw [uI_at]; rfl, trivial, Nat.le_refl _, Nat.zero_le _, hz, ht⟩, ⟨fun b y _ _ _ => by rw [uI_ne y, uI_ne y], fun j _ _ y => by rw [uI_off (by omega), uI_off (by omega)], fun k _ => by rw [uI_ne (by decide), uI_ne (by decide)], fun k _ => by rw [uI_ne (by decide), uI_ne (by decide)]⟩⟩
    unfold f12_text
    rw [x4, if_neg (by rw [zeq_iff, et, zn6i]; omega), zl_eq, zl_eq]
  -- its end behind a fault
  have re : ∀ J (b : Nat), J 81 11 = Int32.ofNat t → J 81 23 = Int32.ofNat b → ∃ J', f12_text_B101 0 J = some (-100 - Int32.ofNat b, J') ∧ J' 81 8 = 0 ∧ J' 81 11 = Int32.ofNat t ∧ zFU t J J' := fun J b x1 x3 => by
    obtain ⟨J', y1, y2, y3, y4, y5, y6, y7⟩ := g12_B122 (l1 := 0) x1 ht
    rw [if_pos rfl] at y1 y3
    refine ⟨J', ?_, y2, y3, ⟨fun b x _ z _ => y6 b x z, fun j x y _ => y7 j x y, fun k _ => by rw [y6 88 (by decide) (by decide)], fun k x => y5 k (by omega)⟩⟩
    unfold f12_text_B101
    rw [if_pos rfl, y1, x3]
  have nb : ∀ b : Nat, b ≤ z → ¬ Int32.ofNat b = -1 := fun b hb' => by rw [zeq_iff, zofn_i (by omega), znm1]; omega
  obtain ⟨Q, hQ⟩ : ∃ Q, zF = Q + 5 := ⟨zF - 5, by unfold zF; omega⟩
  -- the class's end
  have fin : ∀ I' b, zVS T z b I' → ∃ I'', (if zib (3 : Int32) 4 = true then zl (uI I' 40 (3 : Int32).toNatClampNeg (I' 37 8)) fun J16 => if (J16 37 3) = (0 : Int32) then some ((J16 37 6), J16) else zb (f7_fail J16) fun p19 => some ((p19 37 6), p19) else none) = some (Int32.ofNat b, I'') ∧ zFQ I' I'' := fun I' b hI' => by
    have e6 := hI'.2.2.2.1
    have n1 := zVS_n1 hI'
    rw [if_pos (by decide), zl_eq, uI_ne (show (37 : Nat) ≠ 40 by decide)]
    have fq : zFQ I' (uI I' 40 (3 : Int32).toNatClampNeg (I' 37 8)) := ⟨fun b _ _ x => uI_ne x, fun j _ _ _ _ _ _ => by rw [uI_ne (by decide)]⟩
    by_cases y : I' 37 3 = 0
    · rw [if_pos y, e6]
      exact ⟨_, rfl, fq⟩
    · rw [if_neg y]
      unfold f7_fail
      rw [uI_ne (show (37 : Nat) ≠ 40 by decide), if_neg n1, zb_some, uI_ne (show (37 : Nat) ≠ 40 by decide), e6]
      exact ⟨_, rfl, fq⟩
  have F : f7_read I = zb (f7_readPart (Int32.ofNat 0) (Int32.ofNat (4 + 0)) I1) fun p9 => zb (f7_readPart (Int32.ofNat 1) (Int32.ofNat (4 + 1)) p9) fun p11 => zb (f7_readPart (Int32.ofNat 2) (Int32.ofNat (4 + 2)) p11) fun p13 => if zib (3 : Int32) 4 = true then zl (uI p13 40 (3 : Int32).toNatClampNeg (p13 37 8)) fun J16 => if (J16 37 3) = (0 : Int32) then some ((J16 37 6), J16) else zb (f7_fail J16) fun p19 => some ((p19 37 6), p19) else none := by
    unfold f7_read
    rw [zl_eq, zl_eq, zl_eq, hI0, b1, zb_some]
    rfl
  rw [F]
  obtain ⟨I2, d1, d2, d3⟩ := zpart (t := t) (show 0 < 3 by decide) c1 (Nat.le_refl _) f12_text_B101
  rw [d1, zb_some]
  have q2 := zFQ_tr q1 (zFP_Q d2)
  rcases d3 with h | ⟨b, e1, e2⟩
  case inr =>
    obtain ⟨I3, x1, x2, x3⟩ := zV_part (i := 1) (by decide) (l2 := Int32.ofNat (4 + 1)) e1
    obtain ⟨I4, y1, y2, y3⟩ := zV_part (i := 2) (by decide) (l2 := Int32.ofNat (4 + 2)) x2
    obtain ⟨I5, w1, w2⟩ := fin I4 b y2
    rw [x1, zb_some, y1, zb_some, w1]
    refine ⟨_, I5, rfl, zFQ_tr (zFQ_tr q2 (zFP_Q x3)) (zFQ_tr (zFP_Q y3) w2), Or.inr ⟨nb b e1.2.2.2.2.1, fun J hJ => ?_⟩⟩
    obtain ⟨J0, g1, g2, g3⟩ := rb J hJ
    obtain ⟨J1, k1, k2, -, k3, k4⟩ := e2 (Q + 3) J0 g2
    obtain ⟨J2, l1, l2, l3, l4⟩ := re J1 b k2 k3
    exact ⟨J2, by rw [g1, hQ]; exact k1.trans l1, l2, l3, zFU_tr (zFU_tr g3 (zFT_U k4)) l4⟩
  obtain ⟨p1, W1, e1, e2, e3, e4, e5, e6⟩ := h
  rw [List.append_nil] at e1 e2 e6
  obtain ⟨I3, m1, m2, m3⟩ := zpart (t := t) (show 1 < 3 by decide) e1 e2 f12_text_B101
  rw [m1, zb_some]
  have q3 := zFQ_tr q2 (zFP_Q m2)
  rcases m3 with h | ⟨b, n1, n2⟩
  case inr =>
    obtain ⟨I4, y1, y2, y3⟩ := zV_part (i := 2) (by decide) (l2 := Int32.ofNat (4 + 2)) n1
    obtain ⟨I5, w1, w2⟩ := fin I4 b y2
    rw [y1, zb_some, w1]
    refine ⟨_, I5, rfl, zFQ_tr q3 (zFQ_tr (zFP_Q y3) w2), Or.inr ⟨nb b n1.2.2.2.2.1, fun J hJ => ?_⟩⟩
    obtain ⟨J0, g1, g2, g3⟩ := rb J hJ
    obtain ⟨Ja, h1, h2, h3, h4⟩ := e6 (Q + 4) J0 g2
    obtain ⟨J1, k1, k2, -, k3, k4⟩ := n2 (Q + 2) Ja h2
    obtain ⟨J2, l1, l2, l3, l4⟩ := re J1 b k2 k3
    exact ⟨J2, by rw [g1, hQ]; exact h1.trans (k1.trans l1), l2, l3, zFU_tr (zFU_tr g3 (zFT_U h3)) (zFU_tr (zFT_U k4) l4)⟩
  obtain ⟨p2, N2, n1, n2, n3, n4, n5, n6⟩ := h
  obtain ⟨I4, o1, o2, o3⟩ := zpart (t := t) (show 2 < 3 by decide) n1 n2 f12_text_B101
  rw [o1, zb_some]
  have q4 := zFQ_tr q3 (zFP_Q o2)
  rcases o3 with h | ⟨b, r1, r2⟩
  case inr =>
    obtain ⟨I5, w1, w2⟩ := fin I4 b r1
    rw [w1]
    refine ⟨_, I5, rfl, zFQ_tr q4 w2, Or.inr ⟨nb b r1.2.2.2.2.1, fun J hJ => ?_⟩⟩
    obtain ⟨J0, g1, g2, g3⟩ := rb J hJ
    obtain ⟨Ja, h1, h2, h3, h4⟩ := e6 (Q + 4) J0 g2
    obtain ⟨Jb, i1, i2, i3, i4⟩ := n6 (Q + 3) Ja h2
    obtain ⟨J1, k1, k2, -, k3, k4⟩ := r2 (Q + 1) Jb i2
    obtain ⟨J2, l1, l2, l3, l4⟩ := re J1 b k2 k3
    exact ⟨J2, by rw [g1, hQ]; exact h1.trans (i1.trans (k1.trans l1)), l2, l3, zFU_tr (zFU_tr g3 (zFT_U h3)) (zFU_tr (zFU_tr (zFT_U i3) (zFT_U k4)) l4)⟩
  obtain ⟨p3, N3, r1, r2, r3, r4, r5, r6⟩ := h
  -- the end of the text
  have hin := zKk_in (T := T) (z := z) (p := p3) r1.2.2.2.2.2.2.2.2.2.1
  have hp3 := r1.2.2.2.2.2.2.2.2.2
  have ref : ∀ J, zRb T z t J → ∃ Jd, zFU t J Jd ∧ (f12_text J = zl (if zKk T z p3 = 0 then (1 : Int32) else 0) fun x29 => f12_text_B122 x29 Jd) ∧ Jd 81 23 = Int32.ofNat (zKb T z p3) ∧ Jd 81 11 = Int32.ofNat t ∧ Jd 81 30 = Int32.ofNat (N3 ++ (N2 ++ W1)).length ∧ zhs (Jd 88) (200 * t) ((N3 ++ (N2 ++ W1)).map zw2c) ∧ Jd 89 (4 * t) = 0 ∧ Jd 89 (4 * t + 1) = Int32.ofNat W1.length ∧ Jd 89 (4 * t + 2) = Int32.ofNat (N2 ++ W1).length := fun J hJ => by
    obtain ⟨J0, g1, g2, g3⟩ := rb J hJ
    obtain ⟨Ja, h1, h2, h3, h4⟩ := e6 (Q + 4) J0 g2
    obtain ⟨Jb, i1, i2, i3, i4⟩ := n6 (Q + 3) Ja h2
    obtain ⟨Jc, j1, j2, j3, j4⟩ := r6 (Q + 2) Jb i2
    obtain ⟨Jd, k1, k2, k3, k4, k5, k6, k7⟩ := zRz_next j2
    have hx : (if Jd 81 24 = (0 : Int32) then (1 : Int32) else 0) = if zKk T z p3 = 0 then 1 else 0 := by
      by_cases y : zKk T z p3 = 0
      · rw [if_pos y, if_pos (by rw [k4]; exact (zKr_0 hin).mpr y)]
      · rw [if_neg y, if_neg (fun v => y ((zKr_0 hin).mp (by rw [← k4]; exact v)))]
    have L : f12_text_L26 f12_text_B101 (Q + 2) 1 (Int32.ofNat (2 + 1)) Jc = f12_text_B101 1 Jc := by
      rw [f12_text_L26]
      rw [if_pos (by decide)]
    refine ⟨Jd, zFU_tr (zFU_tr g3 (zFT_U h3)) (zFU_tr (zFU_tr (zFT_U i3) (zFT_U j3)) ⟨fun b x _ _ _ => k6 b x, fun j _ _ x => k7 j (Or.inl x), fun k _ => by rw [k6 88 (by decide)], fun k _ => by rw [k6 89 (by decide)]⟩), ?_, k3, k2.2.2.2.2.1, by rw [k2.2.2.2.2.2.1, List.length_map], k2.2.2.2.2.2.2.1, ?_, ?_, ?_⟩
    · rw [g1, hQ]
      refine (h1.trans (i1.trans (j1.trans L))).trans ?_
      unfold f12_text_B101
      rw [if_neg (by decide), k1, zb_some, hx]
    · rw [k6 89 (by decide), j3.2.2.2 _ (by omega), i3.2.2.2 _ (by omega)]
      exact h4
    · rw [k6 89 (by decide), j3.2.2.2 _ (by omega)]
      exact i4
    · rw [k6 89 (by decide)]
      exact j4
  have q5 : zFQ I4 (uI I4 40 (3 : Int32).toNatClampNeg (I4 37 8)) := ⟨fun b _ _ x => uI_ne x, fun j _ _ _ _ _ _ => by rw [uI_ne (by decide)]⟩
  rw [if_pos (by decide), zl_eq, uI_ne (show (37 : Nat) ≠ 40 by decide), r1.2.2.2.1]
  by_cases k0 : zKk T z p3 = 0
  · rw [if_pos k0]
    refine ⟨_, _, rfl, zFQ_tr q4 q5, Or.inl ⟨r1.2.2.2.2.2.2.1, W1, N2 ++ W1, N3 ++ (N2 ++ W1), ⟨N2, N3, rfl, rfl, e3, n3, r3, fun x hx => ?_, by omega⟩, by rw [uI_ne (by decide)]; exact r1.2.2.2.2.2.2.2.2.1, by rw [uI_ne (by decide)]; exact r1.2.2.2.2.2.2.2.1, ?_, ?_, ?_, ?_, fun J hJ => ?_⟩⟩
    · rw [List.mem_append, List.mem_append] at hx
      rcases hx with hx | hx | hx
      · exact r4 x hx
      · exact n4 x hx
      · exact e4 x hx
    · rw [uI_off (show (0 : Nat) ≠ (3 : Int32).toNatClampNeg by decide), o2.2.2 0 (by decide), m2.2.2 0 (by decide), e5]
      rfl
    · rw [uI_off (show (1 : Nat) ≠ (3 : Int32).toNatClampNeg by decide), o2.2.2 1 (by decide), n5]
    · rw [uI_off (show (2 : Nat) ≠ (3 : Int32).toNatClampNeg by decide), r5]
    · rw [show (3 : Nat) = (3 : Int32).toNatClampNeg from rfl, uI_at]
      exact r1.2.2.2.2.2.2.2.1
    · obtain ⟨Jd, s1, s2, s3, s4, s5, s6, s7, s8, s9⟩ := ref J hJ
      obtain ⟨J', y1, y2, y3, y4, y5, y6, y7⟩ := g12_B122 (l1 := 1) s4 ht
      rw [if_neg (by decide)] at y1 y3
      rw [if_pos k0, zl_eq, y1] at s2
      exact ⟨J', s2, y2, y3, by rw [y6 88 (by decide) (by decide)]; exact s6, by rw [y5 _ (by omega)]; exact s7, by rw [y5 _ (by omega)]; exact s8, by rw [y5 _ (by omega)]; exact s9, by rw [y4]; exact s5, zFU_tr s1 ⟨fun b x _ z _ => y6 b x z, fun j x y _ => y7 j x y, fun k _ => by rw [y6 88 (by decide) (by decide)], fun k x => y5 k (by omega)⟩⟩
  · rw [if_neg k0]
    unfold f7_fail
    rw [uI_ne (show (37 : Nat) ≠ 40 by decide), if_pos r1.2.2.2.2.2.2.1, zl_eq, zb_some]
    have rb3 := zKb_r (T := T) hp3.1
    refine ⟨_, _, rfl, zFQ_tr (zFQ_tr q4 q5) ⟨fun b x _ _ => uI_ne x, fun j _ _ _ _ x5 _ => uI_off x5⟩, Or.inr ?_⟩
    rw [uI_at, r1.2.2.2.2.1]
    refine ⟨nb _ rb3.2, fun J hJ => ?_⟩
    obtain ⟨Jd, s1, s2, s3, s4, s5, s6, s7, s8, s9⟩ := ref J hJ
    obtain ⟨J', y1, y2, y3, y4, y5, y6, y7⟩ := g12_B122 (l1 := 0) s4 ht
    rw [if_pos rfl] at y1 y3
    rw [if_neg k0, zl_eq, y1, s3] at s2
    exact ⟨J', s2, y2, y3, zFU_tr s1 ⟨fun b x _ z _ => y6 b x z, fun j x y _ => y7 j x y, fun k _ => by rw [y6 88 (by decide) (by decide)], fun k x => y5 k (by omega)⟩⟩
end
