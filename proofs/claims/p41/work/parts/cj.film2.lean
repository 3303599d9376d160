/-! pure part: film, judge, go, as the law asks them -/
section
variable {sl : Nat} {sf : Nat → Int32} {n : Nat} {kd : zMK} {I J M M0 : zMI} {R : zMR} {h1 : zML} {gh : zGh} {T ah : Nat} {pl : Int32 × zML}
theorem x_film (hK : xK sl sf gh h1 T pl M0) (hQ : xQ sl sf n kd I R) : ∃ I4 R1 N, f11_film n kd 1 (Int32.ofNat T) I R = some (9, I4, R1) ∧ zGE I4 N ∧ zC zT0 n kd N R1 ∧ zDef sl sf N ∧ I4 75 0 = 1 ∧ I4 75 1 = 9 ∧ ∀ k, k < 9 → (I4 76 k).toInt = (pl.2 (70 + k)).toInt := by
  have hC := hQ.1
  have hT := hK.2.2.2.1
  have eT := zofn_i (m := T) (by omega)
  obtain ⟨s, es⟩ : ∃ s : Int32, s = 1 := ⟨1, rfl⟩
  obtain ⟨sec, esec⟩ : ∃ sec : Int32, sec = Int32.ofNat T := ⟨_, rfl⟩
  have s1 : s.toInt.toNat = 1 := by rw [es]; rfl
  rw [← es, ← esec]
  rw [← esec] at eT
  have cs : 0 ≤ s.toInt ∧ s.toInt ≤ 3 := by rw [es]; decide
  have ct : 0 ≤ sec.toInt ∧ sec.toInt ≤ 600 := by omega
  have ns : s.toNatClampNeg = s.toInt.toNat := zcl_iff s
  have hk : s.toInt.toNat < 4 := by omega
  obtain ⟨L, s', hB⟩ := zC_B0 hC
  have r3 := hB.2.1.2.2.1
  obtain ⟨I1, R1, I2, x1, x2, x3, x4, x5⟩ := zgoW hB (b := 5) (bt := -1) (znone r3.2) ct
  obtain ⟨_, _, Mx, -, -, -, yx, -⟩ := x5 I hB
  have h200 : ∀ h, h < 9 → 0 ≤ (I2 (46 + h) 1).toInt ∧ (I2 (46 + h) 1).toInt ≤ 200 := fun h hh => by
    have gh := yx.2.2.2.1 h hh
    rw [gh.2.1]
    exact gh.2.2.2.2.2.2.1
  obtain ⟨I3, b1, b2, b3, b4, b5⟩ := g6_become hC.1 hk 1 9 (by decide) I2
  have I3h : ∀ h, h < 9 → I3 (46 + h) = I2 (46 + h) := fun h hh => b5 _ (by omega) (by omega)
  obtain ⟨I4, f1, f2, f3⟩ := g11_filmL (n := n) (kd := kd) (R := R1) hk h200 9 zF 0 I3 (by rw [z0]; rfl) (by rw [z0]; omega) (by unfold zF; omega) b2 b3 I3h
  have I4_ne : ∀ b, b ≠ 73 + 2 * s.toInt.toNat → b ≠ 73 + 2 * s.toInt.toNat + 1 → I4 b = I2 b := fun b y z => by rw [f3 b z, b5 b y z]
  have w4 : zFw I I4 := ⟨fun b y1 y2 => by rw [I4_ne b (by omega) (by omega), (zFw_X hB x3).1 b y1 y2], fun j hj => by rw [I4_ne 81 (by omega) (by omega), (zFw_X hB x3).2 j hj]⟩
  obtain ⟨J0, J1, M, y1, y2, y3, y4, y5, -⟩ := x5 I4 (zB0_K hB w4)
  obtain ⟨K, hK'⟩ : ∃ K, uI (uI M 91 s.toInt.toNat 1) 92 s.toInt.toNat 9 = K := ⟨_, rfl⟩
  have K_ne : ∀ b, b ≠ 91 → b ≠ 92 → K b = M b := fun b y z => by rw [← hK', uI_ne z, uI_ne y]
  obtain ⟨N, n1, n2, n3⟩ := g12_filmL (s := s) cs (J0 := M) 40 zF 0 K (by rw [z0]; rfl) (by rw [z0]; omega) (by unfold zF; omega) (K_ne 107 (by decide) (by decide))
  have N_ne : ∀ b, b ≠ 91 → b ≠ 92 → b ≠ 93 → N b = M b := fun b y z w => by rw [n3 b w, K_ne b y z]
  obtain ⟨X, hX⟩ : ∃ X : zMI, X = fun b => if b = 73 + 2 * s.toInt.toNat ∨ b = 73 + 2 * s.toInt.toNat + 1 ∨ b = 91 ∨ b = 92 ∨ b = 93 then I2 b else N b := ⟨_, rfl⟩
  have X_ne : ∀ b, ¬ (b = 73 + 2 * s.toInt.toNat ∨ b = 73 + 2 * s.toInt.toNat + 1 ∨ b = 91 ∨ b = 92 ∨ b = 93) → X b = N b := fun b y => by
    rw [hX]
    exact if_neg y
  have hXM : zFM I2 X := ⟨fun b z1' z2' => by
    by_cases c : b = 73 + 2 * s.toInt.toNat ∨ b = 73 + 2 * s.toInt.toNat + 1 ∨ b = 91 ∨ b = 92 ∨ b = 93
    · rw [hX]
      exact if_pos c
    · rw [X_ne b c, N_ne b (by omega) (by omega) (by omega), y5.1 b z1' z2', I4_ne b (by omega) (by omega)], fun j hj => by rw [X_ne 81 (by omega), N_ne 81 (by decide) (by decide) (by decide), y5.2 j hj, I4_ne 81 (by omega) (by omega)]⟩
  have hCX := zC_going hC hB zAd_0 x3 hXM x4
  have go := g12_plain y1 y2 y3
  rw [esec] at go
  have hR := x_rel hK (zDef_w hQ.2 w4) go
  refine ⟨I4, R1, N, ?_, fun b hb => ?_, ?_, ?_, ?_, ?_, fun k hk9 => ?_⟩
  · unfold f11_film
    rw [g11_sheetOf, zb_some, if_pos cs, zm_some, ns, g11_noSeconds, zb_some]
    simp only [zB_0]
    rw [if_pos (not_not_intro ct), g11_plain x1, zb_some, x2, zb_some, if_pos (zSe_ok hk), b1, zb_some]
    exact f1
  · rw [N_ne b (by omega) (by omega) (by omega), y5.1 b (by omega) (by omega)]
  · refine zC_sheets zT0_q hCX (fun a z1' z2' z3' z4' => (X_ne a (by omega)).symm) (fun k hk4 => ?_)
    have hx := hC.2.2.2.2.1 k hk4
    have row := zB0_rows hB x3
    have M93 : M 93 = I 93 := by rw [y5.1 93 (by decide) (by decide), w4.1 93 (by decide) (by decide)]
    have M91 : M 91 = I 91 := by rw [y5.1 91 (by decide) (by decide), w4.1 91 (by decide) (by decide)]
    have M92 : M 92 = I 92 := by rw [y5.1 92 (by decide) (by decide), w4.1 92 (by decide) (by decide)]
    have N91 : N 91 = uI M 91 s.toInt.toNat 1 91 := by rw [n3 91 (by decide), ← hK', uI_ne (by decide)]
    have N92 : N 92 = uI (uI M 91 s.toInt.toNat 1) 92 s.toInt.toNat 9 92 := by rw [n3 92 (by decide), ← hK']
    have K93 : K 93 = I 93 := by rw [K_ne 93 (by decide) (by decide), M93]
    rw [N_ne (73 + 2 * k) (by omega) (by omega) (by omega), N_ne (74 + 2 * k) (by omega) (by omega) (by omega), y5.1 (73 + 2 * k) (by omega) (by omega), y5.1 (74 + 2 * k) (by omega) (by omega), N91, N92]
    by_cases c : k = s.toInt.toNat
    · subst c
      rw [f3 _ (by omega), b2, b3, uI_at, uI_at]
      refine ⟨rfl, rfl, by decide, by decide, fun j hj => ?_⟩
      have cA : 40 * s.toInt.toNat + (0 : Int32).toInt.toNat ≤ 40 * s.toInt.toNat + j ∧ 40 * s.toInt.toNat + j < 40 * s.toInt.toNat + 40 := by rw [z0]; omega
      rw [show 74 + 2 * s.toInt.toNat = 73 + 2 * s.toInt.toNat + 1 by omega, f2 j, n2, if_pos cA]
      by_cases c9 : j < 9
      · rw [if_pos (by rw [z0]; omega), if_pos (by omega), (y4.2.2.2.1 j c9).2.1, show 40 * s.toInt.toNat + j - 40 * s.toInt.toNat = j by omega]
      · rw [if_neg (by omega), if_neg (by omega)]
        exact b4 j hj
    · rw [I4_ne (73 + 2 * k) (by omega) (by omega), I4_ne (74 + 2 * k) (by omega) (by omega), row (73 + 2 * k) (by omega) (by omega) (by omega) (by omega) (by omega) (by omega), row (74 + 2 * k) (by omega) (by omega) (by omega) (by omega) (by omega) (by omega), uI_off c, uI_off c, uI_ne (show 92 ≠ 91 by decide), M91, M92]
      refine ⟨hx.1, hx.2.1, hx.2.2.1, hx.2.2.2.1, fun j hj => ?_⟩
      rw [n2, if_neg (by rw [z0]; omega), K93]
      exact hx.2.2.2.2 j hj
  · exact zDef_fr (zDef_w (zDef_w hQ.2 w4) (zFw_M y5)) (fun b u1 u2 => N_ne b (by omega) (by omega) (by omega)) (by rw [N_ne 81 (by decide) (by decide) (by decide)]) (by rw [N_ne 81 (by decide) (by decide) (by decide)]) (by rw [N_ne 81 (by decide) (by decide) (by decide)])
  · rw [show 75 = 73 + 2 * s.toInt.toNat by omega, f3 _ (by omega)]
    rw [b2, es]
  · rw [show 75 = 73 + 2 * s.toInt.toNat by omega, f3 _ (by omega)]
    exact b3
  · rw [show 76 = 73 + 2 * s.toInt.toNat + 1 by omega, f2 k, if_pos (by rw [z0]; omega), (y4.2.2.2.1 k hk9).2.1]
    exact (hR.2.1 k hk9).1.1.symm
theorem x_alikeL (e : ∀ h, h < 9 → I 76 h = I (46 + h) 1) : ∀ (d q i : Nat), i + d = 9 → d < q → f11_firstOtherwise_L8 I q (some 75) (Int32.ofNat i) = some (-1) := by
  intro d
  induction d with
  | zero =>
    intro q i hi hq
    obtain ⟨q, rfl⟩ : ∃ p, q = p + 1 := ⟨q - 1, by omega⟩
    have ei := zofn_i (m := i) (by omega)
    rw [f11_firstOtherwise_L8, if_pos (by rw [zle_iff, z9]; omega)]
  | succ d ih =>
    intro q i hi hq
    obtain ⟨q, rfl⟩ : ∃ p, q = p + 1 := ⟨q - 1, by omega⟩
    have ei := zofn_i (m := i) (by omega)
    have at' := zhpAt (x := Int32.ofNat i) (h := i) (by omega) (by omega)
    have hp := zHp_ok (h := i) (by omega)
    have se : zSeB 75 = true := zSe_ok (k := 1) (by decide)
    rw [f11_firstOtherwise_L8, if_neg (by rw [zle_iff, z9]; omega), zm_some, if_pos se, if_pos (zib_ok (by omega) (by omega)), at', zb_some, if_pos hp, zofn_n (by omega), show (75 + 1 : Nat) = 76 from rfl, e i (by omega), if_pos rfl, zofs (by omega)]
    exact ih q (i + 1) (by omega) (by omega)
theorem x_judge (hK : xK sl sf gh h1 T pl M0) (hQ : xQ sl sf n kd I R) (e0 : I 75 0 = 1) (e1 : I 75 1 = 9) (e2 : ∀ k, k < 9 → (I 76 k).toInt = (pl.2 (70 + k)).toInt) : ∃ I2 R1, f11_judge n kd 1 (Int32.ofNat T) I R = some (-1, I2, R1) ∧ xQ sl sf n kd (gh n kd I2 R1) R1 := by
  have hs := hQ.1.2.2.2.2.1
  have eT := zofn_i (m := T) (by have := hK.2.2.2.1; omega)
  obtain ⟨I1, R1, I2, M, L, s, x1, x2, x3, x4, x5, x6, x7, x8, x9, x10, d2, dM⟩ := x_plain hQ hK.2.2.2.1
  have hR := x_rel hK d2 x3
  have row := zB0_rows x5 x6
  have c0 : zjdg I 1 (Int32.ofNat T) = 0 := by
    have t := hs 1 (by decide)
    have hT := hK.2.2.2.1
    unfold zjdg zstl
    rw [show (1 : Int32).toInt.toNat = 1 from rfl, ← t.1, ← t.2.1, show 73 + 2 * 1 = 75 from rfl, e0, e1]
    rw [if_pos (by decide), if_pos (by omega)]
  refine ⟨I2, R1, ?_, xQ_gh hK.2.1 (xGE x7) x10 dM⟩
  unfold f11_judge
  rw [g11_judging hs, zb_some, if_pos c0, x1, zb_some, x2, zb_some]
  unfold f11_firstOtherwise
  rw [g11_sheetOf, zb_some, if_pos (by decide), show 73 + 2 * (1 : Int32).toNatClampNeg = 75 from rfl, show (0 : Int32) = Int32.ofNat 0 from rfl, x_alikeL (fun h hh => ?_) 9 zF 0 rfl (by unfold zF; omega), zb_some]
  have g := (x4.2.2.2.1 h hh).2.1
  have y1 := (hR.2.1 h hh).1.1
  rw [row 76 (by decide) (by decide) (by decide) (by decide) (by decide) (by decide), g, zeq_iff, e2 h hh, y1]
theorem x_go (hK : xK sl sf gh h1 T pl M0) (hQ : xQ sl sf n kd I R) : ∃ v I3 R1 N, f11_go n kd (Int32.ofNat T) I R = some (v, I3, R1) ∧ zGE I3 N ∧ zC zT0 n kd N R1 ∧ I3 32 = I 32 ∧ lg_cmp v.toInt64 (pl.2 101) = 0 ∧ ∀ k, k < 9 → lg_cmp (I3 33 k).toInt64 (pl.2 (70 + k)) = 0 := by
  have hC := hQ.1
  have hT := hK.2.2.2.1
  have eT := zofn_i (m := T) (by omega)
  have cs : 0 ≤ (Int32.ofNat T).toInt ∧ (Int32.ofNat T).toInt ≤ 600 := by omega
  obtain ⟨L, s, hB⟩ := zC_B0 hC
  have r3 := hB.2.1.2.2.1
  obtain ⟨I1, R1, I2, x1, x2, x3, x4, x5⟩ := zgoW hB (b := 5) (bt := -1) (znone r3.2) cs
  obtain ⟨I3, i1, i2, i3⟩ := g11_goL (n := n) (kd := kd) (R := R1) 9 zF 0 I2 (by rw [z0]; rfl) (by rw [z0]; omega) (by unfold zF; omega)
  have w3 : zFw I I3 := ⟨fun b y1 y2 => by rw [i3 b (by omega), (zFw_X hB x3).1 b y1 y2], fun j hj => by rw [i3 81 (by decide), (zFw_X hB x3).2 j hj]⟩
  obtain ⟨J0, J1, M, y1, y2, y3, y4, y5, -⟩ := x5 I3 (zB0_K hB w3)
  obtain ⟨N, n1, n2, n3⟩ := g12_goL 9 zF 0 M (by rw [z0]; rfl) (by rw [z0]; omega) (by unfold zF; omega)
  obtain ⟨X, hX⟩ : ∃ X : zMI, X = fun b => if b = 33 then I2 33 else if b = 82 then I2 82 else N b := ⟨_, rfl⟩
  have X_ne : ∀ b, b ≠ 33 → b ≠ 82 → X b = N b := fun b y z => by
    rw [hX]
    dsimp only
    rw [if_neg y, if_neg z]
  have hXM : zFM I2 X := ⟨fun b z1' z2' => by
    by_cases c1 : b = 33
    · rw [hX, c1]; rfl
    · by_cases c2 : b = 82
      · rw [hX, c2]; rfl
      · rw [X_ne b c1 c2, n3 b c2, y5.1 b z1' z2', i3 b c1], fun j hj => by rw [X_ne 81 (by decide) (by decide), n3 81 (by decide), y5.2 j hj, i3 81 (by decide)]⟩
  have hCX := zC_going hC hB zAd_0 x3 hXM x4
  have hR := x_rel hK (zDef_w hQ.2 w3) (g12_plain y1 y2 y3)
  refine ⟨I2 42 9, I3, R1, N, ?_, fun b hb => by rw [n3 b (by omega), y5.1 b (by omega) (by omega)], ?_, ?_, ?_, fun k hk => ?_⟩
  · unfold f11_go
    rw [g11_noSeconds, zb_some]
    simp only [zB_0]
    rw [if_pos (not_not_intro cs), g11_plain x1, zb_some, x2, zb_some]
    exact i1
  · refine zC_heaps zT0_q hCX (fun a z1' z2' z3' z4' => (X_ne a z1' z3').symm) (fun h hh => ?_)
    have gh := y4.2.2.2.1 h hh
    have hx := hCX.2.2.1 h hh
    rw [X_ne 34 (by decide) (by decide), X_ne 83 (by decide) (by decide)] at hx
    have e33 : N 33 h = I2 (46 + h) 1 := by rw [n3 33 (by decide), y5.1 33 (by decide) (by decide), i2 h hh, if_pos (by rw [z0]; omega)]
    have e82 : N 82 h = M 107 h := by rw [n2 h hh, if_pos (by rw [z0]; omega)]
    rw [e33, e82, gh.2.1]
    exact ⟨rfl, gh.2.2.2.2.2.2.1, hx.2.2⟩
  · rw [i3 32 (by decide), zB0_rows hB x3 32 (by decide) (by decide) (by decide) (by decide) (by decide) (by decide)]
  · rw [y4.2.2.2.2.2.2.1]
    exact x_cmp hR.2.2.1.1
  · rw [i2 k hk, if_pos (by rw [z0]; omega), (y4.2.2.2.1 k hk).2.1]
    exact x_cmp (hR.2.1 k hk).1
theorem x_L687 (hK : xK sl sf gh h1 T pl M0) {k721 : zMI → zMR → Option (Int32)} (hk : k721 I R = some 1) (e : ∀ k, k < 9 → lg_cmp (I 33 k).toInt64 (pl.2 (70 + k)) = 0) : ∀ (d q k : Nat), k + d = 9 → d < q → fL_law_L687 n kd sl sf ah pl.2 gh k721 q (Int32.ofNat k) I R = some 1 := by
  intro d
  induction d with
  | zero =>
    intro q k hi hq
    obtain ⟨q, rfl⟩ : ∃ p, q = p + 1 := ⟨q - 1, by omega⟩
    have ei := zofn_i (m := k) (by omega)
    rw [fL_law_L687, if_pos (by rw [zle_iff, z9]; omega)]
    exact hk
  | succ d ih =>
    intro q k hi hq
    obtain ⟨q, rfl⟩ : ∃ p, q = p + 1 := ⟨q - 1, by omega⟩
    have ei := zofn_i (m := k) (by omega)
    have hp : zs_heap 33 34 (Int32.ofNat k) 0 I = I 33 k := by
      unfold zs_heap
      rw [if_neg (by omega), if_pos rfl, zofn_n (by omega)]
    rw [fL_law_L687, if_neg (by rw [zle_iff, z9]; omega), g11_heap, zb_some, hp, show (70 : Int32) = Int32.ofNat 70 from rfl, if_pos (tib 70 (by omega)), tix 70 (by omega), if_pos (e k (by omega)), zofs (by omega)]
    exact ih q (k + 1) (by omega) (by omega)
theorem x_B642 (hK : xK sl sf gh h1 T pl M0) (hQ : xQ sl sf n kd I R) (hb : ∀ (I : zMI) (R : zMR), zC zT0 n kd I R → 1 ≤ (I 32 4).toInt → fL_law_B721 n kd sl sf ah pl.2 gh I R = some 1) : fL_law_B642 n kd sl sf ah pl.2 gh (Int32.ofNat T) I R = some 1 := by
  obtain ⟨I4, R1, N, a1, a2, a3, a4, a5, a6, a7⟩ := x_film hK hQ
  have g1 := hK.2.1.1 n kd I4 R1
  have Q1 := xQ_gh hK.2.1 a2 a3 a4
  have r75 := g1 75 (by decide)
  have r76 := g1 76 (by decide)
  obtain ⟨I5, R2, b1, b2⟩ := x_judge hK Q1 (by rw [r75]; exact a5) (by rw [r75]; exact a6) (fun k hk => by rw [r76]; exact a7 k hk)
  obtain ⟨v, I6, R3, N6, c1, c2, c3, c32, c4, c5⟩ := x_go hK b2
  have e3 := x_many b2
  have my := s_many (sf := sf) hK.1
  have e4 := b2.1.2.1.1
  have g6 := hK.2.1.1 n kd I6 R3
  have C6 := (hK.2.1.2 n kd I6 N6 R3 c2 c3).1
  have r33 := g6 33 (by decide)
  unfold fL_law_B642
  rw [a1, zb_some, zl_eq, if_pos rfl, b1, zb_some, zl_eq, if_pos rfl, c1, zb_some, zl_eq, if_pos (by decide), show (101 : Int32).toNatClampNeg = 101 from rfl, if_pos c4, show (0 : Int32) = Int32.ofNat 0 from rfl]
  exact x_L687 hK (hb _ R3 C6 (by rw [g6 32 (by decide), c32, e4]; omega)) (fun k hk => by rw [r33]; exact c5 k hk) 9 zF 0 rfl (by unfold zF; omega)
end
