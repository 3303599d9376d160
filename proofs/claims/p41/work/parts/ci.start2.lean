/-! pure part: start beside the plain going -/
section
variable {n : Nat} {kd : zMK} {R : zMR} {L s t : Nat} {A : Nat → Nat} {I J : zMI}
theorem x_startL {w : Nat} {wi f0 : Int32} (ew : wi.toInt = (w : Int)) (hw5 : w < 5) (hf : 0 ≤ f0.toInt ∧ f0.toInt ≤ 8) : ∀ (d q : Nat) (l2 l4 l5 l6 : Int32) (I : zMI) (R : zMR) (Jx : zMI), zB0 n kd R L s t A I (uI Jx 86 w f0) → (w : Int) < (I 32 4).toInt → l6.toInt + d = 9 → 0 ≤ l6.toInt → d < q →
    ∃ v I' R', f11_start_L34 n kd (f11_start_B92 n kd) q l2 (some (A w)) l4 l5 l6 I R = some (v, I', R') ∧ zFX A s I I' ∧ (∀ b', b' ≠ 42 → b' ≠ 44 → R' b' = R b') ∧ ((l2 = 1 → l5.toInt ≤ v.toInt) ∧ (l2 = 1 → l6.toInt ≤ f0.toInt → ∃ Jy M : zMI, zFw (uI Jx 86 w f0) Jy ∧ f12_goesPlain 600 Jy = some M ∧ (M 81 47).toInt ≤ v.toInt)) ∧ ∀ q' J, d < q' → zB0 n kd R L s t A I (uI J 86 w f0) → ∃ J', f12_start_L39 f12_start_B105 q' wi l2 f0 l4 l5 l6 J = some (v, J') ∧ zFM (uI J 86 w f0) J' := by
  have n1 : wi.toNatClampNeg = w := by rw [zcl_iff, ew]; omega
  have hz5 : zib wi 5 = true := zib_ok (by omega) (by omega)
  intro d
  induction d with
  | zero =>
    intro q l2 l4 l5 l6 I R Jx hB hc e h0 hq
    obtain ⟨q, rfl⟩ : ∃ p, q = p + 1 := ⟨q - 1, by omega⟩
    refine ⟨if l2 = 0 then l4 else l5, I, R, ?_, zFX_rfl, fun _ _ _ => rfl, ⟨fun k1 => by rw [k1, if_neg (by decide)]; exact Int.le_refl _, fun k1 k2 => by omega⟩, fun q' J hq' hJ => ⟨uI J 86 w f0, ?_, zFM_rfl⟩⟩
    · unfold f11_start_L34 f11_start_B92
      rw [if_pos (by rw [zle_iff, z9]; omega), zl_eq]
    · obtain ⟨q', rfl⟩ : ∃ p, q' = p + 1 := ⟨q' - 1, by omega⟩
      unfold f12_start_L39 f12_start_B105
      rw [if_pos (by rw [zle_iff, z9]; omega), if_pos hz5, n1, zl_eq, zl_eq]
  | succ d ih =>
    intro q l2 l4 l5 l6 I R Jx hB hc e h0 hq
    obtain ⟨q, rfl⟩ : ∃ p, q = p + 1 := ⟨q - 1, by omega⟩
    have e1 := zsucc (N := 9) (i := l6) (d := d) (by rw [z9]; omega)
    obtain ⟨I1, R1, x1, x2⟩ := zlayP hB
    have hW := zB0_Wo hB
    have c3 : ∀ J, zB0 n kd R L s t A I (uI J 86 w f0) → J 81 3 = I 32 4 := fun J hJ => by
      have := hJ.2.1.1
      rw [uI_ne (by decide)] at this
      exact this.symm
    have hwW : zWkB n kd (A w) = true := (hW w (by rw [uI_ne (by decide), c3 Jx hB]; omega)).2.1
    have key : ∀ J, zB0 n kd R L s t A I (uI J 86 w f0) → ∃ I2 M, f0_pass n kd R1 600 (uI I1 (A w) 3 l6) = some I2 ∧ f12_goesPlain 600 (uI J 86 w l6) = some M ∧ I2 42 9 = M 81 47 ∧ zFX A s I I2 ∧ zFM (uI J 86 w l6) M := fun J hJ => by
      have e3 : J 81 3 = Jx 81 3 := by rw [c3 J hJ, c3 Jx hB]
      have x2' : zlaid L s A I R (uI J 86 w f0 81 3).toInt I1 R1 := by
        rw [uI_ne (by decide)] at x2 ⊢
        rw [e3]
        exact x2
      obtain ⟨p1, p2⟩ := zlaid_w hJ x2'
      have hW' := zB0_Wo hJ
      have hcJ : w < (uI J 86 w f0 81 3).toInt.toNat := by rw [uI_ne (by decide), c3 J hJ]; omega
      have hA := (zB0_A hJ).2.1
      have hJ5 := hJ.2.1.2.2.1
      have big := (hW' w hcJ).2.2.1
      obtain ⟨I2, M, y1, y2, y3, y4, y5⟩ := zgoV2 hJ (I1' := uI I1 (A w) 3 l6) (J' := uI J 86 w l6) x2' (fun b j q1 q2 => by
        by_cases c : b = A w
        · rw [c, uI_off (fun q => q1 w hw5 ⟨c, q⟩)]
        · rw [uI_ne c]) (fun w' hw' => by
        by_cases c : w' = w
        · rw [c, uI_at, uI_at]
          exact ⟨rfl, by omega⟩
        · obtain ⟨v1, v2⟩ := p1 w' hw'
          rw [uI_off c] at v1 v2
          rw [uI_off c, uI_ne (fun q => c (zWo_inj hW' (by omega) hw' hcJ q))]
          exact ⟨v1, v2⟩) (fun h h9 => by
        have := p2 h h9
        rw [uI_ne (show 82 ≠ 86 by decide), uI_ne (show 83 ≠ 86 by decide)] at this
        rw [uI_ne (show 82 ≠ 86 by decide), uI_ne (show 83 ≠ 86 by decide), uI_ne (show 46 + h ≠ A w by omega)]
        exact this) (by rw [uI_ne (by decide), uI_ne (by decide)]) (by rw [uI_ne (by decide), uI_ne (by decide)]) (by rw [uI_ne (by decide), uI_ne (by decide)]) (by rw [uI_ne (by decide), uI_ne (by decide)]) (fun j _ => by rw [uI_ne (by decide), uI_ne (by decide)]) z600r
      exact ⟨I2, M, y1, y2, y3.2.2.2.2.2.2.1, y4, y5⟩
    obtain ⟨I2, Mx, a1, -, -, a4, a5⟩ := key Jx hB
    have hRf : ∀ b', b' ≠ 42 → b' ≠ 44 → R1 b' = R b' := by
      obtain ⟨g, hg, hX, hh, hF, hR⟩ := x2
      exact hR
    have hstep : ∀ J, zB0 n kd R L s t A I (uI J 86 w f0) → ∃ M, f12_goesPlain 600 (uI J 86 w l6) = some M ∧ I2 42 9 = M 81 47 ∧ zFM (uI J 86 w f0) (uI M 86 w f0) ∧ zB0 n kd R1 L s t A I2 (uI M 86 w f0) := fun J hJ => by
      obtain ⟨I2', M, b1, b2, b3, b4, b5⟩ := key J hJ
      rw [a1] at b1
      cases b1
      have fm := zFM_up (y := f0) (show 86 ≠ 81 by decide) b5
      exact ⟨M, b2, b3, fm, zB0_keep hJ a4 (zFw_M fm) hRf⟩
    obtain ⟨My, my1, my2, my3, hBy⟩ := hstep Jx hB
    have I24 : I2 32 4 = I 32 4 := by rw [zB0_rows hB a4 32 (by decide) (by decide) (by decide) (by decide) (by decide) (by decide)]
    have F : f11_start_L34 n kd (f11_start_B92 n kd) (q + 1) l2 (some (A w)) l4 l5 l6 I R = f11_start_L34 n kd (f11_start_B92 n kd) q l2 (some (A w)) (if I2 42 9 ≤ l5 then l4 else l6) (if I2 42 9 ≤ l5 then l5 else I2 42 9) (l6 + 1) I2 R1 := by
      rw [f11_start_L34]
      rw [if_neg (by rw [zle_iff, z9]; omega), x1, zb_some, zm_some, if_pos hwW, zl_eq, a1, zb_some]
      unfold f11_start_B86
      by_cases c : I2 42 9 ≤ l5
      · rw [if_pos c, if_pos c, if_pos c]
      · rw [if_neg c, if_neg c, if_neg c]
    obtain ⟨v, I', R', u1, u2, u3, ⟨ux, uy⟩, u4⟩ := ih q l2 (if I2 42 9 ≤ l5 then l4 else l6) (if I2 42 9 ≤ l5 then l5 else I2 42 9) (l6 + 1) I2 R1 My hBy (by rw [I24]; exact hc) (by omega) (by omega) (by omega)
    refine ⟨v, I', R', by rw [F]; exact u1, zFX_tr a4 u2, fun b' y z => by rw [u3 b' y z, hRf b' y z], ⟨fun k1 => ?_, fun k1 k2 => ?_⟩, fun q' J hq' hJ => ?_⟩
    · have := ux k1
      by_cases c : I2 42 9 ≤ l5
      · rw [if_pos c] at this
        exact this
      · rw [if_neg c] at this
        rw [zle_iff] at c
        omega
    · by_cases e : l6.toInt = f0.toInt
      · have el : l6 = f0 := by rw [zeq_iff, e]
        rw [el] at my1
        refine ⟨uI Jx 86 w f0, My, ⟨fun _ _ _ => rfl, fun _ _ => rfl⟩, my1, ?_⟩
        have := ux k1
        rw [← my2]
        by_cases c : I2 42 9 ≤ l5
        · rw [if_pos c] at this
          rw [zle_iff] at c
          omega
        · rw [if_neg c] at this
          exact this
      · obtain ⟨Jy, M, w1, w2, w3⟩ := uy k1 (by omega)
        exact ⟨Jy, M, zFw_tr (zFw_M my3) w1, w2, w3⟩
    obtain ⟨q', rfl⟩ : ∃ p, q' = p + 1 := ⟨q' - 1, by omega⟩
    obtain ⟨M, y1, y2, y3, y4⟩ := hstep J hJ
    obtain ⟨J', z1', z2'⟩ := u4 q' M (by omega) y4
    refine ⟨J', ?_, zFM_tr y3 z2'⟩
    rw [f12_start_L39]
    rw [if_neg (by rw [zle_iff, z9]; omega), if_pos hz5, n1, zl_eq, y1, zb_some, zl_eq, zl_eq, ← y2]
    exact z1'
end
section
variable {sl : Nat} {sf : Nat → Int32} {n : Nat} {kd : zMK} {I J M M0 M6 : zMI} {R : zMR} {h1 : zML} {gh : zGh} {T ah : Nat} {pl pl6 : Int32 × zML}
theorem x_start (hQ : xQ sl sf n kd I R) {w : Nat} (hw : w < (sMany sl sf).toInt.toNat) : ∃ v I' R' M, f11_start n kd (Int32.ofNat w) 1 I R = some (v, I', R') ∧ zFM I' M ∧ zC zT0 n kd M R' ∧ zDef sl sf M ∧ ∃ Jy N : zMI, zDef sl sf Jy ∧ f12_goesPlain 600 Jy = some N ∧ (N 81 47).toInt ≤ v.toInt := by
  have hC := hQ.1
  have e3 := x_many hQ
  obtain ⟨L, s, hB⟩ := zC_B0 hC
  have r3 := hB.2.1.2.2.1
  obtain ⟨v1, v2, v3, v4⟩ := hB.2.2.1 w (by omega)
  have ew := zofn_i (m := w) (by omega)
  have hB' : zB0 n kd R L s (I 81 12).toInt.toNat (zAd (I 81 3).toInt.toNat R) I (uI I 86 w (I 86 w)) := by
    rw [uI_self]
    exact hB
  obtain ⟨v, I', R', u1, u2, u3, ⟨-, uy⟩, u4⟩ := x_startL (w := w) (wi := Int32.ofNat w) (f0 := I 86 w) (by omega) (by omega) v4 9 zF 1 (-1) (-1) 0 I R I hB' (by rw [hB.2.1.1]; omega) (by rw [z0]; rfl) (by rw [z0]; omega) (by unfold zF; omega)
  have e86 : I' 86 = I 86 := zB0_rows hB u2 86 (by decide) (by decide) (by decide) (by decide) (by decide) (by decide)
  have self' : uI I' 86 w (I 86 w) = I' := by rw [← e86, uI_self]
  obtain ⟨J', y1, y2⟩ := u4 zF I' (by unfold zF; omega) (by rw [self']; exact zB0_K hB (zFw_X hB u2))
  rw [self'] at y2
  obtain ⟨Jy, N, w1, w2, w3⟩ := uy rfl (by rw [z0]; omega)
  rw [uI_self] at w1
  refine ⟨v, I', R', J', ?_, y2, zC_going hC hB zAd_0 u2 y2 u3, zDef_w (zDef_w hQ.2 (zFw_X hB u2)) (zFw_M y2), Jy, N, zDef_w hQ.2 w1, w2, w3⟩
  unfold f11_start
  rw [g11_walkerOf2 (by omega) (by rw [hB.2.1.1]; omega) (by rw [hB.2.1.1]; exact r3.2), zb_some, ew, Int.toNat_natCast, v1, zm_some, if_neg (by decide), if_pos (by decide)]
  exact u1
theorem x_L610 (hK : xK sl sf gh h1 T pl M0) (hK6 : xK sl sf gh h1 600 pl6 M6) {k642 : Int32 → zMI → zMR → Option (Int32)} {l4 : Int32} (hk : ∀ (I : zMI) (R : zMR), xQ sl sf n kd I R → k642 l4 I R = some 1) :
    ∀ (d q w : Nat) (I : zMI) (R : zMR), w + d = (sMany sl sf).toInt.toNat → d < q → xQ sl sf n kd I R → fL_law_L610 n kd sl sf ah pl.2 gh k642 q (sMany sl sf) l4 (Int32.ofNat w) I R = some 1 := by
  have hL := hK.1
  have my := s_many (sf := sf) hL
  intro d
  induction d with
  | zero =>
    intro q w I R hw hq hQ
    obtain ⟨q, rfl⟩ : ∃ p, q = p + 1 := ⟨q - 1, by omega⟩
    have ew := zofn_i (m := w) (by omega)
    rw [fL_law_L610, if_pos (by rw [zle_iff]; omega)]
    exact hk I R hQ
  | succ d ih =>
    intro q w I R hw hq hQ
    obtain ⟨q, rfl⟩ : ∃ p, q = p + 1 := ⟨q - 1, by omega⟩
    have ew := zofn_i (m := w) (by omega)
    obtain ⟨v, I', R', M, a1, a2, a3, a4, Jy, N, a5, a6, a7⟩ := x_start hQ (w := w) (by omega)
    have b1 := xQ_gh hK.2.1 (xGE a2) a3 a4
    obtain ⟨v2, I2, R2, c1, c2, c3⟩ := x_run_c hK6 b1 (what := 0) (x := 101) (by simp)
    have y1 := (x_rel hK6 a5 a6).2.2.1.1
    unfold yq at y1
    rw [tl_cmp0, tl_32] at c3
    rw [fL_law_L610, if_neg (by rw [zle_iff]; omega), a1, zb_some, zl_eq, show (600 : Int32) = Int32.ofNat 600 from rfl, c1, zb_some, zl_eq, if_pos (show v2 ≤ v by rw [zle_iff]; omega), zofs (by omega)]
    exact ih q (w + 1) _ R2 (by omega) (by omega) c2
theorem x_B586 (hK : xK sl sf gh h1 T pl M0) (hK6 : xK sl sf gh h1 600 pl6 M6) {l3 l4 : Int32} (hb : ∀ (I : zMI) (R : zMR), xQ sl sf n kd I R → fL_law_B607 n kd sl sf ah pl.2 gh l3 l4 I R = some 1) (hQ : xQ sl sf n kd I R) : fL_law_B586 n kd sl sf ah pl.2 gh l3 l4 I R = some 1 := by
  obtain ⟨v, I1, R1, a1, a2, -, a3⟩ := x_best_c hK hK6.2.2.2.2.1 hQ (what := 0) (by decide)
  have a3 := a3 rfl
  unfold fL_law_B586
  rw [a1, zb_some, zl_eq]
  by_cases c : (0 : Int32) ≤ v
  · rw [if_pos c]
    exact hb _ R1 a2
  · obtain ⟨v2, I2, R2, c1, c2, c3⟩ := x_run_c hK6 a2 (what := 4) (x := 104) (by simp)
    rw [tl_cmp0, tl_32] at c3
    rw [if_neg c, show (600 : Int32) = Int32.ofNat 600 from rfl, c1, zb_some, zl_eq]
    rw [zle_iff, z0] at c
    rw [if_pos (show v2 < 0 by rw [zlt_iff, z0]; omega)]
    exact hb _ R2 c2
theorem x_B543 (hK : xK sl sf gh h1 T pl M0) (hK6 : xK sl sf gh h1 600 pl6 M6) {l3 l4 : Int32} (hb : ∀ (I : zMI) (R : zMR), xQ sl sf n kd I R → fL_law_B607 n kd sl sf ah pl.2 gh l3 l4 I R = some 1) (hQ : xQ sl sf n kd I R) : fL_law_B543 n kd sl sf ah pl.2 gh l3 l4 I R = some 1 := by
  have h6 : (600 : Int32) = Int32.ofNat 600 := rfl
  obtain ⟨v, I1, R1, a1, a2, a3, -⟩ := x_best_c hK hK6.2.2.2.2.1 hQ (what := 1) (by decide)
  have a3 := a3 rfl
  obtain ⟨v2, I2, R2, b1, b2, -, -⟩ := x_best_c hK hK6.2.2.2.2.1 a2 (what := 0) (by decide)
  unfold fL_law_B543
  rw [a1, zb_some, zl_eq, if_neg (show ¬ v < 0 by rw [zlt_iff, z0]; omega), b1, zb_some, zl_eq]
  by_cases c : v2 < 0
  · rw [if_pos c]
    exact x_B586 hK hK6 hb b2
  obtain ⟨v3, I3, R3, c1, c2, c3⟩ := x_run_c hK6 b2 (what := 4) (x := 104) (by simp)
  rw [tl_cmp0, tl_32] at c3
  rw [if_neg c, h6, c1, zb_some, zl_eq]
  by_cases c' : v3 < 0
  · rw [if_pos c']
    exact x_B586 hK hK6 hb c2
  obtain ⟨v4, I4, R4, d1, d2, -, d3⟩ := x_best_c hK hK6.2.2.2.2.1 c2 (what := 0) (by decide)
  have d3 := d3 rfl
  obtain ⟨v5, I5, R5, e1, e2, e3⟩ := x_run_c hK6 d2 (what := 4) (x := 104) (by simp)
  rw [tl_cmp0, tl_32] at e3
  rw [zlt_iff, z0] at c'
  rw [if_neg (by rw [zlt_iff, z0]; exact c'), d1, zb_some, zl_eq, e1, zb_some, zl_eq, if_neg (show ¬ v5 < v4 by rw [zlt_iff]; omega)]
  exact x_B586 hK hK6 hb e2
end
