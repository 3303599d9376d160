/-! pure part: start answers alike -/
section
variable {n : Nat} {kd : zMK} {R : zMR} {L s t : Nat} {A : Nat → Nat} {I J : zMI}
theorem zFM_up {M : zMI} {a k : Nat} {x y : Int32} (ha : a ≠ 81) (h : zFM (uI J a k x) M) : zFM (uI J a k y) (uI M a k y) := by
  refine ⟨fun b h1 h2 => funext fun j => ?_, fun j hj => ?_⟩
  · by_cases c : b = a
    · subst c
      by_cases c2 : j = k
      · rw [c2, uI_at, uI_at]
      · rw [uI_off c2, uI_off c2, h.1 b h1 h2, uI_off c2]
    · rw [uI_ne c, uI_ne c, h.1 b h1 h2, uI_ne c]
  · rw [uI_ne (Ne.symm ha), uI_ne (Ne.symm ha), h.2 j hj, uI_ne (Ne.symm ha)]
/-- changed, but under the same law -/
theorem zgoV2 (hB : zB0 n kd R L s t A I J) {I1 I1' J' : zMI} {R1 : zMR} (hl : zlaid L s A I R (J 81 3).toInt I1 R1)
    (tI : ∀ b j, (∀ w, w < 5 → ¬ (b = A w ∧ j = 3)) → ¬ (46 ≤ b ∧ b ≤ 54 ∧ (j = 1 ∨ j = 2)) → I1' b j = I1 b j) (tw : ∀ w, w < (J 81 3).toInt.toNat → I1' (A w) 3 = J' 86 w ∧ (0 ≤ (J' 86 w).toInt ∧ (J' 86 w).toInt ≤ 8)) (th : ∀ h, h < 9 → I1' (46 + h) 1 = J' 82 h ∧ I1' (46 + h) 2 = J' 83 h ∧ (0 ≤ (J' 82 h).toInt ∧ (J' 82 h).toInt ≤ 200) ∧ (0 ≤ (J' 83 h).toInt ∧ (J' 83 h).toInt ≤ 9))
    (t84 : J' 84 = J 84) (t85 : J' 85 = J 85) (t88 : J' 88 = J 88) (t89 : J' 89 = J 89) (t81 : ∀ j, j < 34 → J' 81 j = J 81 j) {sec : Int32} (hs : 0 ≤ sec.toInt ∧ sec.toInt ≤ 600) :
    ∃ I2 M, f0_pass n kd R1 sec I1' = some I2 ∧ f12_goesPlain sec J' = some M ∧ zG n kd R1 L s t A I2 M (5 * sec.toInt) sec.toInt ∧ zFX A s I I2 ∧ zFM J' M := by
  obtain ⟨ha, hb, hs', hn, hc⟩ := zB0_A hB
  obtain ⟨g, hg, hX, hh, hF, hR⟩ := id hl
  have l5 := hB.2.2.2.2.2.2.2.2.1
  have l6 := hB.2.2.2.2.2.2.2.2.2
  have l2 := hB.2.2.2.2.2.1
  have l3 := hB.2.2.2.2.2.2.1
  have hLb := zLo_big l5.1
  have hLo := l5.1
  obtain ⟨-, g2, g3, g4, g5, g6, g7, g8, g9, -⟩ := hLo
  have hW := zB0_Wo hB
  have nA : ∀ b, (kd b).1 = 0 → 0 < b → ∀ w, w < 5 → ¬ b = A w := fun b q p w hw => hc b q p w hw
  have row : ∀ i, 2 ≤ i → i ≤ 4 → I1' (s + i) = I (s + i) := fun i i2 i4 => funext fun j => by
    have k0 : (kd (s + i)).1 = 0 := by
      rcases (show i = 2 ∨ i = 3 ∨ i = 4 by omega) with e | e | e
      · rw [e, g6]
      · rw [e]; exact g7
      · rw [e, g9]
    rw [tI (s + i) j (fun w hw q => nA _ k0 (by omega) w hw q.1) (by omega), hF.1 (s + i) (by omega) (by omega) (by omega) (fun w hw q => nA _ k0 (by omega) w hw q) (by omega) (by omega)]
  have lw : zLw n kd R1 L s I1' J' t := by
    refine ⟨?_, zLx_eq l5.2 (row 2 (by decide) (by decide)) (row 3 (by decide) (by decide)) (row 4 (by decide) (by decide)) t88 t89⟩
    have := l5.1
    unfold zLo at this ⊢
    rw [hR L (by omega) (by omega)]
    exact this
  obtain ⟨J0, J1, x1, x2, x3, x4⟩ := zlayV hB hl tI tw th t84 t85 (fun j hj _ => t81 j hj) (fun _ _ _ => rfl) ⟨hh.2.2, lw, by rw [t81 12 (by decide)]; exact l6, by omega⟩
  obtain ⟨I2, M, y1, y2, y3, y4, y5⟩ := zgoV hB.1 x1 x2 x3 x4 hs
  refine ⟨I2, M, y1, y2, y3, zFX_tr (zFX_tr hF ⟨fun b q1 q2 q3 q4 q5 q6 => funext fun j => tI b j (fun w hw q => q4 w hw q.1) (by omega), fun w j hw hj => tI _ j (fun w' _ q => by omega) (fun q => by have := hb w hw; omega), fun h hh9 => tI _ 0 (fun w _ q => by omega) (by omega)⟩) (zFX_I y4), y5⟩
/-- plainly laid, what is not changed -/
theorem zlaid_w (hB : zB0 n kd R L s t A I J) {I1 : zMI} {R1 : zMR} (hl : zlaid L s A I R (J 81 3).toInt I1 R1) : (∀ w, w < (J 81 3).toInt.toNat → I1 (A w) 3 = J 86 w ∧ (0 ≤ (J 86 w).toInt ∧ (J 86 w).toInt ≤ 8)) ∧ ∀ h, h < 9 → I1 (46 + h) 1 = J 82 h ∧ I1 (46 + h) 2 = J 83 h ∧ (0 ≤ (J 82 h).toInt ∧ (J 82 h).toInt ≤ 200) ∧ (0 ≤ (J 83 h).toInt ∧ (J 83 h).toInt ≤ 9) := by
  obtain ⟨g, hg, hX, hh, hF, hR⟩ := hl
  have r3 := hB.2.1.2.2.1
  refine ⟨fun w hw => ?_, fun h h9 => ?_⟩
  · obtain ⟨w1, w2, w3, w4⟩ := hB.2.2.1 w hw
    have := (hX.2 w (by omega)).2.1
    have ob : zob 5 w = w := by unfold zob; rw [if_pos (by omega)]
    rw [ob] at this
    exact ⟨by rw [this]; exact w3, w4⟩
  · obtain ⟨y1, y2, y3, y4, -⟩ := hB.2.2.2.1 h h9
    have := hh.1 h h9
    exact ⟨by rw [this.1]; exact y1, by rw [this.2.1]; exact y3, y2, y4⟩
theorem zstartL {w : Nat} {wi f0 : Int32} (ew : wi.toInt = (w : Int)) (hw5 : w < 5) (hf : 0 ≤ f0.toInt ∧ f0.toInt ≤ 8) : ∀ (d q : Nat) (l2 l4 l5 l6 : Int32) (I : zMI) (R : zMR) (Jx : zMI), zB0 n kd R L s t A I (uI Jx 86 w f0) → (w : Int) < (I 32 4).toInt → l6.toInt + d = 9 → 0 ≤ l6.toInt → d < q →
    ∃ v I' R', f11_start_L34 n kd (f11_start_B92 n kd) q l2 (some (A w)) l4 l5 l6 I R = some (v, I', R') ∧ zFX A s I I' ∧ (∀ b', b' ≠ 42 → b' ≠ 44 → R' b' = R b') ∧ ∀ q' J, d < q' → zB0 n kd R L s t A I (uI J 86 w f0) → ∃ J', f12_start_L39 f12_start_B105 q' wi l2 f0 l4 l5 l6 J = some (v, J') ∧ zFM (uI J 86 w f0) J' := by
  have n1 : wi.toNatClampNeg = w := by rw [zcl_iff, ew]; omega
  have hz5 : zib wi 5 = true := zib_ok (by omega) (by omega)
  intro d
  induction d with
  | zero =>
    intro q l2 l4 l5 l6 I R Jx hB hc e h0 hq
    obtain ⟨q, rfl⟩ : ∃ p, q = p + 1 := ⟨q - 1, by omega⟩
    refine ⟨if l2 = 0 then l4 else l5, I, R, ?_, zFX_rfl, fun _ _ _ => rfl, fun q' J hq' hJ => ⟨uI J 86 w f0, ?_, zFM_rfl⟩⟩
    · unfold f11_start_L34 f11_start_B92
      rw [if_pos (by rw [zle_iff, z9]; omega), zl_eq]
    · obtain ⟨q', rfl⟩ : ∃ p, q' = p + 1 := ⟨q' - 1, by omega⟩
      unfold f12_start_L39 f12_start_B105
      rw [if_pos (by rw [zle_iff, z9]; omega), if_pos hz5, n1, zl_eq, zl_eq]
  | succ d ih =>
    intro q l2 l4 l5 l6 I R Jx hB hc e h0 hq
    obtain ⟨q, rfl⟩ : ∃ p, q = p + 1 := ⟨q - 1, by omega⟩
    have e1 := zsucc (N := 9) (i := l6) (d := d) (by rw [z9]; omega)
    obtain ⟨I1, R1, x1, x2⟩ := zlayP hB
    have hW := zB0_Wo hB
    have c3 : ∀ J, zB0 n kd R L s t A I (uI J 86 w f0) → J 81 3 = I 32 4 := fun J hJ => by
      have := hJ.2.1.1
      rw [uI_ne (by decide)] at this
      exact this.symm
    have hwW : zWkB n kd (A w) = true := (hW w (by rw [uI_ne (by decide), c3 Jx hB]; omega)).2.1
    have key : ∀ J, zB0 n kd R L s t A I (uI J 86 w f0) → ∃ I2 M, f0_pass n kd R1 600 (uI I1 (A w) 3 l6) = some I2 ∧ f12_goesPlain 600 (uI J 86 w l6) = some M ∧ I2 42 9 = M 81 47 ∧ zFX A s I I2 ∧ zFM (uI J 86 w l6) M := fun J hJ => by
      have e3 : J 81 3 = Jx 81 3 := by rw [c3 J hJ, c3 Jx hB]
      have x2' : zlaid L s A I R (uI J 86 w f0 81 3).toInt I1 R1 := by
        rw [uI_ne (by decide)] at x2 ⊢
        rw [e3]
        exact x2
      obtain ⟨p1, p2⟩ := zlaid_w hJ x2'
      have hW' := zB0_Wo hJ
      have hcJ : w < (uI J 86 w f0 81 3).toInt.toNat := by rw [uI_ne (by decide), c3 J hJ]; omega
      have hA := (zB0_A hJ).2.1
      have hJ5 := hJ.2.1.2.2.1
      have big := (hW' w hcJ).2.2.1
      obtain ⟨I2, M, y1, y2, y3, y4, y5⟩ := zgoV2 hJ (I1' := uI I1 (A w) 3 l6) (J' := uI J 86 w l6) x2' (fun b j q1 q2 => by
        by_cases c : b = A w
        · rw [c, uI_off (fun q => q1 w hw5 ⟨c, q⟩)]
        · rw [uI_ne c]) (fun w' hw' => by
        by_cases c : w' = w
        · rw [c, uI_at, uI_at]
          exact ⟨rfl, by omega⟩
        · obtain ⟨v1, v2⟩ := p1 w' hw'
          rw [uI_off c] at v1 v2
          rw [uI_off c, uI_ne (fun q => c (zWo_inj hW' (by omega) hw' hcJ q))]
          exact ⟨v1, v2⟩) (fun h h9 => by
        have := p2 h h9
        rw [uI_ne (show 82 ≠ 86 by decide), uI_ne (show 83 ≠ 86 by decide)] at this
        rw [uI_ne (show 82 ≠ 86 by decide), uI_ne (show 83 ≠ 86 by decide), uI_ne (show 46 + h ≠ A w by omega)]
        exact this) (by rw [uI_ne (by decide), uI_ne (by decide)]) (by rw [uI_ne (by decide), uI_ne (by decide)]) (by rw [uI_ne (by decide), uI_ne (by decide)]) (by rw [uI_ne (by decide), uI_ne (by decide)]) (fun j _ => by rw [uI_ne (by decide), uI_ne (by decide)]) z600r
      exact ⟨I2, M, y1, y2, y3.2.2.2.2.2.2.1, y4, y5⟩
    obtain ⟨I2, Mx, a1, -, -, a4, a5⟩ := key Jx hB
    have hRf : ∀ b', b' ≠ 42 → b' ≠ 44 → R1 b' = R b' := by
      obtain ⟨g, hg, hX, hh, hF, hR⟩ := x2
      exact hR
    have hstep : ∀ J, zB0 n kd R L s t A I (uI J 86 w f0) → ∃ M, f12_goesPlain 600 (uI J 86 w l6) = some M ∧ I2 42 9 = M 81 47 ∧ zFM (uI J 86 w f0) (uI M 86 w f0) ∧ zB0 n kd R1 L s t A I2 (uI M 86 w f0) := fun J hJ => by
      obtain ⟨I2', M, b1, b2, b3, b4, b5⟩ := key J hJ
      rw [a1] at b1
      cases b1
      have fm := zFM_up (y := f0) (show 86 ≠ 81 by decide) b5
      exact ⟨M, b2, b3, fm, zB0_keep hJ a4 (zFw_M fm) hRf⟩
    obtain ⟨My, -, -, -, hBy⟩ := hstep Jx hB
    have I24 : I2 32 4 = I 32 4 := by rw [zB0_rows hB a4 32 (by decide) (by decide) (by decide) (by decide) (by decide) (by decide)]
    have F : f11_start_L34 n kd (f11_start_B92 n kd) (q + 1) l2 (some (A w)) l4 l5 l6 I R = f11_start_L34 n kd (f11_start_B92 n kd) q l2 (some (A w)) (if I2 42 9 ≤ l5 then l4 else l6) (if I2 42 9 ≤ l5 then l5 else I2 42 9) (l6 + 1) I2 R1 := by
      rw [f11_start_L34]
      rw [if_neg (by rw [zle_iff, z9]; omega), x1, zb_some, zm_some, if_pos hwW, zl_eq, a1, zb_some]
      unfold f11_start_B86
      by_cases c : I2 42 9 ≤ l5
      · rw [if_pos c, if_pos c, if_pos c]
      · rw [if_neg c, if_neg c, if_neg c]
    obtain ⟨v, I', R', u1, u2, u3, u4⟩ := ih q l2 (if I2 42 9 ≤ l5 then l4 else l6) (if I2 42 9 ≤ l5 then l5 else I2 42 9) (l6 + 1) I2 R1 My hBy (by rw [I24]; exact hc) (by omega) (by omega) (by omega)
    refine ⟨v, I', R', by rw [F]; exact u1, zFX_tr a4 u2, fun b' y z => by rw [u3 b' y z, hRf b' y z], fun q' J hq' hJ => ?_⟩
    obtain ⟨q', rfl⟩ : ∃ p, q' = p + 1 := ⟨q' - 1, by omega⟩
    obtain ⟨M, y1, y2, y3, y4⟩ := hstep J hJ
    obtain ⟨J', z1', z2'⟩ := u4 q' M (by omega) y4
    refine ⟨J', ?_, zFM_tr y3 z2'⟩
    rw [f12_start_L39]
    rw [if_neg (by rw [zle_iff, z9]; omega), if_pos hz5, n1, zl_eq, y1, zb_some, zl_eq, zl_eq, ← y2]
    exact z1'
end
theorem zH17_ok : zH17 (zC zT0) := fun n kd I R w what hC => by
  by_cases cw : 0 ≤ w.toInt ∧ w.toInt < (I 81 3).toInt
  · have nw : w.toNatClampNeg = w.toInt.toNat := zcl_iff w
    obtain ⟨L, s, hB⟩ := zC_B0 hC
    have r3 := hB.2.1.2.2.1
    obtain ⟨v1, v2, v3, v4⟩ := hB.2.2.1 w.toInt.toNat (by omega)
    have hz5 : zib w 5 = true := zib_ok cw.1 (by omega)
    by_cases c1 : 0 ≤ what.toInt ∧ what.toInt ≤ 1
    · have hB' : zB0 n kd R L s (I 81 12).toInt.toNat (zAd (I 81 3).toInt.toNat R) I (uI I 86 w.toInt.toNat (I 86 w.toInt.toNat)) := by
        rw [uI_self]
        exact hB
      obtain ⟨v, I', R', u1, u2, u3, u4⟩ := zstartL (w := w.toInt.toNat) (wi := w) (f0 := I 86 w.toInt.toNat) (by omega) (by omega) v4 9 zF what (-1) (-1) 0 I R I hB' (by rw [hB.2.1.1]; omega) (by rw [z0]; rfl) (by rw [z0]; omega) (by unfold zF; omega)
      have e86 : I' 86 = I 86 := zB0_rows hB u2 86 (by decide) (by decide) (by decide) (by decide) (by decide) (by decide)
      have e81 : I' 81 = I 81 := zB0_rows hB u2 81 (by decide) (by decide) (by decide) (by decide) (by decide) (by decide)
      have self' : uI I' 86 w.toInt.toNat (I 86 w.toInt.toNat) = I' := by rw [← e86, uI_self]
      obtain ⟨J', y1, y2⟩ := u4 zF I' (by unfold zF; omega) (by rw [self']; exact zB0_K hB (zFw_X hB u2))
      rw [self'] at y2
      refine ⟨(v, I', R'), ?_, (v, J'), ?_, rfl, zC_going hC hB zAd_0 u2 y2 u3⟩
      · unfold f11_start
        rw [g11_walkerOf2 cw.1 (by rw [hB.2.1.1]; exact cw.2) (by rw [hB.2.1.1]; exact r3.2), zb_some, v1, zm_some, if_neg (by rw [zlt_iff, z0]; omega), if_pos (by rw [zle_iff, z1]; omega)]
        exact u1
      · unfold f12_start
        dsimp only
        rw [zisW hC (by rw [e81]), zb_some, g12_in, zb_some, z0, z1, nw, e86]
        simp only [zB_0]
        rw [if_neg (not_not_intro cw), if_neg (not_not_intro c1), if_pos hz5]
        exact y1
    · refine ⟨(-7, I, R), ?_, (-7, I), ?_, rfl, hC⟩
      · unfold f11_start
        rw [g11_walkerOf2 cw.1 (by rw [hB.2.1.1]; exact cw.2) (by rw [hB.2.1.1]; exact r3.2), zb_some, v1, zm_some]
        by_cases k : what < 0
        · rw [if_pos k]
        · rw [if_neg k, if_neg (by rw [zlt_iff, z0] at k; rw [zle_iff, z1]; omega)]
      · unfold f12_start
        rw [g12_isWalker hC, zb_some, g12_in, zb_some, z0, z1]
        simp only [zB_0]
        rw [if_neg (not_not_intro cw), if_pos c1]
  · refine ⟨(-5, I, R), ?_, (-5, I), ?_, rfl, hC⟩
    · unfold f11_start
      rw [g11_walkerOf hC, zb_some, if_neg cw, zm_none]
    · unfold f12_start
      rw [g12_isWalker hC, zb_some]
      simp only [zB_0]
      rw [if_pos cw]
