/-! pure part: sit, worth, go answer alike -/
section
variable {n : Nat} {kd : zMK} {R : zMR} {L s t : Nat} {A : Nat → Nat} {I J K : zMI}
theorem zB0_rows (hB : zB0 n kd R L s t A I J) (hK : zFX A s I K) : ∀ b, 0 < b → b < 114 → b ≠ 42 → b ≠ 45 → (b < 46 ∨ 54 < b) → (b < 68 ∨ 69 < b) → K b = I b := fun b y0 y1 y2 y3 y4 y5 => by
  obtain ⟨ha, hb, hs', hn, hc⟩ := zB0_A hB
  have hLb := (zLo_big hB.2.2.2.2.2.2.2.2.1.1).1
  exact hK.1 b y2 y3 y4 (fun w y => by have := hb w y; omega) (by omega) (by omega)
theorem zB0_K (hB : zB0 n kd R L s t A I I) (hw : zFw I K) : zB0 n kd R L s t A I K := zB0_keep hB zFX_rfl hw (fun _ _ _ => rfl)
theorem zFw_X (hB : zB0 n kd R L s t A I J) (hK : zFX A s I K) : zFw I K := ⟨fun b y1 y2 => zB0_rows hB hK b (by omega) (by omega) (by omega) (by omega) (by omega) (by omega), fun j _ => by rw [zB0_rows hB hK 81 (by decide) (by decide) (by decide) (by decide) (by decide) (by decide)]⟩
theorem zFw_tr {J J' J'' : zMI} (h1 : zFw J J') (h2 : zFw J' J'') : zFw J J'' := ⟨fun b x y => by rw [h2.1 b x y, h1.1 b x y], fun j x => by rw [h2.2 j x, h1.2 j x]⟩
theorem g12_without {bt : Int32} {J0 J1 M : zMI} (h1 : f12_orders bt J = some J0) (h2 : f12_begins J0 = some J1) (h3 : f12_goesFor_L6 zF 600 0 J1 = some M) : f12_without bt J = some (M 81 47, M) := by
  unfold f12_without f12_goesFor
  rw [h1, zb_some, h2, zb_some, h3, zb_some]
theorem zone_of {c l : Int32} (h0 : 0 ≤ l.toInt) : ∀ x : Int32, 0 ≤ x.toInt → x.toInt < c.toInt → (x = l ↔ x.toInt = ((l.toInt.toNat : Nat) : Int)) := fun x _ _ => by
  rw [zeq_iff]
  omega
theorem zsitL : ∀ (d q : Nat) (l1 l2 l3 l4 : Int32) (I : zMI) (R : zMR) (Jx : zMI), zB0 n kd R L s t A I Jx → l4.toInt + d = (I 32 4).toInt → 0 ≤ l4.toInt → d < q →
    ∃ v I' R', f11_sit_L19 n kd (f11_sit_B72 n kd) q l1 l2 l3 l4 I R = some (v, I', R') ∧ zFX A s I I' ∧ (∀ b', b' ≠ 42 → b' ≠ 44 → R' b' = R b') ∧ ∀ q' J, d < q' → zB0 n kd R L s t A I J → ∃ J', f12_sit_L19 f12_sit_B68 q' l1 l2 l3 l4 J = some (v, J') ∧ zFM J J' := by
  intro d
  induction d with
  | zero =>
    intro q l1 l2 l3 l4 I R Jx hB e h0 hq
    obtain ⟨q, rfl⟩ : ∃ p, q = p + 1 := ⟨q - 1, by omega⟩
    refine ⟨if l1 = 0 then l2 else l3, I, R, ?_, zFX_rfl, fun _ _ _ => rfl, fun q' J hq' hJ => ⟨J, ?_, zFM_rfl⟩⟩
    · unfold f11_sit_L19 f11_sit_B72
      rw [if_pos (by rw [zle_iff]; omega), zl_eq]
    · obtain ⟨q', rfl⟩ : ∃ p, q' = p + 1 := ⟨q' - 1, by omega⟩
      have e4 := hJ.2.1.1
      unfold f12_sit_L19 f12_sit_B68
      rw [← e4, if_pos (by rw [zle_iff]; omega), zl_eq]
  | succ d ih =>
    intro q l1 l2 l3 l4 I R Jx hB e h0 hq
    obtain ⟨q, rfl⟩ : ∃ p, q = p + 1 := ⟨q - 1, by omega⟩
    have e1 := zsucc e
    obtain ⟨I1, R1, I2, x1, x2, x3, x4, x5⟩ := zgoW hB (b := l4.toInt.toNat) (bt := l4) (sec := 600) (zone_of h0) z600r
    have hstep : ∀ J, zB0 n kd R L s t A I J → ∃ M, f12_without l4 J = some (I2 42 9, M) ∧ zFM J M ∧ zB0 n kd R1 L s t A I2 M := fun J hJ => by
      obtain ⟨J0, J1, M, y1, y2, y3, y4, y5, y6⟩ := x5 J hJ
      exact ⟨M, by rw [g12_without y1 y2 y3, y4.2.2.2.2.2.2.1], y5, zB0_keep hJ x3 (zFw_M y5) x4⟩
    obtain ⟨Mx, -, -, hBx⟩ := hstep Jx hB
    have I24 : I2 32 4 = I 32 4 := by rw [zB0_rows hB x3 32 (by decide) (by decide) (by decide) (by decide) (by decide) (by decide)]
    by_cases c : I2 42 9 ≤ l3
    · obtain ⟨v, I', R', u1, u2, u3, u4⟩ := ih q l1 l2 l3 (l4 + 1) I2 R1 Mx hBx (by rw [I24]; omega) (by omega) (by omega)
      refine ⟨v, I', R', ?_, zFX_tr x3 u2, fun b' y z => by rw [u3 b' y z, x4 b' y z], fun q' J hq' hJ => ?_⟩
      · unfold f11_sit_L19 f11_sit_B66
        rw [if_neg (by rw [zle_iff]; omega), x1, zb_some, x2, zb_some, if_pos c]
        exact u1
      · obtain ⟨q', rfl⟩ : ∃ p, q' = p + 1 := ⟨q' - 1, by omega⟩
        have e4 := hJ.2.1.1
        obtain ⟨M, y1, y2, y3⟩ := hstep J hJ
        obtain ⟨J', z1', z2'⟩ := u4 q' M (by omega) y3
        refine ⟨J', ?_, zFM_tr y2 z2'⟩
        unfold f12_sit_L19
        rw [← e4, if_neg (by rw [zle_iff]; omega), y1, zb_some, if_pos c, if_pos c, zl_eq, zl_eq]
        exact z1'
    · obtain ⟨v, I', R', u1, u2, u3, u4⟩ := ih q l1 l4 (I2 42 9) (l4 + 1) I2 R1 Mx hBx (by rw [I24]; omega) (by omega) (by omega)
      refine ⟨v, I', R', ?_, zFX_tr x3 u2, fun b' y z => by rw [u3 b' y z, x4 b' y z], fun q' J hq' hJ => ?_⟩
      · unfold f11_sit_L19 f11_sit_B66
        rw [if_neg (by rw [zle_iff]; omega), x1, zb_some, x2, zb_some, if_neg c]
        exact u1
      · obtain ⟨q', rfl⟩ : ∃ p, q' = p + 1 := ⟨q' - 1, by omega⟩
        have e4 := hJ.2.1.1
        obtain ⟨M, y1, y2, y3⟩ := hstep J hJ
        obtain ⟨J', z1', z2'⟩ := u4 q' M (by omega) y3
        refine ⟨J', ?_, zFM_tr y2 z2'⟩
        unfold f12_sit_L19
        rw [← e4, if_neg (by rw [zle_iff]; omega), y1, zb_some, if_neg c, if_neg c, zl_eq, zl_eq]
        exact z1'
end
theorem zH18_ok : zH18 (zC zT0) := fun n kd I R what hC => by
  by_cases c1 : 0 ≤ what.toInt ∧ what.toInt ≤ 1
  · obtain ⟨L, s, hB⟩ := zC_B0 hC
    have r3 := hB.2.1.2.2.1
    obtain ⟨v, I', R', u1, u2, u3, u4⟩ := zsitL (I 32 4).toInt.toNat zF what (-1) (-1) 0 I R I hB (by rw [hB.2.1.1, z0]; omega) (by rw [z0]; omega) (by rw [hB.2.1.1]; unfold zF; omega)
    obtain ⟨J', w1, w2⟩ := u4 zF I' (by rw [hB.2.1.1]; unfold zF; omega) (zB0_K hB (zFw_X hB u2))
    refine ⟨(v, I', R'), ?_, (v, J'), ?_, rfl, zC_going hC hB zAd_0 u2 w2 u3⟩
    · unfold f11_sit
      rw [if_neg (by rw [zlt_iff, z0]; omega), if_pos (by rw [zle_iff, z1]; omega)]
      exact u1
    · unfold f12_sit
      rw [g12_in, zb_some, z0, z1]
      simp only [zB_0]
      rw [if_neg (not_not_intro c1)]
      exact w1
  · refine ⟨(-2, I, R), ?_, (-2, I), ?_, rfl, hC⟩
    · unfold f11_sit
      by_cases k : what < 0
      · rw [if_pos k]
      · rw [if_neg k, if_neg (by rw [zlt_iff, z0] at k; rw [zle_iff, z1]; omega)]
    · unfold f12_sit
      rw [g12_in, zb_some, z0, z1]
      simp only [zB_0]
      rw [if_pos c1]
theorem zisW {n : Nat} {kd : zMK} {I : zMI} {R : zMR} (hC : zC zT0 n kd I R) {K : zMI} (e : K 81 3 = I 81 3) (w : Int32) : f12_isWalker K w = some (zB (0 ≤ w.toInt ∧ w.toInt < (I 81 3).toInt)) := by
  have := g12_isWalker hC w
  unfold f12_isWalker at this ⊢
  rw [e]
  exact this
theorem zH19_ok : zH19 (zC zT0) := fun n kd I R w hC => by
  by_cases cw : 0 ≤ w.toInt ∧ w.toInt < (I 81 3).toInt
  · have nw : w.toNatClampNeg = w.toInt.toNat := zcl_iff w
    obtain ⟨a, q1, -⟩ := hC.2.2.2.2.2.2.1 w.toNatClampNeg (by omega)
    obtain ⟨L, s, hB⟩ := zC_B0 hC
    have r3 := hB.2.1.2.2.1
    obtain ⟨I1, R1, I2, x1, x2, x3, x4, x5⟩ := zgoW hB (b := 5) (bt := -1) (sec := 600) (znone r3.2) z600r
    obtain ⟨J0, J1, M, -, -, -, y4, y5, -⟩ := x5 I hB
    have hB2 := zB0_keep hB x3 (zFw_M y5) x4
    obtain ⟨I3, R3, I4, u1, u2, u3, u4, u5⟩ := zgoW hB2 (b := w.toInt.toNat) (bt := w) (sec := 600) (zone_of cw.1) z600r
    have fx := zFX_tr x3 u3
    obtain ⟨K0, K1, N, v1, v2, v3, v4, v5, -⟩ := x5 I4 (zB0_K hB (zFw_X hB fx))
    have hB3 := zB0_keep (zB0_K hB (zFw_X hB fx)) x3 (zFw_M v5) x4
    obtain ⟨P0, P1, Q, w1, w2, w3, w4, w5, -⟩ := u5 N hB3
    have R4 : ∀ b', b' ≠ 42 → b' ≠ 44 → R3 b' = R b' := fun b' y z => by rw [u4 b' y z, x4 b' y z]
    refine ⟨(I2 42 9 - I4 42 9, I4, R3), ?_, (N 81 47 - Q 81 47, Q), ?_, ?_, zC_going hC hB zAd_0 fx (zFM_tr v5 w5) R4⟩
    · unfold f11_worth f11_layPlain
      rw [g11_walkerOf hC, zb_some, if_pos cw, q1, zm_some, x1, zb_some, zb_some, x2, zb_some, u1, zb_some, u2, zb_some]
    · unfold f12_worth
      dsimp only
      rw [zisW hC (by rw [zB0_rows hB fx 81 (by decide) (by decide) (by decide) (by decide) (by decide) (by decide)]), zb_some, g12_without v1 v2 v3, zb_some, g12_without w1 w2 w3, zb_some]
      simp only [zB_0]
      rw [if_neg (not_not_intro cw)]
    · show I2 42 9 - I4 42 9 = N 81 47 - Q 81 47
      rw [v4.2.2.2.2.2.2.1, w4.2.2.2.2.2.2.1]
  · refine ⟨(-1000, I, R), ?_, (-1000, I), ?_, rfl, hC⟩
    · unfold f11_worth
      rw [g11_walkerOf hC, zb_some, if_neg cw, zm_none]
    · unfold f12_worth
      rw [g12_isWalker hC, zb_some]
      simp only [zB_0]
      rw [if_pos cw]
