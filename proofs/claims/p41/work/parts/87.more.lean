/-! pure part: more answers alike -/
theorem zshr_all : ∀ x, x < 512 → ∀ h, h < 9 → ((Int32.ofNat x >>> (Int32.ofNat h &&& 31)) &&& (1 : Int32)) = if x.testBit h = true then 1 else 0 := by decide +kernel
theorem zshr {x i : Int32} {h : Nat} (hx : 0 ≤ x.toInt ∧ x.toInt < 512) (hi : i.toInt = (h : Int)) (hh : h < 9) : ((x >>> (i &&& 31)) &&& (1 : Int32)) = if x.toInt.toNat.testBit h = true then 1 else 0 := by
  have e := zshr_all x.toInt.toNat (by omega) h hh
  rw [zofn hx.1] at e
  have ei : Int32.ofNat h = i := (zofw hi).1
  rw [ei] at e
  exact e
section
variable {n : Nat} {kd : zMK} {R : zMR} {L s t : Nat} {A : Nat → Nat} {I J : zMI}
/-- the class goes till one misses, the reference to the end -/
theorem zmoreIn (hX : zCx n kd A s) {h : Nat} (hh : h < 9) : ∀ (d q q' : Nat) (l4 : Int32) (I J : zMI), zG n kd R L s t A I J (5 * l4.toInt) l4.toInt → l4.toInt + d = 600 → 0 ≤ l4.toInt → d < q → d < q' →
    ∃ I' M, (∀ (k81 : Int32 → Int32 → Nat → zMI → zMR → Option (Int32 × zMI × zMR)) (l1 l2 : Int32), f11_more_L52 n kd k81 q l1 l2 (46 + h) l4 I R = k81 l1 l2 (46 + h) I' R) ∧ f12_goesFor_L6 q' 600 l4 J = some M ∧ zFI A s I I' ∧ zFJ J M ∧ (0 ≤ (M 81 45).toInt ∧ (M 81 45).toInt < 512) ∧ (I' (46 + h) 6 = 0 ∧ (M 81 45).toInt.toNat.testBit h = false ∨ I' (46 + h) 6 = 1 ∧ (M 81 45).toInt.toNat.testBit h = true) := by
  have z600 : (600 : Int32).toInt = 600 := rfl
  intro d
  induction d with
  | zero =>
    intro q q' l4 I J hG e h0 hq hq'
    obtain ⟨q, rfl⟩ : ∃ p, q = p + 1 := ⟨q - 1, by omega⟩
    obtain ⟨q', rfl⟩ : ∃ p, q' = p + 1 := ⟨q' - 1, by omega⟩
    refine ⟨I, J, fun k81 l1 l2 => ?_, ?_, zFI_rfl, zFJ_rfl, hG.2.2.2.2.2.2.2.2.2.2.2.2.2.2.2, (hG.2.2.2.1 h hh).2.2.2.2.2.1⟩
    · unfold f11_more_L52
      rw [if_pos (by rw [zle_iff, z600]; omega)]
    · unfold f12_goesFor_L6
      rw [if_pos (by rw [zle_iff, z600]; omega)]
  | succ d ih =>
    intro q q' l4 I J hG e h0 hq hq'
    obtain ⟨q, rfl⟩ : ∃ p, q = p + 1 := ⟨q - 1, by omega⟩
    have b6 := (hG.2.2.2.1 h hh).2.2.2.2.2.1
    have e1 : (l4 + 1).toInt = l4.toInt + 1 := by rw [zadd (by rw [z1]; omega) (by rw [z1]; omega), z1]
    by_cases c : I (46 + h) 6 = 0
    · obtain ⟨q', rfl⟩ : ∃ p, q' = p + 1 := ⟨q' - 1, by omega⟩
      obtain ⟨I1, J1, x1, x2, x3, x4, x5⟩ := zsec1 hX ⟨h0, by omega⟩ hG
      obtain ⟨I', M, y1, y2, y3, y4, y5⟩ := ih q q' (l4 + 1) I1 J1 x3 (by omega) (by omega) (by omega) (by omega)
      refine ⟨I', M, fun k81 l1 l2 => ?_, ?_, zFI_tr x4 y3, zFJ_tr x5 y4, y5⟩
      · rw [f11_more_L52]
        rw [if_neg (by rw [zle_iff, z600]; omega), if_pos (zHp_ok hh), if_pos c, x1, zb_some]
        exact y1 k81 l1 l2
      · rw [f12_goesFor_L6]
        rw [if_neg (by rw [zle_iff, z600]; omega), x2, zb_some]
        exact y2
    · -- one has missed: the class stops
      have b6' : I (46 + h) 6 = 1 ∧ (J 81 45).toInt.toNat.testBit h = true := by
        rcases b6 with ⟨z, -⟩ | z
        · exact absurd z c
        · exact z
      obtain ⟨I2, M, t', y1, y2, y3, y4, y5, y6, y7, y8⟩ := zpassL hX (Int32.ofNat (d + 1)) 600 (d + 1) zF q' 0 l4 I J hG (by rw [z0, zofn_i (by omega)]; omega) (by rw [z0]; omega) h0 (by rw [z600]; omega) (by rw [z600]; omega) (by unfold zF; omega) hq'
      have ez : q' - (d + 1) = (q' - (d + 1) - 1) + 1 := by omega
      rw [ez, zfin (by rw [z600]; omega)] at y3
      refine ⟨I, M, fun k81 l1 l2 => ?_, y3, zFI_rfl, y6, y4.2.2.2.2.2.2.2.2.2.2.2.2.2.2.2, Or.inr ⟨b6'.1, y8 h b6'.2⟩⟩
      rw [f11_more_L52]
      rw [if_neg (by rw [zle_iff, z600]; omega), if_pos (zHp_ok hh), if_neg c]
theorem zmoreL {h : Nat} {hi f0 : Int32} (eh : hi.toInt = (h : Int)) (h9 : h < 9) (hf : 0 ≤ f0.toInt ∧ f0.toInt ≤ 200) : ∀ (d q : Nat) (l2 : Int32) (I : zMI) (R : zMR) (Jx : zMI), zB0 n kd R L s t A I (uI Jx 82 h f0) → I 33 h = f0 → l2.toInt + d = 201 - f0.toInt → 0 ≤ l2.toInt → d < q →
    ∃ v I' R', f11_more_L12 n kd q hi l2 I R = some (v, I', R') ∧ zFX A s I I' ∧ (∀ b', b' ≠ 42 → b' ≠ 44 → R' b' = R b') ∧ ∀ q' J, d + 1 < q' → zB0 n kd R L s t A I (uI J 82 h f0) → ∃ J', f12_more_L22 f12_more_B78 q' hi f0 (-1) l2 J = some (v, J') ∧ zFM (uI J 82 h f0) J' := by
  have n1 : hi.toNatClampNeg = h := by rw [zcl_iff, eh]; omega
  have hz9 : zib hi 9 = true := zib_ok (by omega) (by omega)
  have at' := zhpAt (x := hi) (h := h) h9 eh
  have hp := zHp_ok h9
  have e200 : ((200 : Int32) - f0).toInt = 200 - f0.toInt := by rw [zsub (by rw [z200]; omega) (by rw [z200]; omega), z200]
  intro d
  induction d with
  | zero =>
    intro q l2 I R Jx hB h33 e h0 hq
    obtain ⟨q, rfl⟩ : ∃ p, q = p + 1 := ⟨q - 1, by omega⟩
    refine ⟨-1, I, R, ?_, zFX_rfl, fun _ _ _ => rfl, fun q' J hq' hJ => ⟨uI J 82 h f0, ?_, zFM_rfl⟩⟩
    · unfold f11_more_L12
      rw [if_pos hz9, n1, h33, if_pos (by rw [zlt_iff, e200]; omega)]
    · obtain ⟨q', rfl⟩ : ∃ p, q' = p + 1 := ⟨q' - 1, by omega⟩
      unfold f12_more_L22 f12_more_B78
      rw [if_pos (by rw [zlt_iff, e200]; omega), if_pos hz9, n1, zl_eq]
  | succ d ih =>
    intro q l2 I R Jx hB h33 e h0 hq
    obtain ⟨q, rfl⟩ : ∃ p, q = p + 1 := ⟨q - 1, by omega⟩
    have e1 : (l2 + 1).toInt = l2.toInt + 1 := by rw [zadd (by rw [z1]; omega) (by rw [z1]; omega), z1]
    have es : (f0 + l2).toInt = f0.toInt + l2.toInt := zadd (by omega) (by omega)
    obtain ⟨I1, R1, x1, x2⟩ := zlayP hB
    have c3 : ∀ J, zB0 n kd R L s t A I (uI J 82 h f0) → J 81 3 = I 32 4 := fun J hJ => by
      have := hJ.2.1.1
      rw [uI_ne (by decide)] at this
      exact this.symm
    have hh1 : I1 (46 + h) 1 = f0 := by
      obtain ⟨p1, p2⟩ := zlaid_w hB x2
      have := (p2 h h9).1
      rw [uI_at] at this
      exact this
    have hRf : ∀ b', b' ≠ 42 → b' ≠ 44 → R1 b' = R b' := by
      obtain ⟨g, hg, hX, hh, hF, hR⟩ := x2
      exact hR
    have key : ∀ J, zB0 n kd R L s t A I (uI J 82 h f0) → ∃ J0 J1, f12_orders (-1) (uI J 82 h (f0 + l2)) = some J0 ∧ f12_begins J0 = some J1 ∧ zG n kd R1 L s t A (uI I1 (46 + h) 1 (f0 + l2)) J1 (5 * 0) 0 ∧ zFX A s I (uI I1 (46 + h) 1 (f0 + l2)) ∧ zFM (uI J 82 h (f0 + l2)) J1 := fun J hJ => by
      have e3 : J 81 3 = Jx 81 3 := by rw [c3 J hJ, c3 Jx hB]
      have x2' : zlaid L s A I R (uI J 82 h f0 81 3).toInt I1 R1 := by
        rw [uI_ne (by decide)] at x2 ⊢
        rw [e3]
        exact x2
      obtain ⟨p1, p2⟩ := zlaid_w hJ x2'
      obtain ⟨ha, hb, hs', hn, hc⟩ := zB0_A hJ
      obtain ⟨g, hg, hX, hh, hF, hR⟩ := id x2'
      have tI : ∀ b j, (∀ w, w < 5 → ¬ (b = A w ∧ j = 3)) → ¬ (46 ≤ b ∧ b ≤ 54 ∧ (j = 1 ∨ j = 2)) → uI I1 (46 + h) 1 (f0 + l2) b j = I1 b j := fun b j q1 q2 => by
        by_cases c : b = 46 + h
        · rw [c, uI_off (fun q => q2 (by omega))]
        · rw [uI_ne c]
      have l5 := hJ.2.2.2.2.2.2.2.2.1
      have l6 := hJ.2.2.2.2.2.2.2.2.2
      have l2' := hJ.2.2.2.2.2.1
      have l3 := hJ.2.2.2.2.2.2.1
      have hLb := zLo_big l5.1
      -- under the law as before
      have hB1 := zB0_keep hJ hF (J' := uI J 82 h f0) ⟨fun _ _ _ => rfl, fun _ _ => rfl⟩ hR
      have lw1 := hB1.2.2.2.2.2.2.2.2.1
      have lw : zLw n kd R1 L s (uI I1 (46 + h) 1 (f0 + l2)) (uI J 82 h (f0 + l2)) t := ⟨lw1.1, zLx_eq lw1.2 (uI_ne (by omega)) (uI_ne (by omega)) (uI_ne (by omega)) (by rw [uI_ne (by decide), uI_ne (by decide)]) (by rw [uI_ne (by decide), uI_ne (by decide)])⟩
      obtain ⟨J0, J1, y1, y2, y3, y4⟩ := zlayV hJ (I1' := uI I1 (46 + h) 1 (f0 + l2)) (J' := uI J 82 h (f0 + l2)) x2' tI (fun w' hw' => by
        obtain ⟨v1, v2⟩ := p1 w' hw'
        have big := (zB0_Wo hJ w' hw').2.2.1
        rw [uI_ne (show 86 ≠ 82 by decide)] at v1 v2
        rw [uI_ne (show 86 ≠ 82 by decide), uI_ne (show A w' ≠ 46 + h by omega)]
        exact ⟨v1, v2⟩) (fun h' h9' => by
        have := p2 h' h9'
        rw [uI_ne (show 83 ≠ 82 by decide)] at this
        rw [uI_ne (show 83 ≠ 82 by decide)]
        by_cases c : h' = h
        · rw [c] at this ⊢
          rw [uI_at] at this
          rw [uI_off (show 2 ≠ 1 by decide), uI_at, uI_at, es]
          exact ⟨rfl, this.2.1, by omega, this.2.2.2⟩
        · rw [uI_off c] at this
          rw [uI_ne (show 46 + h' ≠ 46 + h by omega), uI_off c]
          exact this) (by rw [uI_ne (by decide), uI_ne (by decide)]) (by rw [uI_ne (by decide), uI_ne (by decide)]) (fun j _ _ => by rw [uI_ne (by decide), uI_ne (by decide)]) (fun _ _ _ => rfl) ⟨hh.2.2, lw, by rw [uI_ne (show 81 ≠ 82 by decide)]; rw [uI_ne (show 81 ≠ 82 by decide)] at l6; exact l6, by omega⟩
      exact ⟨J0, J1, y1, y2, y3, zFX_tr hF ⟨fun b q1 q2 q3 q4 q5 q6 => by rw [uI_ne (by omega)], fun w j hw hj => by rw [uI_ne (fun q => by have := hb w hw; omega)], fun i hi9 => by
        by_cases c : i = h
        · rw [c, uI_off (by decide)]
        · rw [uI_ne (by omega)]⟩, y4⟩
    have inn : ∀ J, zB0 n kd R L s t A I (uI J 82 h f0) → ∃ I2 M, (∀ (k81 : Int32 → Int32 → Nat → zMI → zMR → Option (Int32 × zMI × zMR)) (l1 l2' : Int32), f11_more_L52 n kd k81 zF l1 l2' (46 + h) 0 (uI I1 (46 + h) 1 (f0 + l2)) R1 = k81 l1 l2' (46 + h) I2 R1) ∧ f12_goesPlain 600 (uI J 82 h (f0 + l2)) = some M ∧ zFX A s I I2 ∧ zFM (uI J 82 h f0) (uI M 82 h f0) ∧ (I2 (46 + h) 6 = 0 ∧ (((M 81 45) >>> (hi &&& 31)) &&& (1 : Int32)) = 0 ∨ I2 (46 + h) 6 = 1 ∧ ¬ (((M 81 45) >>> (hi &&& 31)) &&& (1 : Int32)) = 0) := fun J hJ => by
      obtain ⟨J0, J1, y1, y2, y3, y4, y5⟩ := key J hJ
      obtain ⟨I2, M, w1, w2, w3, w4, w5, w6⟩ := zmoreIn hJ.1 h9 600 zF zF 0 _ J1 (by rw [z0]; exact y3) (by rw [z0]; rfl) (by rw [z0]; omega) (by unfold zF; omega) (by unfold zF; omega)
      refine ⟨I2, M, w1, g12_plain y1 y2 w2, zFX_tr y4 (zFX_I w3), zFM_up (by decide) (zFM_tr y5 (zFM_J w4)), ?_⟩
      rw [zshr w5 eh h9]
      rcases w6 with ⟨a1, a2⟩ | ⟨a1, a2⟩
      · exact Or.inl ⟨a1, by rw [if_neg (by rw [a2]; decide)]⟩
      · exact Or.inr ⟨a1, by rw [if_pos a2]; decide⟩
    have F : ∀ I2, (∀ (k81 : Int32 → Int32 → Nat → zMI → zMR → Option (Int32 × zMI × zMR)) (l1 l2' : Int32), f11_more_L52 n kd k81 zF l1 l2' (46 + h) 0 (uI I1 (46 + h) 1 (f0 + l2)) R1 = k81 l1 l2' (46 + h) I2 R1) → f11_more_L12 n kd (q + 1) hi l2 I R = if I2 (46 + h) 6 = 0 then some (l2, I2, R1) else f11_more_L12 n kd q hi (l2 + 1) I2 R1 := fun I2 hI2 => by
      rw [f11_more_L12]
      rw [if_pos hz9, n1, h33, if_neg (by rw [zlt_iff, e200]; omega), x1, zb_some, at', zb_some, if_pos hp, zl_eq]
      dsimp only
      rw [hh1, hI2]
      unfold f11_more_B81
      rw [if_pos hp]
    obtain ⟨I2, Mx, a1, -, a3, a4, a5⟩ := inn Jx hB
    have one : ∀ J, zB0 n kd R L s t A I (uI J 82 h f0) → ∃ M, f12_goesPlain 600 (uI J 82 h (f0 + l2)) = some M ∧ zFM (uI J 82 h f0) (uI M 82 h f0) ∧ (I2 (46 + h) 6 = 0 ∧ (((M 81 45) >>> (hi &&& 31)) &&& (1 : Int32)) = 0 ∨ I2 (46 + h) 6 = 1 ∧ ¬ (((M 81 45) >>> (hi &&& 31)) &&& (1 : Int32)) = 0) := fun J hJ => by
      obtain ⟨I2', M, b1, b2, b3, b4, b5⟩ := inn J hJ
      have t1 := (a1 (fun _ _ _ K Q => some (0, K, Q)) 0 0).symm.trans (b1 (fun _ _ _ K Q => some (0, K, Q)) 0 0)
      cases t1
      exact ⟨M, b2, b4, b5⟩
    by_cases c : I2 (46 + h) 6 = 0
    · refine ⟨l2, I2, R1, by rw [F I2 a1, if_pos c], a3, hRf, fun q' J hq' hJ => ?_⟩
      obtain ⟨q', rfl⟩ : ∃ p, q' = p + 1 := ⟨q' - 1, by omega⟩
      obtain ⟨q', rfl⟩ : ∃ p, q' = p + 1 := ⟨q' - 1, by omega⟩
      obtain ⟨M, b2, b4, b5⟩ := one J hJ
      have ok : (((M 81 45) >>> (hi &&& 31)) &&& (1 : Int32)) = 0 := by
        rcases b5 with ⟨z, z'⟩ | ⟨z, z'⟩
        · exact z'
        · exfalso
          rw [z] at c
          cases c
      refine ⟨uI M 82 h f0, ?_, b4⟩
      rw [f12_more_L22]
      rw [if_neg (by rw [zlt_iff, e200]; omega), if_pos rfl, if_pos hz9, n1, zl_eq, b2, zb_some, zl_eq, if_pos ok, f12_more_L22]
      have nl : ¬ l2 = -1 := fun q => by rw [q, znm1] at h0; omega
      unfold f12_more_B78
      by_cases k : (200 : Int32) - f0 < l2 + 1
      · rw [if_pos k, if_pos hz9, n1, zl_eq]
      · rw [if_neg k, if_neg nl, if_pos hz9, n1, zl_eq]
    · obtain ⟨Mx', x3, x4, -⟩ := one Jx hB
      have hBx := zB0_keep hB a3 (zFw_M x4) hRf
      have I33 : I2 33 h = f0 := by rw [zB0_rows hB a3 33 (by decide) (by decide) (by decide) (by decide) (by decide) (by decide)]; exact h33
      obtain ⟨v, I', R', u1, u2, u3, u4⟩ := ih q (l2 + 1) I2 R1 Mx' hBx I33 (by omega) (by omega) (by omega)
      refine ⟨v, I', R', by rw [F I2 a1, if_neg c]; exact u1, zFX_tr a3 u2, fun b' y z => by rw [u3 b' y z, hRf b' y z], fun q' J hq' hJ => ?_⟩
      obtain ⟨q', rfl⟩ : ∃ p, q' = p + 1 := ⟨q' - 1, by omega⟩
      obtain ⟨M, b2, b4, b5⟩ := one J hJ
      have no : ¬ (((M 81 45) >>> (hi &&& 31)) &&& (1 : Int32)) = 0 := by
        rcases b5 with ⟨z, z'⟩ | ⟨z, z'⟩
        · exact absurd z c
        · exact z'
      obtain ⟨J', w1, w2⟩ := u4 q' M (by omega) (zB0_keep hJ a3 (zFw_M b4) hRf)
      refine ⟨J', ?_, zFM_tr b4 w2⟩
      rw [f12_more_L22]
      rw [if_neg (by rw [zlt_iff, e200]; omega), if_pos rfl, if_pos hz9, n1, zl_eq, b2, zb_some, zl_eq, if_neg no]
      exact w1
end
theorem zH20_ok : zH20 (zC zT0) := fun n kd I R h hC => by
  by_cases ch : 0 ≤ h.toInt ∧ h.toInt ≤ 8
  · have nh : h.toNatClampNeg = h.toInt.toNat := zcl_iff h
    have hz9 : zib h 9 = true := zib_ok ch.1 (by omega)
    obtain ⟨L, s', hB⟩ := zC_B0 hC
    have hb := hB.2.2.2.1 h.toInt.toNat (by omega)
    have hB' : zB0 n kd R L s' (I 81 12).toInt.toNat (zAd (I 81 3).toInt.toNat R) I (uI I 82 h.toInt.toNat (I 82 h.toInt.toNat)) := by
      rw [uI_self]
      exact hB
    obtain ⟨v, I', R', u1, u2, u3, u4⟩ := zmoreL (h := h.toInt.toNat) (hi := h) (f0 := I 82 h.toInt.toNat) (by omega) (by omega) hb.2.1 (201 - (I 82 h.toInt.toNat).toInt).toNat zF 0 I R I hB' hb.1 (by rw [z0]; omega) (by rw [z0]; omega) (by unfold zF; omega)
    have row := zB0_rows hB u2
    have e82 : I' 82 = I 82 := row 82 (by decide) (by decide) (by decide) (by decide) (by decide) (by decide)
    have self' : uI I' 82 h.toInt.toNat (I 82 h.toInt.toNat) = I' := by rw [← e82, uI_self]
    obtain ⟨J', y1, y2⟩ := u4 zF I' (by unfold zF; omega) (by rw [self']; exact zB0_K hB (zFw_X hB u2))
    rw [self'] at y2
    refine ⟨(v, I', R'), ?_, (v, J'), ?_, rfl, zC_going hC hB zAd_0 u2 y2 u3⟩
    · unfold f11_more
      rw [g11_noHeap, zb_some]
      simp only [zB_0]
      rw [if_pos (not_not_intro ch)]
      exact u1
    · unfold f12_more
      dsimp only
      rw [g12_isHeap, zb_some, nh, e82]
      simp only [zB_0]
      rw [if_neg (not_not_intro ch), if_pos hz9]
      exact y1
  · refine ⟨(-2, I, R), ?_, (-2, I), ?_, rfl, hC⟩
    · unfold f11_more
      rw [g11_noHeap, zb_some]
      simp only [zB_0]
      rw [if_neg (fun q => q ch)]
    · unfold f12_more
      rw [g12_isHeap, zb_some]
      simp only [zB_0]
      rw [if_pos ch]
