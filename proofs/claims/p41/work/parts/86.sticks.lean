/-! pure part: sticks answers alike -/
/-- the sheet's first cells on both sides -/
def zcel (s : Int32) (I J : zMI) : Prop := ∀ h, h < 9 → I (73 + 2 * s.toInt.toNat + 1) h = J 93 (40 * s.toInt.toNat + h)
section
variable {n : Nat} {kd : zMK} {R : zMR} {L s t : Nat} {A : Nat → Nat} {I J : zMI}
theorem zcel_keep (hB : zB0 n kd R L s t A I J) {s1 : Int32} (cs : 0 ≤ s1.toInt ∧ s1.toInt ≤ 3) {I' J' : zMI} (h : zcel s1 I J) (hI : zFX A s I I') (hJ : J' 93 = J 93) : zcel s1 I' J' := fun i hi => by
  rw [zB0_rows hB hI _ (by omega) (by omega) (by omega) (by omega) (by omega) (by omega), hJ]
  exact h i hi
theorem zsticksL {h : Nat} {hi s1 sec f0 : Int32} (eh : hi.toInt = (h : Int)) (h9 : h < 9) (cs : 0 ≤ s1.toInt ∧ s1.toInt ≤ 3) (ct : 0 ≤ sec.toInt ∧ sec.toInt ≤ 600) : ∀ (d q : Nat) (l5 l6 : Int32) (I : zMI) (R : zMR) (Jx : zMI), zB0 n kd R L s t A I (uI Jx 83 h f0) → zcel s1 I Jx → l6.toInt + d = 10 → 0 ≤ l6.toInt → d < q →
    ∃ v I' R', f11_sticks_L32 n kd q s1 sec hi l5 l6 I R = some (v, I', R') ∧ zFX A s I I' ∧ (∀ b', b' ≠ 42 → b' ≠ 44 → R' b' = R b') ∧ ∀ q' J, d < q' → zB0 n kd R L s t A I (uI J 83 h f0) → zcel s1 I J → ∃ J', f12_sticks_L40 f12_sticks_B84 q' s1 sec hi f0 l5 l6 J = some (v, J') ∧ zFM (uI J 83 h f0) J' := by
  have n1 : hi.toNatClampNeg = h := by rw [zcl_iff, eh]; omega
  have hz9 : zib hi 9 = true := zib_ok (by omega) (by omega)
  have z10 : (10 : Int32).toInt = 10 := rfl
  have at' := zhpAt (x := hi) (h := h) h9 eh
  have hp := zHp_ok h9
  intro d
  induction d with
  | zero =>
    intro q l5 l6 I R Jx hB hc e h0 hq
    obtain ⟨q, rfl⟩ : ∃ p, q = p + 1 := ⟨q - 1, by omega⟩
    refine ⟨l5, I, R, ?_, zFX_rfl, fun _ _ _ => rfl, fun q' J hq' hJ hcJ => ⟨uI J 83 h f0, ?_, zFM_rfl⟩⟩
    · unfold f11_sticks_L32
      rw [if_pos (by rw [zlt_iff, z9]; omega)]
    · obtain ⟨q', rfl⟩ : ∃ p, q' = p + 1 := ⟨q' - 1, by omega⟩
      unfold f12_sticks_L40 f12_sticks_B84
      rw [if_pos (by rw [zle_iff, z10]; omega), if_pos hz9, n1, zl_eq]
  | succ d ih =>
    intro q l5 l6 I R Jx hB hc e h0 hq
    obtain ⟨q, rfl⟩ : ∃ p, q = p + 1 := ⟨q - 1, by omega⟩
    have e1 := zsucc (N := 10) (i := l6) (d := d) (by rw [z10]; omega)
    obtain ⟨I1, R1, x1, x2⟩ := zlayP hB
    have c3 : ∀ J, zB0 n kd R L s t A I (uI J 83 h f0) → J 81 3 = I 32 4 := fun J hJ => by
      have := hJ.2.1.1
      rw [uI_ne (by decide)] at this
      exact this.symm
    have key : ∀ J, zB0 n kd R L s t A I (uI J 83 h f0) → zcel s1 I J → ∃ I2 M, f0_pass n kd R1 sec (uI I1 (46 + h) 2 l6) = some I2 ∧ f12_goesPlain sec (uI J 83 h l6) = some M ∧ (∃ v, f11_firstOtherwise I2 s1 = some v ∧ f12_unlikeNow M s1 = some v) ∧ zFX A s I I2 ∧ zFM (uI J 83 h l6) M := fun J hJ hcJ => by
      have e3 : J 81 3 = Jx 81 3 := by rw [c3 J hJ, c3 Jx hB]
      have x2' : zlaid L s A I R (uI J 83 h f0 81 3).toInt I1 R1 := by
        rw [uI_ne (by decide)] at x2 ⊢
        rw [e3]
        exact x2
      obtain ⟨p1, p2⟩ := zlaid_w hJ x2'
      have hA := (zB0_A hJ).2.1
      obtain ⟨I2, M, y1, y2, y3, y4, y5⟩ := zgoV2 hJ (I1' := uI I1 (46 + h) 2 l6) (J' := uI J 83 h l6) x2' (fun b j q1 q2 => by
        by_cases c : b = 46 + h
        · rw [c, uI_off (fun q => q2 (by omega))]
        · rw [uI_ne c]) (fun w' hw' => by
        obtain ⟨v1, v2⟩ := p1 w' hw'
        have big := (zB0_Wo hJ w' hw').2.2.1
        rw [uI_ne (show 86 ≠ 83 by decide)] at v1 v2
        rw [uI_ne (show 86 ≠ 83 by decide), uI_ne (show A w' ≠ 46 + h by omega)]
        exact ⟨v1, v2⟩) (fun h' h9' => by
        have := p2 h' h9'
        rw [uI_ne (show 82 ≠ 83 by decide)] at this
        rw [uI_ne (show 82 ≠ 83 by decide)]
        by_cases c : h' = h
        · rw [c] at this ⊢
          rw [uI_off (show 1 ≠ 2 by decide), uI_at, uI_at]
          exact ⟨this.1, rfl, this.2.2.1, by omega, by omega⟩
        · rw [uI_off c] at this
          rw [uI_ne (show 46 + h' ≠ 46 + h by omega), uI_off c]
          exact this) (by rw [uI_ne (by decide), uI_ne (by decide)]) (by rw [uI_ne (by decide), uI_ne (by decide)]) (by rw [uI_ne (by decide), uI_ne (by decide)]) (by rw [uI_ne (by decide), uI_ne (by decide)]) (fun j _ => by rw [uI_ne (by decide), uI_ne (by decide)]) ct
      have hc2 := zcel_keep hJ cs (J := uI J 83 h f0) (fun i hi' => by rw [uI_ne (by decide)]; exact hcJ i hi') y4 (J' := M) (by rw [y5.1 93 (by decide) (by decide), uI_ne (by decide), uI_ne (by decide)])
      exact ⟨I2, M, y1, y2, zunlike cs hc2 (fun h' h9' => (y3.2.2.2.1 h' h9').2.1), y4, y5⟩
    obtain ⟨I2, Mx, a1, -, ⟨v0, a2, -⟩, a4, -⟩ := key Jx hB hc
    have hRf : ∀ b', b' ≠ 42 → b' ≠ 44 → R1 b' = R b' := by
      obtain ⟨g, hg, hX, hh, hF, hR⟩ := x2
      exact hR
    have hstep : ∀ J, zB0 n kd R L s t A I (uI J 83 h f0) → zcel s1 I J → ∃ M, f12_unlike s1 sec (uI J 83 h l6) = some (v0, M) ∧ zFM (uI J 83 h f0) (uI M 83 h f0) ∧ zB0 n kd R1 L s t A I2 (uI M 83 h f0) ∧ zcel s1 I2 M := fun J hJ hcJ => by
      obtain ⟨I2', M, b1, b2, ⟨v1, b3, b3'⟩, b4, b5⟩ := key J hJ hcJ
      rw [a1] at b1
      cases b1
      rw [a2] at b3
      cases b3
      have fm := zFM_up (y := f0) (show 83 ≠ 81 by decide) b5
      refine ⟨M, ?_, fm, zB0_keep hJ a4 (zFw_M fm) hRf, ?_⟩
      · unfold f12_unlike
        rw [b2, zb_some, b3', zb_some]
      · exact zcel_keep hJ cs (J := uI J 83 h f0) (fun i hi' => by rw [uI_ne (by decide)]; exact hcJ i hi') a4 (by rw [b5.1 93 (by decide) (by decide), uI_ne (by decide), uI_ne (by decide)])
    obtain ⟨My, -, -, hBy, hcy⟩ := hstep Jx hB hc
    have F : f11_sticks_L32 n kd (q + 1) s1 sec hi l5 l6 I R = f11_sticks_L32 n kd q s1 sec hi (l5 ||| (if v0 = (-1 : Int32) then (((1 : Int32) <<< (l6 &&& 31))) else ((0 : Int32)))) (l6 + 1) I2 R1 := by
      rw [f11_sticks_L32]
      rw [if_neg (by rw [zlt_iff, z9]; omega), x1, zb_some, at', zb_some, if_pos hp, zl_eq, a1, zb_some, a2, zb_some, zl_eq]
    obtain ⟨v, I', R', u1, u2, u3, u4⟩ := ih q (l5 ||| (if v0 = (-1 : Int32) then (((1 : Int32) <<< (l6 &&& 31))) else ((0 : Int32)))) (l6 + 1) I2 R1 My hBy hcy (by omega) (by omega) (by omega)
    refine ⟨v, I', R', by rw [F]; exact u1, zFX_tr a4 u2, fun b' y z => by rw [u3 b' y z, hRf b' y z], fun q' J hq' hJ hcJ => ?_⟩
    obtain ⟨q', rfl⟩ : ∃ p, q' = p + 1 := ⟨q' - 1, by omega⟩
    obtain ⟨M, y1, y2, y3, y4⟩ := hstep J hJ hcJ
    obtain ⟨J', z1', z2'⟩ := u4 q' M (by omega) y3 y4
    refine ⟨J', ?_, zFM_tr y2 z2'⟩
    rw [f12_sticks_L40]
    rw [if_neg (by rw [zle_iff, z10]; omega), if_pos hz9, n1, zl_eq, y1, zb_some, zl_eq]
    exact z1'
end
theorem zcel_C {n : Nat} {kd : zMK} {I : zMI} {R : zMR} (hC : zC zT0 n kd I R) {s : Int32} (cs : 0 ≤ s.toInt ∧ s.toInt ≤ 3) : zcel s I I := fun h hh => by
  have := (hC.2.2.2.2.1 s.toInt.toNat (by omega)).2.2.2.2 h (by omega)
  rw [show 73 + 2 * s.toInt.toNat + 1 = 74 + 2 * s.toInt.toNat by omega]
  exact this
theorem zjdg_keep {I I' : zMI} {s sec : Int32} (e91 : I' 91 = I 91) (e92 : I' 92 = I 92) : zjdg I' s sec = zjdg I s sec := by
  unfold zjdg zstl
  rw [e91, e92]
theorem zH25_ok : zH25 (zC zT0) := fun n kd I R s sec h hC => by
  have hs := hC.2.2.2.2.1
  by_cases c0 : zjdg I s sec = 0
  · obtain ⟨cs, ct⟩ := zjdg_0 c0
    by_cases ch : 0 ≤ h.toInt ∧ h.toInt ≤ 8
    · have nh : h.toNatClampNeg = h.toInt.toNat := zcl_iff h
      have hz9 : zib h 9 = true := zib_ok ch.1 (by omega)
      obtain ⟨L, s', hB⟩ := zC_B0 hC
      have hB' : zB0 n kd R L s' (I 81 12).toInt.toNat (zAd (I 81 3).toInt.toNat R) I (uI I 83 h.toInt.toNat (I 83 h.toInt.toNat)) := by
        rw [uI_self]
        exact hB
      obtain ⟨v, I', R', u1, u2, u3, u4⟩ := zsticksL (h := h.toInt.toNat) (hi := h) (f0 := I 83 h.toInt.toNat) (by omega) (by omega) cs ct 10 zF 0 0 I R I hB' (zcel_C hC cs) (by rw [z0]; rfl) (by rw [z0]; omega) (by unfold zF; omega)
      have row := zB0_rows hB u2
      have e83 : I' 83 = I 83 := row 83 (by decide) (by decide) (by decide) (by decide) (by decide) (by decide)
      have self' : uI I' 83 h.toInt.toNat (I 83 h.toInt.toNat) = I' := by rw [← e83, uI_self]
      obtain ⟨J', y1, y2⟩ := u4 zF I' (by unfold zF; omega) (by rw [self']; exact zB0_K hB (zFw_X hB u2)) (fun i hi => by
        rw [row 93 (by decide) (by decide) (by decide) (by decide) (by decide) (by decide)]
        exact zcel_C hC cs i hi)
      rw [self'] at y2
      refine ⟨(v, I', R'), ?_, (v, J'), ?_, rfl, zC_going hC hB zAd_0 u2 y2 u3⟩
      · unfold f11_sticks
        rw [g11_judging hs, zb_some, if_pos c0, g11_noHeap, zb_some]
        simp only [zB_0]
        rw [if_pos (not_not_intro ch)]
        exact u1
      · unfold f12_sticks
        dsimp only
        rw [g12_judging, zb_some, if_pos (by rw [zjdg_keep (row 91 (by decide) (by decide) (by decide) (by decide) (by decide) (by decide)) (row 92 (by decide) (by decide) (by decide) (by decide) (by decide) (by decide))]; exact c0), g12_isHeap, zb_some, nh, e83]
        simp only [zB_0]
        rw [if_neg (not_not_intro ch), if_pos hz9]
        exact y1
    · refine ⟨(-6, I, R), ?_, (-6, I), ?_, rfl, hC⟩
      · unfold f11_sticks
        rw [g11_judging hs, zb_some, if_pos c0, g11_noHeap, zb_some]
        simp only [zB_0]
        rw [if_neg (fun q => q ch)]
      · unfold f12_sticks
        rw [g12_judging, zb_some, if_pos c0, g12_isHeap, zb_some]
        simp only [zB_0]
        rw [if_pos ch]
  · refine ⟨(zjdg I s sec, I, R), ?_, (zjdg I s sec, I), ?_, rfl, hC⟩
    · unfold f11_sticks
      rw [g11_judging hs, zb_some, if_neg c0]
    · unfold f12_sticks
      rw [g12_judging, zb_some, if_neg c0]
