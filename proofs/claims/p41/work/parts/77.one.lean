/-! pure part: one, height, off, find answer alike -/
theorem zG_w {n : Nat} {kd : zMK} {R : zMR} {L s t w : Nat} {A : Nat → Nat} {I J : zMI} {c tm : Int} (hG : zG n kd R L s t A I J c tm) (hw : w < 5) (hgo : zgo J w) : zGw I J (A w) w := ((hG.2.2.1 w hw).1 hgo).2
theorem zG_P {n : Nat} {kd : zMK} {R : zMR} {L s t : Nat} {A : Nat → Nat} {I J : zMI} {c tm : Int} (hG : zG n kd R L s t A I J c tm) (hc : c ≤ 3590) : 0 ≤ (J 81 47).toInt ∧ (J 81 47).toInt < 400 := zGp_P hG.2.2.2.2.2 hc (fun w hw => (zG_has hG w hw).1)
theorem zH11_ok : zH11 (zC zT0) := fun n kd I R w sec what hC => by
  have r3 := hC.2.1.2.2.2.2.2.1
  by_cases cw : 0 ≤ w.toInt ∧ w.toInt < (I 81 3).toInt
  · have nw : w.toNatClampNeg = w.toInt.toNat := zcl_iff w
    obtain ⟨a, q1, q2, q3, q4, q5, -⟩ := hC.2.2.2.2.2.2.1 w.toNatClampNeg (by omega)
    have hW := zW_ok q2 q3 q4 (zkc_w q5.1 q5.2)
    have hz : zib w 5 = true := zib_ok cw.1 (by omega)
    by_cases cs : 0 ≤ sec.toInt ∧ sec.toInt ≤ 600
    · by_cases c4 : 0 ≤ what.toInt ∧ what.toInt ≤ 4
      · obtain ⟨I1, R1, I2, M, L, s, x1, x2, x3, x4, x5, x6, x7, x8, x9, x10⟩ := zplain hC cs
        have gw := zG_w (w := w.toNatClampNeg) x4 (by omega) ((x9 _).mpr (by omega))
        have eA : zAd (I 81 3).toInt.toNat R w.toNatClampNeg = a := by
          unfold zAd
          rw [if_pos (by omega), q1]
          rfl
        rw [eA] at gw
        obtain ⟨g1, g2, g3, g4, g5, g6, -⟩ := gw
        have m2 : ∀ J : zMI, f12_isWalker J w = f12_isWalker I w ∨ True := fun _ => Or.inr trivial
        have iw2 : f12_isWalker I2 w = some (zB (0 ≤ w.toInt ∧ w.toInt < (I 81 3).toInt)) := by
          have := g12_isWalker hC w
          unfold f12_isWalker at this ⊢
          have e81 : I2 81 = I 81 := x6.1 81 (by decide) (by decide) (by decide) (fun w y => by have := (zB0_A x5).2.1 w y; omega) (by have := (zLo_big x5.2.2.2.2.2.2.2.2.1.1).1; omega) (by have := (zLo_big x5.2.2.2.2.2.2.2.2.1.1).1; omega)
          rw [e81]
          exact this
        have F : ∀ v, (if what = 0 then some (I2 a 3) else if what = 1 then some (I2 a 4) else if what = 2 then some (I2 a 6) else if what = 3 then some (I2 a 7) else some (I2 a 8)) = some v → f11_one n kd w sec what I R = some (v, I2, R1) := fun v hv => by
          unfold f11_one
          rw [g11_walkerOf hC, zb_some, if_pos cw, q1, zm_some, g11_noSeconds, zb_some]
          simp only [zB_0]
          rw [if_pos (not_not_intro cs), if_neg (by rw [zlt_iff, z0]; omega), if_pos (by rw [zle_iff, zn4i]; omega), x1, zb_some, x2, zb_some]
          simp only [hW, if_true]
          by_cases k0 : what = 0
          · rw [if_pos k0] at hv ⊢
            cases hv
            rfl
          · rw [if_neg k0] at hv ⊢
            by_cases k1 : what = 1
            · rw [if_pos k1] at hv ⊢
              cases hv
              rfl
            · rw [if_neg k1] at hv ⊢
              by_cases k2 : what = 2
              · rw [if_pos k2] at hv ⊢
                cases hv
                rfl
              · rw [if_neg k2] at hv ⊢
                by_cases k3 : what = 3
                · rw [if_pos k3] at hv ⊢
                  cases hv
                  rfl
                · rw [if_neg k3] at hv ⊢
                  cases hv
                  rfl
        have G : ∀ v, (if what = 0 then some (M 100 w.toNatClampNeg) else if what = 1 then some (M 101 w.toNatClampNeg) else if what = 2 then some (M 104 w.toNatClampNeg) else if what = 3 then some (M 105 w.toNatClampNeg) else some (M 103 w.toNatClampNeg)) = some v → f12_one w sec what I2 = some (v, M) := fun v hv => by
          unfold f12_one
          rw [iw2, zb_some, g12_areSeconds, zb_some, g12_in, zb_some, z0, zn4i, x3, zb_some]
          simp only [zB_0, hz, if_true]
          rw [if_neg (not_not_intro cw), if_neg (not_not_intro cs), if_neg (not_not_intro c4), hv, zb_some]
        rw [← g1, ← g2, ← g4, ← g5, ← g6] at G
        obtain ⟨v, hv⟩ : ∃ v, (if what = 0 then some (I2 a 3) else if what = 1 then some (I2 a 4) else if what = 2 then some (I2 a 6) else if what = 3 then some (I2 a 7) else some (I2 a 8)) = some v := by
          repeat' split
          all_goals exact ⟨_, rfl⟩
        exact ⟨_, F v hv, _, G v hv, rfl, x10⟩
      · refine ⟨(-7, I, R), ?_, (-7, I), ?_, rfl, hC⟩
        · unfold f11_one
          rw [g11_walkerOf hC, zb_some, if_pos cw, q1, zm_some, g11_noSeconds, zb_some]
          simp only [zB_0]
          rw [if_pos (not_not_intro cs)]
          by_cases k : what < 0
          · rw [if_pos k]
          · rw [if_neg k, if_neg (by rw [zlt_iff, z0] at k; rw [zle_iff, zn4i]; omega)]
        · unfold f12_one
          rw [g12_isWalker hC, zb_some, g12_areSeconds, zb_some, g12_in, zb_some, z0, zn4i]
          simp only [zB_0]
          rw [if_neg (not_not_intro cw), if_neg (not_not_intro cs), if_pos c4]
    · refine ⟨(-7, I, R), ?_, (-7, I), ?_, rfl, hC⟩
      · unfold f11_one
        rw [g11_walkerOf hC, zb_some, if_pos cw, q1, zm_some, g11_noSeconds, zb_some]
        simp only [zB_0]
        rw [if_neg (fun q => q cs)]
      · unfold f12_one
        rw [g12_isWalker hC, zb_some, g12_areSeconds, zb_some]
        simp only [zB_0]
        rw [if_neg (not_not_intro cw), if_pos cs]
  · refine ⟨(-5, I, R), ?_, (-5, I), ?_, rfl, hC⟩
    · unfold f11_one
      rw [g11_walkerOf hC, zb_some, if_neg cw, zm_none]
    · unfold f12_one
      rw [g12_isWalker hC, zb_some]
      simp only [zB_0]
      rw [if_pos cw]
theorem zH12_ok : zH12 (zC zT0) := fun n kd I R h sec what hC => by
  by_cases ch : 0 ≤ h.toInt ∧ h.toInt ≤ 8
  · have nh : h.toNatClampNeg = h.toInt.toNat := zcl_iff h
    have hz : zib h 9 = true := zib_ok ch.1 (by omega)
    by_cases cs : 0 ≤ sec.toInt ∧ sec.toInt ≤ 600
    · by_cases c1 : 0 ≤ what.toInt ∧ what.toInt ≤ 1
      · obtain ⟨I1, R1, I2, M, L, s, x1, x2, x3, x4, x5, x6, x7, x8, x9, x10⟩ := zplain hC cs
        have gh := x4.2.2.2.1 h.toNatClampNeg (by omega)
        have at' := zhpAt (x := h) (h := h.toNatClampNeg) (by omega) (by omega)
        have hp := zHp_ok (h := h.toNatClampNeg) (by omega)
        obtain ⟨v, hv⟩ : ∃ v, (if what = 0 then I2 (46 + h.toNatClampNeg) 1 else I2 (46 + h.toNatClampNeg) 5) = v := ⟨_, rfl⟩
        refine ⟨(v, I2, R1), ?_, (v, M), ?_, rfl, x10⟩
        · unfold f11_height
          rw [g11_noHeap, zb_some, g11_noSeconds, zb_some]
          simp only [zB_0]
          rw [if_pos (not_not_intro ch), if_pos (not_not_intro cs), if_neg (by rw [zlt_iff, z0]; omega), if_pos (by rw [zle_iff, z1]; omega), x1, zb_some, x2, zb_some, at', zb_some, zb_some, if_pos hp, if_pos hp, ← hv]
          split <;> rfl
        · unfold f12_height
          rw [g12_isHeap, zb_some, g12_areSeconds, zb_some, g12_in, zb_some, z0, z1, x3, zb_some]
          simp only [zB_0, hz, if_true]
          rw [if_neg (not_not_intro ch), if_neg (not_not_intro cs), if_neg (not_not_intro c1), ← gh.2.1, ← gh.2.2.2.2.1, ← hv]
          split <;> rfl
      · refine ⟨(-7, I, R), ?_, (-7, I), ?_, rfl, hC⟩
        · unfold f11_height
          rw [g11_noHeap, zb_some, g11_noSeconds, zb_some]
          simp only [zB_0]
          rw [if_pos (not_not_intro ch), if_pos (not_not_intro cs)]
          by_cases k : what < 0
          · rw [if_pos k]
          · rw [if_neg k, if_neg (by rw [zlt_iff, z0] at k; rw [zle_iff, z1]; omega)]
        · unfold f12_height
          rw [g12_isHeap, zb_some, g12_areSeconds, zb_some, g12_in, zb_some, z0, z1]
          simp only [zB_0]
          rw [if_neg (not_not_intro ch), if_neg (not_not_intro cs), if_pos c1]
    · refine ⟨(-7, I, R), ?_, (-7, I), ?_, rfl, hC⟩
      · unfold f11_height
        rw [g11_noHeap, zb_some, g11_noSeconds, zb_some]
        simp only [zB_0]
        rw [if_pos (not_not_intro ch), if_neg (fun q => q cs)]
      · unfold f12_height
        rw [g12_isHeap, zb_some, g12_areSeconds, zb_some]
        simp only [zB_0]
        rw [if_neg (not_not_intro ch), if_pos cs]
  · refine ⟨(-6, I, R), ?_, (-6, I), ?_, rfl, hC⟩
    · unfold f11_height
      rw [g11_noHeap, zb_some]
      simp only [zB_0]
      rw [if_neg (fun q => q ch)]
    · unfold f12_height
      rw [g12_isHeap, zb_some]
      simp only [zB_0]
      rw [if_pos ch]
theorem z600r : 0 ≤ (600 : Int32).toInt ∧ (600 : Int32).toInt ≤ 600 := by decide
theorem zH14_ok : zH14 (zC zT0) := fun n kd I R k hC => by
  have z39 : (39 : Int32).toInt = 39 := rfl
  by_cases ck : 0 ≤ k.toInt ∧ k.toInt ≤ 39
  · obtain ⟨I1, R1, I2, M, L, s, x1, x2, x3, x4, x5, x6, x7, x8, x9, x10⟩ := zplain hC z600r
    have hP := zG_P x4 (by decide)
    obtain ⟨v, v1, v2⟩ := g0_offAt x4.2.2.2.2.2 (m := k) ⟨ck.1, by omega⟩
    obtain ⟨u, u1, u2⟩ := g12_offNumber (m := k) hP ⟨ck.1, by omega⟩
    have e := zoff_one v2 u2
    refine ⟨(v, I2, R1), ?_, (u, M), ?_, e, x10⟩
    · unfold f11_off
      rw [if_neg (by rw [zlt_iff, z0]; omega), if_pos (by rw [zlt_iff, zn40i]; omega), x1, zb_some, x2, zb_some, v1, zb_some]
    · unfold f12_off
      rw [g12_in, zb_some, z0, z39, x3, zb_some, u1, zb_some]
      simp only [zB_0]
      rw [if_neg (not_not_intro ck)]
  · refine ⟨(-2, I, R), ?_, (-2, I), ?_, rfl, hC⟩
    · unfold f11_off
      by_cases q : k < 0
      · rw [if_pos q]
      · rw [if_neg q, if_neg (by rw [zlt_iff, z0] at q; rw [zlt_iff, zn40i]; omega)]
    · unfold f12_off
      rw [g12_in, zb_some, z0, z39]
      simp only [zB_0]
      rw [if_pos ck]
theorem zH15_ok : zH15 (zC zT0) := fun n kd I R sec what hC => by
  by_cases cs : 0 ≤ sec.toInt ∧ sec.toInt ≤ 600
  · by_cases c1 : 0 ≤ what.toInt ∧ what.toInt ≤ 1
    · obtain ⟨I1, R1, I2, M, L, s, x1, x2, x3, x4, x5, x6, x7, x8, x9, x10⟩ := zplain hC cs
      have hP := zG_P x4 (by omega)
      have gp := x4.2.2.2.2.2
      obtain ⟨q1, q2, q3, q4, q5, q6, q7, -⟩ := id gp
      have F : f11_find n kd sec what I R = if (I2 42 8) = (0 : Int32) then some ((0 : Int32), I2, R1) else
          if what = (0 : Int32) then zb (f0_offAt I2 (0 : Int32)) fun p14 => some (((I2 42 9) - p14), I2, R1) else
          zb (f0_offAt I2 ((I2 42 8) - (1 : Int32))) fun p12 => some ((p12 + (1 : Int32)), I2, R1) := by
        unfold f11_find
        rw [g11_noSeconds, zb_some]
        simp only [zB_0]
        rw [if_pos (not_not_intro cs), if_neg (by rw [zlt_iff, z0]; omega), if_pos (by rw [zle_iff, z1]; omega), x1, zb_some, x2, zb_some]
      obtain ⟨u, u1, u2⟩ := g12_offNumber (m := 0) hP (by decide)
      have G : f12_find sec what I2 = if u = (-1 : Int32) then some ((0 : Int32), M) else if what = (0 : Int32) then some (((M 81 47) - u), M) else zb (f12_lastOff M) fun p13 => some ((p13 + (1 : Int32)), M) := by
        unfold f12_find
        rw [g12_areSeconds, zb_some, g12_in, zb_some, z0, z1, x3, zb_some, u1, zb_some]
        simp only [zB_0]
        rw [if_neg (not_not_intro cs), if_neg (not_not_intro c1)]
      by_cases z : zcnz (M 110) (M 81 47).toInt.toNat = 0
      · have e8 : I2 42 8 = 0 := by rw [zeq_iff, z0, q7, z]; rfl
        have eu : u = -1 := by
          rcases u2 with ⟨a1, -⟩ | ⟨k, a1, a2, a3, a4⟩
          · rw [zeq_iff, a1, znm1]
          · exfalso
            have st : zcnz (M 110) (k + 1) = zcnz (M 110) k + if M 110 k = 0 then 0 else 1 := rfl
            rw [if_neg a3] at st
            have mo := zcnz_mono (M 110) ((M 81 47).toInt.toNat - (k + 1)) (k + 1)
            rw [show k + 1 + ((M 81 47).toInt.toNat - (k + 1)) = (M 81 47).toInt.toNat by omega] at mo
            omega
        exact ⟨(0, I2, R1), by rw [F, if_pos e8], (0, M), by rw [G, if_pos eu], rfl, x10⟩
      · have e8 : ¬ I2 42 8 = 0 := by rw [zeq_iff, z0, q7]; omega
        have eu : ¬ u = -1 := by
          rcases u2 with ⟨a1, a2⟩ | ⟨k, a1, a2, a3, a4⟩
          · rw [show (0 : Int32).toInt.toNat = 0 from rfl] at a2
            omega
          · rw [zeq_iff, a1, znm1]
            omega
        by_cases w0 : what = 0
        · obtain ⟨v, v1, v2⟩ := g0_offAt gp (m := 0) (by decide)
          have e := zoff_one v2 u2
          refine ⟨(I2 42 9 - v, I2, R1), ?_, (M 81 47 - u, M), ?_, ?_, x10⟩
          · rw [F, if_neg e8, if_pos w0, v1, zb_some]
          · rw [G, if_neg eu, if_pos w0]
          · show I2 42 9 - v = M 81 47 - u
            rw [e, q2]
        · have e1 : (I2 42 8 - 1).toInt = (I2 42 8).toInt - 1 := by rw [zsub (by rw [z1]; omega) (by rw [z1]; omega), z1]
          obtain ⟨m, hm⟩ : ∃ m, I2 42 8 - 1 = m := ⟨_, rfl⟩
          rw [hm] at e1
          obtain ⟨v, v1, v2⟩ := g0_offAt gp (m := m) ⟨by omega, by omega⟩
          obtain ⟨y, y1, y2⟩ := g12_lastOff hP
          have e : v = y := by
            rcases y2 with ⟨-, y2⟩ | ⟨-, y2⟩
            · exact absurd y2 z
            · refine zoff_one v2 ?_
              rw [show m.toInt.toNat = min 40 (zcnz (M 110) (M 81 47).toInt.toNat) - 1 by omega]
              exact y2
          refine ⟨(v + 1, I2, R1), ?_, (y + 1, M), ?_, ?_, x10⟩
          · rw [F, if_neg e8, if_neg w0, hm, v1, zb_some]
          · rw [G, if_neg eu, if_neg w0, y1, zb_some]
          · show v + 1 = y + 1
            rw [e]
    · refine ⟨(-2, I, R), ?_, (-2, I), ?_, rfl, hC⟩
      · unfold f11_find
        rw [g11_noSeconds, zb_some]
        simp only [zB_0]
        rw [if_pos (not_not_intro cs)]
        by_cases k : what < 0
        · rw [if_pos k]
        · rw [if_neg k, if_neg (by rw [zlt_iff, z0] at k; rw [zle_iff, z1]; omega)]
      · unfold f12_find
        rw [g12_areSeconds, zb_some, g12_in, zb_some, z0, z1]
        simp only [zB_0]
        rw [if_neg (not_not_intro cs), if_pos c1]
  · refine ⟨(-2, I, R), ?_, (-2, I), ?_, rfl, hC⟩
    · unfold f11_find
      rw [g11_noSeconds, zb_some]
      simp only [zB_0]
      rw [if_neg (fun q => q cs)]
    · unfold f12_find
      rw [g12_areSeconds, zb_some]
      simp only [zB_0]
      rw [if_pos cs]
