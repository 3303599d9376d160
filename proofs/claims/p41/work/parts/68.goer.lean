/-! pure part: one who goes, for a second -/
section
variable {n : Nat} {kd : zMK} {R : zMR} {L s t w : Nat} {A : Nat → Nat} {I J : zMI} {c tm : Int}
/-- what one second makes of one who goes, on both sides -/
def zS1 (n : Nat) (kd : zMK) (R : zMR) (L s t : Nat) (A : Nat → Nat) (w : Nat) (I J : zMI) (c tm : Int) (I' J' : zMI) : Prop := zG n kd R L s t A I' J' (c + 1) tm ∧ zDx (A w) s I I' ∧ zEx w J J' ∧ (J' 81 48 = J 81 48 ∨ (J 81 48 = -1 ∧ J' 81 48 = I 42 5)) ∧ zmi J J'
theorem zmove (hX : zCx n kd A s) (hG : zG n kd R L s t A I J c tm) (hw : w < 5) (hgo : zgo J w) {wi t32 : Int32} (ew : wi.toInt = (w : Int)) (et : I 42 5 = t32) (ht0 : 0 ≤ tm) (hc : c ≤ 3590) (hl : ¬ 1 < (I (A w) 5).toInt) :
    ∃ I' J', f0_moveOn n kd R (A w) I = some I' ∧ (if J 101 w = 2 then f12_takesOn wi t32 J else f12_waitsOn wi (uI (uI J 102 w 0) 101 w 1)) = some J' ∧ zS1 n kd R L s t A w I J c tm I' J' := by
  obtain ⟨m1, m2, m3, m4, m5, m6⟩ := zG_me hX hG hw hgo
  obtain ⟨wiw, n1⟩ := zofw ew
  have m2' := m2
  obtain ⟨a1, a2, a3, a4, a5, a6, a7, a8, a9, a10⟩ := m2
  obtain ⟨h, eh⟩ : ∃ h : Nat, (J 100 w).toInt = (h : Int) := ⟨(J 100 w).toInt.toNat, by omega⟩
  have hh : h < 9 := by omega
  have mh := m6 h hh
  have hp := zHp_ok hh
  have nh : (J 100 w).toNatClampNeg = h := by rw [zcl_iff, eh]; omega
  have hAt : f0_heapAt (I (A w) 3) = some (46 + h) := by rw [a1]; exact zhpAt hh eh
  have hz5 : zib wi 5 = true := zib_ok (by omega) (by omega)
  by_cases c2 : J 101 w = 2
  · -- a taking ends
    have l1 : J 102 w = 1 := by
      rw [a3] at hl
      rcases a9 with ⟨x, -⟩ | ⟨x, -⟩ | ⟨x, y1, y2⟩
      · rw [x] at c2; cases c2
      · rw [x] at c2; cases c2
      · rw [zeq_iff, z1]
        omega
    obtain ⟨I', J', u1, u2, u3, u4, u5, u6⟩ := zT4 hX hG hw hgo hh ew rfl eh et ht0 hc c2
    refine ⟨I', J', ?_, ?_, u3, u4, u5, u6⟩
    · unfold f0_moveOn
      rw [if_pos m1.1, hAt, zb_some, zl_eq, uI_off (show 4 ≠ 5 by decide), a2, if_pos c2, u1, zb_some]
    · rw [if_pos c2]
      unfold f12_takesOn
      rw [if_pos hz5, n1, l1, show (1 : Int32) - 1 = 0 from rfl, zl_eq, uI_at, if_pos (by decide)]
      exact u2
  · -- he waits, or begins to take
    rw [if_neg c2]
    obtain ⟨K, hK⟩ : ∃ K, uI (uI J 102 w 0) 101 w 1 = K := ⟨_, rfl⟩
    have must := g12_must (wi := wi) hG hw ew eh c2 hK.symm
    have K_ne : ∀ b, b ≠ 102 → b ≠ 101 → K b = J b := fun b x y => by rw [← hK, uI_ne y, uI_ne x]
    have gk := hG.2.2.2.2.1 h hh
    have r5 := ztks_05 J h
    have kd3 : fv_waits n kd (uI I (A w) 5 0) (A w) = some (if J 84 w = 3 then 0 else 1) := by
      have q1 := m1.2.1
      have q2 := m1.2.2.1
      rw [wiw, n1] at q1 q2
      exact gv_waits q2.1 q2.2 q1
    have MV : f0_moveOn n kd R (A w) I = if (I (46 + h) 4) ≤ (0 : Int32) then f0_moveOn_B63 n kd R (A w) (46 + h) (uI I (A w) 5 0) else if J 84 w = 3 then f0_moveOn_B63 n kd R (A w) (46 + h) (uI I (A w) 5 0) else some (uI (uI (uI I (A w) 5 0) (A w) 4 1) (A w) 7 (I (A w) 7 + 1)) := by
      unfold f0_moveOn
      rw [if_pos m1.1, hAt, zb_some, zl_eq, uI_off (show 4 ≠ 5 by decide), a2, if_neg c2, if_pos hp, uI_ne (Ne.symm mh), kd3, zb_some]
      by_cases q : J 84 w = 3
      · rw [if_pos q, if_pos q, if_pos rfl]
      · have n10 : ¬ (1 : Int32) = 0 := by decide
        rw [if_neg q, if_neg q, if_neg n10, zl_eq, zl_eq, uI_off (show 7 ≠ 4 by decide), uI_off (show 7 ≠ 5 by decide)]
    rw [hK]
    by_cases mw : J 84 w ≠ 3 ∧ 0 < ztks J h
    · -- waits
      have T := zT2 hX hG hw hgo c2 rfl rfl
      refine ⟨_, _, ?_, ?_, zG_c T.1 (by omega), T.2.1, T.2.2, Or.inl ?_, fun h' hb => by rw [uI_ne (by decide), uI_ne (by decide), uI_ne (by decide)]; exact hb⟩
      · rw [MV, if_neg (by rw [zle_iff, z0]; omega), if_neg mw.1]
      · unfold f12_waitsOn
        rw [must, zb_some]
        simp only [zB_0]
        rw [if_neg (not_not_intro mw), if_pos hz5, n1, zl_eq, K_ne 105 (by decide) (by decide), ← hK]
      · rw [uI_ne (by decide), uI_ne (by decide), uI_ne (by decide)]
    · -- begins to take
      obtain ⟨I3, hI3⟩ : ∃ I3, uI (uI I (A w) 5 0) (A w) 4 2 = I3 := ⟨_, rfl⟩
      obtain ⟨K2, hK2⟩ : ∃ K2, uI K 101 w 2 = K2 := ⟨_, rfl⟩
      have D3 : zDx (A w) s I I3 := by rw [← hI3]; exact zDx_tr (zDx_a (by decide)) (zDx_a (by decide))
      have E2 : zEx w J K2 := by rw [← hK2, ← hK]; exact zEx_tr (zEx_tr (zEx_w (by decide) (by decide)) (zEx_w (by decide) (by decide))) (zEx_w (by decide) (by decide))
      have K2_ne : ∀ b, b ≠ 102 → b ≠ 101 → K2 b = J b := fun b x y => by rw [← hK2, uI_ne y, K_ne b x y]
      have I3h : I3 (46 + h) = I (46 + h) := by rw [← hI3, uI_ne (Ne.symm mh), uI_ne (Ne.symm mh)]
      obtain ⟨l1, l2, l3, l4, l5, l6, l7, l8⟩ := zGl_eq hG.1 m3 D3 E2
      have me := zwl_eq m1 (I' := I3) (J' := K2) (D3 _ 0 (by omega) (by omega) (by omega) (by omega) m4 m5) (D3 _ 1 (by omega) (by omega) (by omega) (by omega) m4 m5) (zEx_row E2 (by decide) (by decide) (by decide) (by decide)) (zEx_row E2 (by decide) (by decide) (by decide) (by decide))
      rw [wiw] at me
      have gh := hG.2.2.2.1 h hh
      have ath : Int32.ofNat h = J 100 w := (zofw eh).1
      obtain ⟨v, I4, K3, v1, v2, v3, v4, v5⟩ := ztakes (hh := J 100 w) (left := J 107 h) (done := J 104 w) l1 l2 l3 l4 me hh (by rw [I3h, gh.1, ath]) (by rw [I3h, gh.2.1]) l5
      have hs68 := hX.2.1
      have T := zT3 hX hG hw hgo c2 hh eh v5 (by rw [hI3]; exact v3) (by rw [hK, hK2]; exact v4) rfl rfl (fun h' _ => ⟨by omega, by omega⟩)
      refine ⟨_, _, ?_, ?_, zG_c T.1 (by omega), T.2.1, T.2.2, Or.inl ?_, fun h' hb => by rw [uI_ne (by decide), v4 81 (by decide) (by decide), K2_ne 81 (by decide) (by decide)]; exact hb⟩
      · have B : f0_moveOn_B63 n kd R (A w) (46 + h) (uI I (A w) 5 0) = some (uI (uI I4 (A w) 5 v) (46 + h) 4 (I4 (46 + h) 4 + 1)) := by
          have i6 : I3 (A w) 6 = J 104 w := by rw [← hI3, uI_off (by decide), uI_off (by decide), a4]
          unfold f0_moveOn_B63
          rw [if_pos m1.1, hI3, zl_eq, i6, v1, zb_some, zl_eq, if_pos hp, zl_eq]
          dsimp only
          rw [uI_ne (Ne.symm mh)]
        rw [MV, B]
        by_cases q : (I (46 + h) 4) ≤ (0 : Int32)
        · rw [if_pos q]
        · rw [if_neg q]
          rw [zle_iff, z0] at q
          have q3 : J 84 w = 3 := by
            by_cases x : J 84 w = 3
            · exact x
            · exact absurd ⟨x, by omega⟩ mw
          rw [if_pos q3]
      · unfold f12_waitsOn
        rw [must, zb_some]
        simp only [zB_0]
        rw [if_pos mw, if_pos hz5, n1, hK2, zl_eq, K2_ne 100 (by decide) (by decide), if_pos (zib_ok (by omega) (by omega)), nh, K2_ne 107 (by decide) (by decide), K2_ne 104 (by decide) (by decide), v2, zb_some, zl_eq]
      · rw [uI_ne (by decide), v4 81 (by decide) (by decide), K2_ne 81 (by decide) (by decide)]
/-- one who goes: the class's loop and the reference's make one turn -/
theorem zstep (hX : zCx n kd A s) (hG : zG n kd R L s t A I J c tm) {t32 : Int32} (et : I 42 5 = t32) (ht0 : 0 ≤ tm) (hc : c ≤ 3590) {k : Nat} (hk : (k : Int) < (J 81 34).toInt) :
    ∃ I' J', (∀ k75 q l1 l2 (l3 : Int32), l3.toInt = (k : Int) → f0_pass_L9 n kd R k75 (q + 1) l1 l2 l3 I = f0_pass_L9 n kd R k75 q l1 l2 (l3 + 1) I') ∧ (∀ q (l2 : Int32), l2.toInt = (k : Int) → f12_second_L2 (q + 1) t32 l2 J = f12_second_L2 q t32 (l2 + 1) J') ∧ ∃ w, w < 5 ∧ zgo J w ∧ zS1 n kd R L s t A w I J c tm I' J' := by
  have go := hG.2.1
  have gl7 := hG.1.2.2.2.2.2.2.1
  obtain ⟨r0, r5, rR⟩ := go.2.1 k hk
  obtain ⟨w, ew⟩ : ∃ w : Nat, (J 99 k).toInt = (w : Int) := ⟨(J 99 k).toInt.toNat, by omega⟩
  have hw : w < 5 := by omega
  have hgo : zgo J w := ⟨k, hk, ew⟩
  have rR' : R 44 k = some (A w) := by rw [rR, ew]; rfl
  obtain ⟨m1, m2, m3, m4, m5, m6⟩ := zG_me hX hG hw hgo
  obtain ⟨wiw, n1⟩ := zofw ew
  obtain ⟨a1, a2, a3, a4, a5, a6, a7, a8, a9, a10⟩ := m2
  have g5 := go.1.2
  have hz5 : zib (J 99 k) 5 = true := zib_ok r0 (by omega)
  have CF : ∀ k75 q l1 l2 (l3 : Int32), l3.toInt = (k : Int) → f0_pass_L9 n kd R k75 (q + 1) l1 l2 l3 I = if (I (A w) 5) ≤ (1 : Int32) then zb (f0_moveOn n kd R (A w) I) fun p3 => f0_pass_L9 n kd R k75 q l1 l2 (l3 + 1) p3 else f0_pass_L9 n kd R k75 q l1 l2 (l3 + 1) (uI I (A w) 5 ((I (A w) 5) - 1)) := fun k75 q l1 l2 l3 e3 => by
    have n3 : l3.toNatClampNeg = k := by rw [zcl_iff, e3]; omega
    rw [f0_pass_L9]
    rw [gl7, if_neg (by rw [zle_iff]; omega), if_neg (by rw [zle_iff, zn5i]; omega), if_pos (zib_ok (by omega) (by omega)), n3, rR', zm_some, if_pos m1.1]
    rfl
  have CM : ∀ q (l2 : Int32), l2.toInt = (k : Int) → f12_second_L2 (q + 1) t32 l2 J = if J 101 w = 2 then zb (f12_takesOn (J 99 k) t32 J) fun p => f12_second_L2 q t32 (l2 + 1) p else
      if J 101 w = 1 ∨ J 102 w = 1 then zb (f12_waitsOn (J 99 k) (uI (uI J 102 w 0) 101 w 1)) fun p => f12_second_L2 q t32 (l2 + 1) p else f12_second_L2 q t32 (l2 + 1) (uI J 102 w (J 102 w - 1)) := fun q l2 e2 => by
    have n2 : l2.toNatClampNeg = k := by rw [zcl_iff, e2]; omega
    rw [f12_second_L2]
    rw [if_neg (by rw [zle_iff]; omega), if_pos (zib_ok (by omega) (by omega)), n2, if_pos hz5, n1]
    by_cases c2 : J 101 w = 2
    · rw [if_pos c2, if_pos c2]
      rfl
    · rw [if_neg c2, if_neg c2, zl_eq, zl_eq]
      have e101 : ∀ x, uI J 102 w x 101 w = J 101 w := fun x => by rw [uI_ne (by decide)]
      rw [e101]
      rcases a9 with ⟨y1, y2⟩ | ⟨y1, y2, y3⟩ | ⟨y1, y2, y3⟩
      · rw [if_pos (Or.inl y1), if_pos y1, y1, y2, if_neg (by decide), Int32.sub_zero]
        unfold f12_second_B78
        rw [if_pos hz5, n1, zl_eq]
        rfl
      · rw [y1, if_pos rfl, if_neg (by decide), uI_at]
        by_cases q1 : J 102 w = 1
        · rw [if_pos (Or.inr q1), q1, if_pos (by decide)]
          unfold f12_second_B78
          rw [if_pos hz5, n1, zl_eq]
          rfl
        · have z1' : ¬ J 102 w - 1 = 0 := by
            rw [zeq_iff, z0, zsub (by rw [z1]; omega) (by rw [z1]; omega), z1]
            rw [zeq_iff, z1] at q1
            omega
          have z2' : ¬ ((0 : Int32) = 1 ∨ J 102 w = 1) := by
            rintro (x | x)
            · cases x
            · exact q1 x
          rw [if_neg z1', if_neg z2']
          rfl
      · exact absurd y1 c2
  by_cases cl : 1 < (I (A w) 5).toInt
  · -- a second less
    obtain ⟨x1, x2, x3⟩ := zT1 hX hG hw hgo cl
    refine ⟨_, _, fun k75 q l1 l2 l3 e3 => ?_, fun q l2 e2 => ?_, w, hw, hgo, zG_c x1 (by omega), x2, x3, Or.inl (by rw [uI_ne (by decide)]), fun h' hb => by rw [uI_ne (by decide)]; exact hb⟩
    · rw [CF k75 q l1 l2 l3 e3, if_neg (by rw [zle_iff, z1]; omega)]
    · rw [a3] at cl
      rw [CM q l2 e2]
      rcases a9 with ⟨y1, y2⟩ | ⟨y1, y2, y3⟩ | ⟨y1, y2, y3⟩
      · rw [y2, z0] at cl
        omega
      · rw [y1, if_neg (by decide), if_neg]
        rintro (q | q)
        · cases q
        · rw [q, z1] at cl
          omega
      · rw [if_pos y1]
        have e1 : (J 102 w - 1).toInt = (J 102 w).toInt - 1 := by rw [zsub (by rw [z1]; omega) (by rw [z1]; omega), z1]
        unfold f12_takesOn
        rw [if_pos hz5, n1, zl_eq, uI_at, if_neg (by rw [zle_iff, z0, e1]; omega), zb_some]
  · obtain ⟨I', J', u1, u2, u3⟩ := zmove hX hG hw hgo ew et ht0 hc cl
    refine ⟨I', J', fun k75 q l1 l2 l3 e3 => ?_, fun q l2 e2 => ?_, w, hw, hgo, u3⟩
    · rw [CF k75 q l1 l2 l3 e3, if_pos (by rw [zle_iff, z1]; omega), u1, zb_some]
    · rw [a3] at cl
      rw [CM q l2 e2]
      by_cases c2 : J 101 w = 2
      · rw [if_pos c2] at u2 ⊢
        rw [u2, zb_some]
      · rw [if_neg c2] at u2 ⊢
        rw [if_pos, u2, zb_some]
        rcases a9 with ⟨y1, y2⟩ | ⟨y1, y2, y3⟩ | ⟨y1, y2, y3⟩
        · exact Or.inl y1
        · refine Or.inr ?_
          rw [zeq_iff, z1]
          omega
        · exact absurd y1 c2
end
