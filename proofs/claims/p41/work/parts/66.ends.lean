/-! pure part: a taking ends -/
theorem znx : ∀ h, h < 9 → 0 ≤ ((Int32.ofNat h + 1) - (Int32.ofNat h + 1) / 9 * 9).toInt ∧ ((Int32.ofNat h + 1) - (Int32.ofNat h + 1) / 9 * 9).toInt ≤ 8 := by decide +kernel
section
variable {n : Nat} {kd : zMK} {R : zMR} {L s t w : Nat} {A : Nat → Nat} {I J : zMI} {c tm : Int}
theorem zHp_ok {h : Nat} (hh : h < 9) : zHpB (46 + h) = true := by
  unfold zHpB
  simp
  omega
theorem zT4 (hX : zCx n kd A s) (hG : zG n kd R L s t A I J c tm) (hw : w < 5) (hgo : zgo J w) {h : Nat} (hh : h < 9) {wi at0 t32 : Int32} (ew : wi.toInt = (w : Int)) (ea : J 100 w = at0) (eh : at0.toInt = (h : Int)) (et : I 42 5 = t32) (ht0 : 0 ≤ tm) (hc : c ≤ 3590) (h2 : J 101 w = 2) :
    ∃ I' J', f0_endTaking n kd R (A w) (46 + h) (uI I (A w) 5 0) = some I' ∧ (zb (f12_lifts wi t32 (uI J 102 w 0)) fun p15 => if (p15 103 w) = (9 : Int32) then zb (f12_makes wi t32 p15) fun p18 => f12_takesOn_B43 wi p18 else f12_takesOn_B43 wi p15) = some J' ∧ zG n kd R L s t A I' J' (c + 1) tm ∧ zDx (A w) s I I' ∧ zEx w J J' ∧ (J' 81 48 = J 81 48 ∨ (J 81 48 = -1 ∧ J' 81 48 = I 42 5)) ∧ zmi J J' := by
  obtain ⟨m1, m2, m3, m4, m5, m6⟩ := zG_me hX hG hw hgo
  have mh := m6 h hh
  obtain ⟨I1, J1, x1, x2, x3⟩ := zL1 hX hG hw hgo hh ew ea eh et
  obtain ⟨I3, J3, y1, y2, y3⟩ := zL2 hX hG hw hgo hh ew et ht0 hc x3
  obtain ⟨g1, g2, g3, g4, g5, g6⟩ := hG
  obtain ⟨p1, p2, ⟨p3, p4, p5, p6⟩, p7, p8, p9, p10, p11, p12, p13, p14, p15, p16⟩ := y3
  have n1 : wi.toNatClampNeg = w := by rw [zcl_iff, ew]; omega
  have n2 : at0.toNatClampNeg = h := by rw [zcl_iff, eh]; omega
  have wiw : Int32.ofNat w = wi := by
    have := zofn (x := wi) (by omega)
    rw [ew] at this
    exact this
  have ath : Int32.ofNat h = at0 := by
    have := zofn (x := at0) (by omega)
    rw [eh] at this
    exact this
  -- the memory that the step is asked in
  obtain ⟨K, hK⟩ : ∃ K, uI I3 (A w) 4 0 = K := ⟨_, rfl⟩
  have KD : zDx (A w) s I K := by rw [← hK]; exact zDx_tr p1 (zDx_a (by decide))
  have gl := zGl_eq g1 m3 KD p2
  have me := zwl_eq m1 (I' := K) (J' := J3) (KD _ 0 (by omega) (by omega) (by omega) (by omega) m4 m5) (KD _ 1 (by omega) (by omega) (by omega) (by omega) m4 m5) (zEx_row p2 (by decide) (by decide) (by decide) (by decide)) (zEx_row p2 (by decide) (by decide) (by decide) (by decide))
  rw [wiw] at me
  have Kh : ∀ h', h' < 9 → K (46 + h') = I3 (46 + h') := fun h' x => by rw [← hK, uI_ne (Ne.symm (m6 h' x))]
  have gh := p11 h hh
  have gh0 := gh.1
  have gh1 := gh.2.1
  obtain ⟨l1, l2, l3, l4, l5, l6, l7, l8⟩ := gl
  obtain ⟨v, I5, J5, v1, v2, v3, v4, v5⟩ := zsteps (hh := at0) (left := J3 107 h) (done := J3 104 w) l1 l2 l3 l4 me hh (by rw [Kh h hh, gh0, ath]) (by rw [Kh h hh, gh1]) l5
  have s42 : (42 ≠ s ∧ 42 ≠ s + 1) ∧ (45 ≠ s ∧ 45 ≠ s + 1) ∧ ∀ h', h' < 9 → 46 + h' ≠ s ∧ 46 + h' ≠ s + 1 := by
    have := hX.2.1
    refine ⟨⟨by omega, by omega⟩, ⟨by omega, by omega⟩, fun h' _ => ⟨by omega, by omega⟩⟩
  have K4 : K (A w) 4 = 0 := by rw [← hK, uI_at]
  have Ka : ∀ j, j ≠ 4 → K (A w) j = I3 (A w) j := fun j hj => by rw [← hK, uI_off hj]
  have Kn : ∀ b, b ≠ A w → K b = I3 b := fun b hb => by rw [← hK, uI_ne hb]
  have J3100 : J3 100 w = at0 := by rw [p9]; exact ea
  have I5a : I5 (A w) = K (A w) := v3 _ m4 m5
  have ia3 : I3 (A w) 3 = at0 := by rw [p3, m2.1]; exact ea
  obtain ⟨nx, hnx⟩ : ∃ nx, (at0 + 1) - (at0 + 1) / 9 * 9 = nx := ⟨_, rfl⟩
  have rnx : 0 ≤ nx.toInt ∧ nx.toInt ≤ 8 := by
    have := znx h hh
    rw [ath, hnx] at this
    exact this
  refine ⟨uI (uI I5 (A w) 5 v) (A w) 3 nx, uI (uI (uI J5 102 w v) 100 w nx) 101 w 0, ?_, ?_, ?_, ?_, ?_, ?_, fun h' hb => ?_⟩
  · rw [x1, y1]
    unfold f0_endTaking_B66
    rw [if_pos m1.1, hK, zl_eq, Ka 6 (by decide), p4, v1, zb_some, zl_eq, zl_eq]
    dsimp only
    rw [uI_off (show 3 ≠ 5 by decide), I5a, Ka 3 (by decide), ia3, hnx]
  · have B : f12_takesOn_B43 wi J3 = some (uI (uI (uI J5 102 w v) 100 w nx) 101 w 0) := by
      unfold f12_takesOn_B43
      rw [if_pos (zib_ok (by omega) (by omega)), n1, J3100, if_pos (zib_ok (by omega) (by omega)), n2, v2, zb_some, zl_eq, zl_eq, zl_eq]
      dsimp only
      rw [hnx]
    rw [x2, zb_some]
    by_cases q : J1 103 w = 9
    · rw [if_pos q] at y2 ⊢
      rw [y2, zb_some, B]
    · rw [if_neg q] at y2 ⊢
      cases y2
      exact B
  all_goals (obtain ⟨I', hI'⟩ : ∃ I', uI (uI I5 (A w) 5 v) (A w) 3 nx = I' := ⟨_, rfl⟩
             obtain ⟨J', hJ'⟩ : ∃ J', uI (uI (uI J5 102 w v) 100 w nx) 101 w 0 = J' := ⟨_, rfl⟩
             have hD : zDx (A w) s I I' := by
               rw [← hI']
               exact zDx_tr (zDx_tr (zDx_tr KD (zDx_s v3)) (zDx_a (by decide))) (zDx_a (by decide))
             have hE : zEx w J J' := by
               rw [← hJ']
               exact zEx_tr (zEx_tr (zEx_tr (zEx_tr p2 (zEx_s v4)) (zEx_w (by decide) (by decide))) (zEx_w (by decide) (by decide))) (zEx_w (by decide) (by decide)))
  · rw [hI', hJ']
    have In : ∀ b, b ≠ A w → b ≠ s → b ≠ s + 1 → I' b = I3 b := fun b x1 x2 x3 => by rw [← hI', uI_ne x1, uI_ne x1, v3 b x2 x3, Kn b x1]
    have Jn : ∀ b, b ≠ 102 → b ≠ 100 → b ≠ 101 → b ≠ 97 → b ≠ 98 → J' b = J3 b := fun b x1 x2 x3 x4 x5 => by rw [← hJ', uI_ne x3, uI_ne x2, uI_ne x1, v4 b x4 x5]
    have Ia : ∀ j, j ≠ 3 → j ≠ 4 → j ≠ 5 → I' (A w) j = I3 (A w) j := fun j x1 x2 x3 => by rw [← hI', uI_off x1, uI_off x3, I5a, Ka j x2]
    have i3 : I' (A w) 3 = nx := by rw [← hI', uI_at]
    have i4 : I' (A w) 4 = 0 := by rw [← hI', uI_off (by decide), uI_off (by decide), I5a, K4]
    have i5 : I' (A w) 5 = v := by rw [← hI', uI_off (by decide), uI_at]
    have j0 : J' 100 w = nx := by rw [← hJ', uI_ne (by decide), uI_at]
    have j1 : J' 101 w = 0 := by rw [← hJ', uI_at]
    have j2 : J' 102 w = v := by rw [← hJ', uI_ne (by decide), uI_ne (by decide), uI_at]
    refine ⟨zGl_eq g1 m3 hD hE, zGo_eq g2 hE, zGa_other hX.1 g3 hX.2.1 hX.2.2.1 hX.2.2.2.1 hw hgo hD hE ?_, fun h' hh' => ?_, fun h' hh' => ?_, ?_⟩
    · unfold zGw
      rw [i3, i4, i5, j0, j1, j2, Ia 6 (by decide) (by decide) (by decide), Ia 7 (by decide) (by decide) (by decide), Ia 8 (by decide) (by decide) (by decide), Ia 9 (by decide) (by decide) (by decide), Ia 10 (by decide) (by decide) (by decide), Jn 103 (by decide) (by decide) (by decide) (by decide) (by decide), Jn 104 (by decide) (by decide) (by decide) (by decide) (by decide), Jn 105 (by decide) (by decide) (by decide) (by decide) (by decide), Jn 106 (by decide) (by decide) (by decide) (by decide) (by decide)]
      exact ⟨rfl, rfl, rfl, p4, p5, p6, p8, rnx, Or.inr (Or.inl ⟨rfl, v5⟩), p7⟩
    · have gg := p11 h' hh'
      unfold zGhq at gg ⊢
      rw [In _ (Ne.symm (m6 h' hh')) (s42.2.2 h' hh').1 (s42.2.2 h' hh').2, Jn 107 (by decide) (by decide) (by decide) (by decide) (by decide), Jn 83 (by decide) (by decide) (by decide) (by decide) (by decide), Jn 108 (by decide) (by decide) (by decide) (by decide) (by decide), Jn 109 (by decide) (by decide) (by decide) (by decide) (by decide), Jn 81 (by decide) (by decide) (by decide) (by decide) (by decide)]
      exact gg
    · rw [In _ (Ne.symm (m6 h' hh')) (s42.2.2 h' hh').1 (s42.2.2 h' hh').2, ztks_up hw (J := J) (J' := J') (fun w' hw' => by
        unfold ztk
        rw [hE.2 101 w' (by decide) (by decide) hw', hE.2 100 w' (by decide) (by decide) hw'])]
      have e2 : ztk J' h' w = 0 := by
        unfold ztk
        rw [if_neg]
        intro q
        have := q.1
        rw [j1] at this
        exact absurd this (by decide)
      have r := ztks_05 J h'
      have gk := g5 h' hh'
      by_cases e : h' = h
      · subst e
        have e1 : ztk J h' w = 1 := by
          unfold ztk
          rw [if_pos ⟨h2, by rw [ea]; exact eh⟩]
        rw [p13, zsub (by rw [z1]; omega) (by rw [z1]; omega), z1, gk]
        omega
      · have e1 : ztk J h' w = 0 := by
          unfold ztk
          rw [if_neg]
          intro q
          have := q.2
          rw [ea] at this
          omega
        rw [p12 h' hh' e, gk]
        omega
    · unfold zGp at p14 ⊢
      rw [In 42 (by omega) s42.1.1 s42.1.2, In 45 (by omega) s42.2.1.1 s42.2.1.2, Jn 81 (by decide) (by decide) (by decide) (by decide) (by decide), Jn 103 (by decide) (by decide) (by decide) (by decide) (by decide), Jn 110 (by decide) (by decide) (by decide) (by decide) (by decide)]
      exact p14
  · rw [hI']
    exact hD
  · rw [hJ']
    exact hE
  · rw [uI_ne (show 81 ≠ 101 by decide), uI_ne (show 81 ≠ 100 by decide), uI_ne (show 81 ≠ 102 by decide), v4 81 (by decide) (by decide)]
    exact p15
  · rw [uI_ne (show 81 ≠ 101 by decide), uI_ne (show 81 ≠ 100 by decide), uI_ne (show 81 ≠ 102 by decide), v4 81 (by decide) (by decide)]
    exact p16 h' hb
end
