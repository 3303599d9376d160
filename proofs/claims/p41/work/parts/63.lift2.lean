/-! pure part: the lifting on both sides -/
section
variable {n : Nat} {kd : zMK} {R : zMR} {L s t w : Nat} {A : Nat → Nat} {I J : zMI} {c tm : Int}
theorem zGh_other {h' : Nat} {I1 J1 : zMI} (hg : zGhq I J h') (e : I1 (46 + h') = I (46 + h')) (e1 : J1 107 h' = J 107 h') (e2 : J1 83 h' = J 83 h') (e3 : J1 108 h' = J 108 h') (e4 : J1 109 h' = J 109 h') (e5 : (J1 81 45).toInt.toNat.testBit h' = (J 81 45).toInt.toNat.testBit h') : zGhq I1 J1 h' := by
  unfold zGhq at hg ⊢
  rw [e, e1, e2, e3, e4, e5]
  exact hg
theorem zL1 (hX : zCx n kd A s) (hG : zG n kd R L s t A I J c tm) (hw : w < 5) (hgo : zgo J w) {h : Nat} (hh : h < 9) {wi at0 t32 : Int32} (ew : wi.toInt = (w : Int)) (ea : J 100 w = at0) (eh : at0.toInt = (h : Int)) (et : I 42 5 = t32) :
    ∃ I1 J1, f0_endTaking n kd R (A w) (46 + h) (uI I (A w) 5 0) = f0_endTaking_B42 n kd R (A w) (46 + h) I1 ∧ f12_lifts wi t32 (uI J 102 w 0) = some J1 ∧ zP1 n kd A s w h I J I1 J1 := by
  obtain ⟨m1, m2, m3, m4, m5, m6⟩ := zG_me hX hG hw hgo
  obtain ⟨g1, g2, g3, g4, g5, g6⟩ := hG
  obtain ⟨b0, b1, b2, b3, b4, b5, b6, b7⟩ := g4 h hh
  have ms := m2.2.2.2.2.2.2.1
  have mh := m6 h hh
  have hp : zHpB (46 + h) = true := by
    unfold zHpB
    simp
    omega
  have ha42 : (42 : Nat) ≠ A w := by omega
  have ha45 : (45 : Nat) ≠ A w := by omega
  have n46 : (42 : Nat) ≠ 46 + h := by omega
  have n47 : (45 : Nat) ≠ 46 + h := by omega
  have hr := g6.2.2.2.2.2.2.2.2.2.2
  generalize hK : uI (uI I (A w) 5 0) (46 + h) 4 (I (46 + h) 4 - 1) = K
  have K42 : K 42 = I 42 := by rw [← hK, uI_ne n46, uI_ne ha42]
  have K45 : K 45 = I 45 := by rw [← hK, uI_ne n47, uI_ne ha45]
  have Kh : ∀ j, j ≠ 4 → K (46 + h) j = I (46 + h) j := fun j hj => by rw [← hK, uI_off hj, uI_ne (Ne.symm mh)]
  have Kh4 : K (46 + h) 4 = I (46 + h) 4 - 1 := by rw [← hK, uI_at]
  have Kho : ∀ h', h' < 9 → h' ≠ h → K (46 + h') = I (46 + h') := fun h' x y => by rw [← hK, uI_ne (by omega), uI_ne (Ne.symm (m6 h' x))]
  have Ka : ∀ j, j ≠ 5 → K (A w) j = I (A w) j := fun j hj => by rw [← hK, uI_ne mh, uI_off hj]
  have KD : zDx (A w) s I K := by rw [← hK]; exact zDx_tr (zDx_a (by decide)) (zDx_h hh (by decide) (by decide))
  have e4 : uI I (A w) 5 0 (46 + h) 4 = I (46 + h) 4 := by rw [uI_ne (Ne.symm mh)]
  have F : f0_endTaking n kd R (A w) (46 + h) (uI I (A w) 5 0) = zb (f2_lift (46 + h) t32 K) fun p19 =>
      if p19.1 = (1 : Int32) then f0_endTaking_B42 n kd R (A w) (46 + h) (uI p19.2 (A w) 9 (1 : Int32)) else
      if p19.1 = (2 : Int32) then f0_endTaking_B42 n kd R (A w) (46 + h) (uI p19.2 (A w) 10 (1 : Int32)) else
      f0_endTaking_B42 n kd R (A w) (46 + h) p19.2 := by
    unfold f0_endTaking
    rw [if_pos hp, e4, hK, zl_eq, K42, et]
    simp only [m1.1, if_true, zl_eq]
  by_cases c0 : J 107 h = 0
  · -- nothing is there
    have c1 : I (46 + h) 1 = 0 := by rw [b1]; exact c0
    have L2 : f2_lift (46 + h) t32 K = some (2, uI K (46 + h) 6 1) := by
      unfold f2_lift
      rw [if_pos hp, Kh 1 (by decide), c1, if_neg (by decide), zl_eq]
    have G := g12_lifts0 (J := uI J 102 w 0) (t := t32) hw ew hh (show uI J 102 w 0 100 w = at0 by rw [uI_ne (by decide)]; exact ea) eh (by rw [uI_ne (by decide)]; exact c0)
    rw [uI_ne (show 103 ≠ 102 by decide), uI_ne (show 81 ≠ 102 by decide)] at G
    obtain ⟨z1', z2'⟩ := zbit hr eh hh
    refine ⟨uI (uI K (46 + h) 6 1) (A w) 10 1, _, ?_, G, zDx_tr KD (zDx_tr (zDx_h hh (by decide) (by decide)) (zDx_a (by decide))), zEx_tr (zEx_tr (zEx_tr (zEx_w (by decide) (by decide)) (zEx_w (by decide) (by decide))) (zEx_81 (by decide))) (zEx_w (by decide) (by decide)), fun j x1 x2 x3 => ?_, Or.inr (Or.inr ⟨uI_at, uI_at⟩), ?_, ?_, ?_, ?_, ?_, fun h' hh' => ?_, fun h' x1 x2 => ?_, ?_, ?_, ?_, fun j hj => ?_, ?_, ?_, fun h' hb => ?_⟩
    · rw [F, L2, zb_some]
      dsimp only
      rw [if_neg (by decide), if_pos rfl]
    · rw [uI_off x3, uI_ne mh, Ka j x1]
    · rw [uI_ne (by decide), uI_ne (by decide), uI_at]
    · rw [uI_ne (by decide), uI_ne (by decide), uI_ne (by decide), uI_ne (by decide)]
    · rw [uI_ne (by decide), uI_ne (by decide), uI_ne (by decide), uI_ne (by decide)]
    · rw [uI_ne (by decide), uI_ne (by decide), uI_ne (by decide), uI_ne (by decide)]
    · rw [uI_ne (by decide), uI_ne (by decide), uI_ne (by decide), uI_ne (by decide)]
    · have J45 : uI (uI (uI (uI J 102 w 0) 103 w (J 103 w + 1)) 81 45 (J 81 45 ||| ((1 : Int32) <<< (at0 &&& 31)))) 106 w 2 81 45 = J 81 45 ||| ((1 : Int32) <<< (at0 &&& 31)) := by rw [uI_ne (by decide), uI_at]
      have Jr : ∀ b, b ≠ 106 → b ≠ 81 → b ≠ 103 → b ≠ 102 → uI (uI (uI (uI J 102 w 0) 103 w (J 103 w + 1)) 81 45 (J 81 45 ||| ((1 : Int32) <<< (at0 &&& 31)))) 106 w 2 b = J b := fun b x1 x2 x3 x4 => by rw [uI_ne x1, uI_ne x2, uI_ne x3, uI_ne x4]
      by_cases q : h' = h
      · subst q
        unfold zGhq
        rw [J45, z2' h', Jr 107 (by decide) (by decide) (by decide) (by decide), Jr 83 (by decide) (by decide) (by decide) (by decide), Jr 108 (by decide) (by decide) (by decide) (by decide), Jr 109 (by decide) (by decide) (by decide) (by decide), uI_ne (Ne.symm mh), uI_at, uI_off (by decide), uI_off (by decide), uI_off (by decide), uI_off (by decide), uI_off (by decide), Kh 0 (by decide), Kh 1 (by decide), Kh 2 (by decide), Kh 3 (by decide), Kh 5 (by decide)]
        exact ⟨b0, b1, b2, b3, b4, Or.inr ⟨rfl, by simp⟩, b6, b7⟩
      · refine zGh_other (g4 h' hh') (by rw [uI_ne (Ne.symm (m6 h' hh')), uI_ne (by omega), Kho h' hh' q]) (by rw [Jr 107 (by decide) (by decide) (by decide) (by decide)]) (by rw [Jr 83 (by decide) (by decide) (by decide) (by decide)]) (by rw [Jr 108 (by decide) (by decide) (by decide) (by decide)]) (by rw [Jr 109 (by decide) (by decide) (by decide) (by decide)]) ?_
        rw [J45, z2' h', decide_eq_false q, Bool.or_false]
    · rw [uI_ne (Ne.symm (m6 h' x1)), uI_ne (by omega), Kho h' x1 x2]
    · rw [uI_ne (Ne.symm mh), uI_off (by decide), Kh4]
    · rw [uI_ne ha42, uI_ne n46, K42]
    · rw [uI_ne ha45, uI_ne n47, K45]
    · rw [uI_ne (by decide), uI_off hj, uI_ne (by decide), uI_ne (by decide)]
    · rw [uI_ne (show 81 ≠ 106 by decide), uI_at]
      exact z1'
    · rw [uI_ne (by decide), uI_ne (by decide), uI_ne (by decide), uI_ne (by decide)]
    · rw [uI_ne (show 81 ≠ 106 by decide), uI_at, z2' h', hb, Bool.true_or]
  · -- one or two
    have p0 : 0 < (J 107 h).toInt := by
      rw [zeq_iff, z0] at c0
      omega
    obtain ⟨two, h2⟩ : ∃ two, two = if J 83 h = 0 then (0 : Int32) else if (J 108 h + 1) - (J 108 h + 1) / (J 83 h) * (J 83 h) = 0 then (if J 107 h < 2 then 0 else 1) else 0 := ⟨_, rfl⟩
    have two01 : two = 0 ∨ (two = 1 ∧ 2 ≤ (J 107 h).toInt) := by
      rw [h2]
      by_cases x1 : J 83 h = 0
      · rw [if_pos x1]; exact Or.inl rfl
      · rw [if_neg x1]
        by_cases x2 : (J 108 h + 1) - (J 108 h + 1) / (J 83 h) * (J 83 h) = 0
        · rw [if_pos x2]
          by_cases x3 : J 107 h < 2
          · rw [if_pos x3]; exact Or.inl rfl
          · rw [if_neg x3]
            rw [zlt_iff, z2] at x3
            exact Or.inr ⟨rfl, by omega⟩
        · rw [if_neg x2]; exact Or.inl rfl
    have L2 := g2_lift (tm := t32) (two := two) (I := K) hh (by rw [Kh 1 (by decide), b1]; exact p0) (by rw [Kh 2 (by decide), Kh 3 (by decide), Kh 1 (by decide), b1, b2, b3]; exact h2)
    rw [Kh 3 (by decide), Kh 1 (by decide), b1, b3] at L2
    have G := g12_lifts1 (J := uI J 102 w 0) (t := t32) (two := two) hw ew hh (show uI J 102 w 0 100 w = at0 by rw [uI_ne (by decide)]; exact ea) eh (by rw [uI_ne (by decide)]; exact c0) (by rw [uI_ne (by decide)]; exact b7) (by rw [uI_ne (show 83 ≠ 102 by decide), uI_ne (show 108 ≠ 102 by decide), uI_ne (show 107 ≠ 102 by decide)]; exact h2)
    rw [uI_ne (show 103 ≠ 102 by decide), uI_ne (show 108 ≠ 102 by decide), uI_ne (show 107 ≠ 102 by decide), uI_ne (show 106 ≠ 102 by decide), uI_ne (show 109 ≠ 102 by decide)] at G
    obtain ⟨hi, ehi⟩ : ∃ hi, J 107 h - (if two = 0 then (1 : Int32) else 2) = hi := ⟨_, rfl⟩
    rw [ehi] at L2 G
    have rhi : 0 ≤ hi.toInt ∧ hi.toInt ≤ 200 := by
      rw [← ehi]
      rcases two01 with q | ⟨q, q2⟩
      · rw [if_pos q, zsub (by rw [z1]; omega) (by rw [z1]; omega), z1]
        omega
      · rw [if_neg (by rw [q]; decide), zsub (by rw [z2]; omega) (by rw [z2]; omega), z2]
        omega
    generalize hM : (if hi = 0 then uI (uI (uI K (46 + h) 3 (J 108 h + 1)) (46 + h) 1 hi) (46 + h) 5 t32 else uI (uI K (46 + h) 3 (J 108 h + 1)) (46 + h) 1 hi) = M at L2
    generalize hN : uI (uI (uI (uI (uI (uI J 102 w 0) 103 w (J 103 w + 1)) 108 h (J 108 h + 1)) 107 h hi) 106 w (if two = 0 then J 106 w else if J 106 w = 0 then 1 else J 106 w)) 109 h (if hi = 0 then t32 else J 109 h) = N at G
    have M_ne : ∀ b, b ≠ 46 + h → M b = K b := fun b hb => by
      rw [← hM]
      split
      · rw [uI_ne hb, uI_ne hb, uI_ne hb]
      · rw [uI_ne hb, uI_ne hb]
    have Mj : ∀ j, j ≠ 1 → j ≠ 3 → j ≠ 5 → M (46 + h) j = K (46 + h) j := fun j x1 x2 x3 => by
      rw [← hM]
      split
      · rw [uI_off x3, uI_off x1, uI_off x2]
      · rw [uI_off x1, uI_off x2]
    have M1 : M (46 + h) 1 = hi := by
      rw [← hM]
      split
      · rw [uI_off (by decide), uI_at]
      · rw [uI_at]
    have M3 : M (46 + h) 3 = J 108 h + 1 := by
      rw [← hM]
      split
      · rw [uI_off (by decide), uI_off (by decide), uI_at]
      · rw [uI_off (by decide), uI_at]
    have M5 : M (46 + h) 5 = if hi = 0 then t32 else J 109 h := by
      rw [← hM]
      by_cases q : hi = 0
      · rw [if_pos q, if_pos q, uI_at]
      · rw [if_neg q, if_neg q, uI_off (by decide), uI_off (by decide), Kh 5 (by decide), b4]
    have MD : zDx (A w) s K M := by
      rw [← hM]
      split
      · exact zDx_tr (zDx_tr (zDx_h hh (by decide) (by decide)) (zDx_h hh (by decide) (by decide))) (zDx_h hh (by decide) (by decide))
      · exact zDx_tr (zDx_h hh (by decide) (by decide)) (zDx_h hh (by decide) (by decide))
    have NE : zEx w J N := by
      rw [← hN]
      exact zEx_tr (zEx_tr (zEx_tr (zEx_tr (zEx_tr (zEx_w (by decide) (by decide)) (zEx_w (by decide) (by decide))) (zEx_r (by decide) (by decide))) (zEx_r (by decide) (by decide))) (zEx_w (by decide) (by decide))) (zEx_r (by decide) (by decide))
    have N_ne : ∀ b, b ≠ 102 → b ≠ 103 → b ≠ 108 → b ≠ 107 → b ≠ 106 → b ≠ 109 → N b = J b := fun b x1 x2 x3 x4 x5 x6 => by rw [← hN, uI_ne x6, uI_ne x5, uI_ne x4, uI_ne x3, uI_ne x2, uI_ne x1]
    have N103 : N 103 w = J 103 w + 1 := by rw [← hN, uI_ne (by decide), uI_ne (by decide), uI_ne (by decide), uI_ne (by decide), uI_at]
    have N106 : N 106 w = if two = 0 then J 106 w else if J 106 w = 0 then 1 else J 106 w := by rw [← hN, uI_ne (by decide), uI_at]
    have N107 : ∀ j, N 107 j = if j = h then hi else J 107 j := fun j => by
      rw [← hN, uI_ne (by decide), uI_ne (by decide)]
      by_cases q : j = h
      · rw [q, uI_at, if_pos rfl]
      · rw [uI_off q, if_neg q, uI_ne (by decide), uI_ne (by decide), uI_ne (by decide)]
    have N108 : ∀ j, N 108 j = if j = h then J 108 h + 1 else J 108 j := fun j => by
      rw [← hN, uI_ne (by decide), uI_ne (by decide), uI_ne (by decide)]
      by_cases q : j = h
      · rw [q, uI_at, if_pos rfl]
      · rw [uI_off q, if_neg q, uI_ne (by decide), uI_ne (by decide)]
    have N109 : ∀ j, N 109 j = if j = h then (if hi = 0 then t32 else J 109 h) else J 109 j := fun j => by
      rw [← hN]
      by_cases q : j = h
      · rw [q, uI_at, if_pos rfl]
      · rw [uI_off q, if_neg q, uI_ne (by decide), uI_ne (by decide), uI_ne (by decide), uI_ne (by decide), uI_ne (by decide)]
    have N81 : N 81 = J 81 := N_ne 81 (by decide) (by decide) (by decide) (by decide) (by decide) (by decide)
    have N83 : N 83 = J 83 := N_ne 83 (by decide) (by decide) (by decide) (by decide) (by decide) (by decide)
    -- the class's memory: M, with a blot if two
    obtain ⟨I1, e1, e2⟩ : ∃ I1, f0_endTaking n kd R (A w) (46 + h) (uI I (A w) 5 0) = f0_endTaking_B42 n kd R (A w) (46 + h) I1 ∧ I1 = if two = 0 then M else uI M (A w) 9 1 := by
      refine ⟨_, ?_, rfl⟩
      rw [F, L2, zb_some]
      dsimp only
      rcases two01 with q | ⟨q, -⟩
      · rw [if_pos q, if_pos q, if_neg (by decide), if_neg (by decide)]
      · have q0 : ¬ two = 0 := by rw [q]; decide
        simp only [if_neg q0, if_true]
    have I1_ne : ∀ b, b ≠ A w → I1 b = M b := fun b hb => by
      rw [e2]
      split
      · rfl
      · rw [uI_ne hb]
    have I1a : ∀ j, j ≠ 9 → I1 (A w) j = M (A w) j := fun j hj => by
      rw [e2]
      split
      · rfl
      · rw [uI_off hj]
    have I1D : zDx (A w) s M I1 := by
      rw [e2]
      split
      · exact zDx_rfl
      · exact zDx_a (by decide)
    refine ⟨I1, N, e1, G, zDx_tr KD (zDx_tr MD I1D), NE, fun j x1 x2 x3 => ?_, ?_, N103, N_ne 100 (by decide) (by decide) (by decide) (by decide) (by decide) (by decide), N_ne 101 (by decide) (by decide) (by decide) (by decide) (by decide) (by decide), N_ne 104 (by decide) (by decide) (by decide) (by decide) (by decide) (by decide), N_ne 105 (by decide) (by decide) (by decide) (by decide) (by decide) (by decide), fun h' hh' => ?_, fun h' x1 x2 => ?_, ?_, ?_, ?_, fun j _ => by rw [N81], by rw [N81]; exact hr, N_ne 110 (by decide) (by decide) (by decide) (by decide) (by decide) (by decide), fun h' hb => by rw [N81]; exact hb⟩
    · rw [I1a j x2, M_ne _ mh, Ka j x1]
    · have a9 : I1 (A w) 9 = if two = 0 then I (A w) 9 else 1 := by
        rw [e2]
        by_cases q : two = 0
        · rw [if_pos q, if_pos q, M_ne _ mh, Ka 9 (by decide)]
        · rw [if_neg q, if_neg q, uI_at]
      have a10 : I1 (A w) 10 = I (A w) 10 := by rw [I1a 10 (by decide), M_ne _ mh, Ka 10 (by decide)]
      unfold zsrt
      rw [N106, a9, a10]
      rcases two01 with q | ⟨q, -⟩
      · rw [if_pos q, if_pos q]
        exact ms
      · have q' : ¬ two = 0 := by rw [q]; decide
        rw [if_neg q', if_neg q']
        rcases ms with ⟨y1, y2, y3⟩ | ⟨y1, y2, y3⟩ | ⟨y1, y2⟩
        · rw [if_pos y1]
          exact Or.inr (Or.inl ⟨rfl, rfl, y3⟩)
        · rw [if_neg (by rw [y1]; decide)]
          exact Or.inr (Or.inl ⟨y1, rfl, y3⟩)
        · rw [if_neg (by rw [y1]; decide)]
          exact Or.inr (Or.inr ⟨y1, y2⟩)
    · by_cases q : h' = h
      · subst q
        unfold zGhq
        rw [N107, N108, N109, if_pos rfl, if_pos rfl, if_pos rfl, N83, N81, I1_ne _ (Ne.symm mh), M1, M3, M5, Mj 0 (by decide) (by decide) (by decide), Mj 2 (by decide) (by decide) (by decide), Mj 6 (by decide) (by decide) (by decide), Kh 0 (by decide), Kh 2 (by decide), Kh 6 (by decide)]
        exact ⟨b0, rfl, b2, rfl, rfl, b5, rhi, b7⟩
      · exact zGh_other (g4 h' hh') (by rw [I1_ne _ (Ne.symm (m6 h' hh')), M_ne _ (by omega), Kho h' hh' q]) (by rw [N107, if_neg q]) (by rw [N83]) (by rw [N108, if_neg q]) (by rw [N109, if_neg q]) (by rw [N81])
    · rw [I1_ne _ (Ne.symm (m6 h' x1)), M_ne _ (by omega), Kho h' x1 x2]
    · rw [I1_ne _ (Ne.symm mh), Mj 4 (by decide) (by decide) (by decide), Kh4]
    · rw [I1_ne _ ha42, M_ne _ n46, K42]
    · rw [I1_ne _ ha45, M_ne _ n47, K45]
end
