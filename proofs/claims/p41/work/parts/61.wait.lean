/-! pure part: one who goes: a second less, waits, begins to take -/
theorem ztks_up {J J' : zMI} {w h : Nat} (hw : w < 5) (e : ∀ w', w' ≠ w → ztk J' h w' = ztk J h w') : ztks J' h = ztks J h - ztk J h w + ztk J' h w := by
  unfold ztks
  rcases (show w = 0 ∨ w = 1 ∨ w = 2 ∨ w = 3 ∨ w = 4 by omega) with rfl | rfl | rfl | rfl | rfl
  · rw [e 1 (by decide), e 2 (by decide), e 3 (by decide), e 4 (by decide)]; omega
  · rw [e 0 (by decide), e 2 (by decide), e 3 (by decide), e 4 (by decide)]; omega
  · rw [e 0 (by decide), e 1 (by decide), e 3 (by decide), e 4 (by decide)]; omega
  · rw [e 0 (by decide), e 1 (by decide), e 2 (by decide), e 4 (by decide)]; omega
  · rw [e 0 (by decide), e 1 (by decide), e 2 (by decide), e 3 (by decide)]; omega
theorem ztk_01 (J : zMI) (h w : Nat) : ztk J h w = 0 ∨ ztk J h w = 1 := by
  unfold ztk
  split
  · exact Or.inr rfl
  · exact Or.inl rfl
theorem ztks_05 (J : zMI) (h : Nat) : 0 ≤ ztks J h ∧ ztks J h ≤ 5 := by
  unfold ztks
  have a0 := ztk_01 J h 0
  have a1 := ztk_01 J h 1
  have a2 := ztk_01 J h 2
  have a3 := ztk_01 J h 3
  have a4 := ztk_01 J h 4
  omega
/-- what is told of one who goes, in short -/
def zCx (n : Nat) (kd : zMK) (A : Nat → Nat) (s : Nat) : Prop := zSh n kd ∧ 68 ≤ s ∧ (kd s).1 = 0 ∧ (kd (s + 1)).1 = 0 ∧ ∀ w, w < 5 → A w = 0 ∨ (114 ≤ A w ∧ (kd (A w)).1 ≠ 0)
section
variable {n : Nat} {kd : zMK} {R : zMR} {L s t w : Nat} {A : Nat → Nat} {I J : zMI} {c tm : Int}
theorem zG_me (hX : zCx n kd A s) (hG : zG n kd R L s t A I J c tm) (hw : w < 5) (hgo : zgo J w) : zwl n kd I J (A w) (Int32.ofNat w) ∧ zGw I J (A w) w ∧ (114 ≤ A w ∧ (kd (A w)).1 ≠ 0) ∧ A w ≠ s ∧ A w ≠ s + 1 ∧ ∀ h, h < 9 → A w ≠ 46 + h := by
  obtain ⟨h1, h2⟩ := (hG.2.2.1 w hw).1 hgo
  have hb := zwl_big hX.1 h1
  refine ⟨h1, h2, ⟨hb, fun q => ?_⟩, zwl_ne h1 hX.2.2.1, zwl_ne h1 hX.2.2.2.1, fun h hh => by omega⟩
  have := (zkc_ne (k := J 84 (Int32.ofNat w).toNatClampNeg)).1
  rw [h1.2.1] at q
  omega
theorem zT1 (hX : zCx n kd A s) (hG : zG n kd R L s t A I J c tm) (hw : w < 5) (hgo : zgo J w) (h1 : 1 < (I (A w) 5).toInt) : zG n kd R L s t A (uI I (A w) 5 (I (A w) 5 - 1)) (uI J 102 w (J 102 w - 1)) c tm ∧ zDx (A w) s I (uI I (A w) 5 (I (A w) 5 - 1)) ∧ zEx w J (uI J 102 w (J 102 w - 1)) := by
  obtain ⟨m1, m2, m3, m4, m5, m6⟩ := zG_me hX hG hw hgo
  obtain ⟨g1, g2, g3, g4, g5, g6⟩ := hG
  have hD : zDx (A w) s I (uI I (A w) 5 (I (A w) 5 - 1)) := zDx_a (by decide)
  have hE : zEx w J (uI J 102 w (J 102 w - 1)) := zEx_w (by decide) (by decide)
  refine ⟨⟨zGl_eq g1 m3 hD hE, zGo_eq g2 hE, zGa_other hX.1 g3 hX.2.1 hX.2.2.1 hX.2.2.2.1 hw hgo hD hE ?_, fun h hh => zGh_eq (g4 h hh) (fun j _ => by rw [uI_ne (Ne.symm (m6 h hh))]) (by rw [uI_ne (by decide)]) (by rw [uI_ne (by decide)]) (by rw [uI_ne (by decide)]) (by rw [uI_ne (by decide)]) (by rw [uI_ne (by decide)]), fun h hh => ?_, zGp_eq g6 (Int.le_refl _) (fun j _ => by rw [uI_ne (by omega)]) (by rw [uI_ne (by omega)]) (by rw [uI_ne (by decide)]) (by rw [uI_ne (by decide)]) (by rw [uI_ne (by decide)])⟩, hD, hE⟩
  · obtain ⟨a1, a2, a3, a4, a5, a6, a7, a8, a9, a10⟩ := m2
    have e1 : (J 102 w - 1).toInt = (J 102 w).toInt - 1 := by
      rw [a3] at h1
      have := zrange (J 102 w)
      rw [zsub (by rw [z1]; omega) (by rw [z1]; omega), z1]
    rw [a3] at h1
    unfold zGw
    rw [uI_off (show 3 ≠ 5 by decide), uI_off (show 4 ≠ 5 by decide), uI_off (show 6 ≠ 5 by decide), uI_off (show 7 ≠ 5 by decide), uI_off (show 8 ≠ 5 by decide), uI_off (show 9 ≠ 5 by decide), uI_off (show 10 ≠ 5 by decide), uI_at, uI_at, uI_ne (show 100 ≠ 102 by decide), uI_ne (show 101 ≠ 102 by decide), uI_ne (show 103 ≠ 102 by decide), uI_ne (show 104 ≠ 102 by decide), uI_ne (show 105 ≠ 102 by decide), uI_ne (show 106 ≠ 102 by decide), a3]
    refine ⟨a1, a2, rfl, a4, a5, a6, a7, a8, ?_, a10⟩
    rcases a9 with ⟨b1, b2⟩ | ⟨b1, b2, b3⟩ | ⟨b1, b2, b3⟩
    · rw [b2, z0] at h1
      omega
    · exact Or.inr (Or.inl ⟨b1, by omega, by omega⟩)
    · exact Or.inr (Or.inr ⟨b1, by omega, by omega⟩)
  · rw [uI_ne (Ne.symm (m6 h hh)), ztks_eq h (by rw [uI_ne (by decide)]) (by rw [uI_ne (by decide)])]
    exact g5 h hh
theorem zT2 (hX : zCx n kd A s) (hG : zG n kd R L s t A I J c tm) (hw : w < 5) (hgo : zgo J w) (h2 : J 101 w ≠ 2) {I' J' : zMI} (hI : I' = uI (uI (uI I (A w) 5 0) (A w) 4 1) (A w) 7 (I (A w) 7 + 1)) (hJ : J' = uI (uI (uI J 102 w 0) 101 w 1) 105 w (J 105 w + 1)) : zG n kd R L s t A I' J' c tm ∧ zDx (A w) s I I' ∧ zEx w J J' := by
  obtain ⟨m1, m2, m3, m4, m5, m6⟩ := zG_me hX hG hw hgo
  obtain ⟨g1, g2, g3, g4, g5, g6⟩ := hG
  have hD : zDx (A w) s I I' := by rw [hI]; exact zDx_tr (zDx_tr (zDx_a (by decide)) (zDx_a (by decide))) (zDx_a (by decide))
  have hE : zEx w J J' := by rw [hJ]; exact zEx_tr (zEx_tr (zEx_w (by decide) (by decide)) (zEx_w (by decide) (by decide))) (zEx_w (by decide) (by decide))
  have In : ∀ b, b ≠ A w → I' b = I b := fun b hb => by rw [hI, uI_ne hb, uI_ne hb, uI_ne hb]
  have Jn : ∀ b, b ≠ 102 → b ≠ 101 → b ≠ 105 → J' b = J b := fun b x y z => by rw [hJ, uI_ne z, uI_ne y, uI_ne x]
  have n12 : ¬ (1 : Int32) = 2 := by decide
  refine ⟨⟨zGl_eq g1 m3 hD hE, zGo_eq g2 hE, zGa_other hX.1 g3 hX.2.1 hX.2.2.1 hX.2.2.2.1 hw hgo hD hE ?_, fun h hh => zGh_eq (g4 h hh) (fun j _ => by rw [In _ (Ne.symm (m6 h hh))]) (by rw [Jn 107 (by decide) (by decide) (by decide)]) (by rw [Jn 83 (by decide) (by decide) (by decide)]) (by rw [Jn 108 (by decide) (by decide) (by decide)]) (by rw [Jn 109 (by decide) (by decide) (by decide)]) (by rw [Jn 81 (by decide) (by decide) (by decide)]), fun h hh => ?_, zGp_eq g6 (Int.le_refl _) (fun j _ => by rw [In 42 (by omega)]) (In 45 (by omega)) (Jn 81 (by decide) (by decide) (by decide)) (Jn 103 (by decide) (by decide) (by decide)) (Jn 110 (by decide) (by decide) (by decide))⟩, hD, hE⟩
  · obtain ⟨a1, a2, a3, a4, a5, a6, a7, a8, a9, a10⟩ := m2
    have i3 : ∀ j, j ≠ 4 → j ≠ 5 → j ≠ 7 → I' (A w) j = I (A w) j := fun j x y z => by rw [hI, uI_off z, uI_off x, uI_off y]
    have i4 : I' (A w) 4 = 1 := by rw [hI, uI_off (by decide), uI_at]
    have i5 : I' (A w) 5 = 0 := by rw [hI, uI_off (by decide), uI_off (by decide), uI_at]
    have i7 : I' (A w) 7 = I (A w) 7 + 1 := by rw [hI, uI_at]
    have j1 : J' 101 w = 1 := by rw [hJ, uI_ne (by decide), uI_at]
    have j2 : J' 102 w = 0 := by rw [hJ, uI_ne (by decide), uI_ne (by decide), uI_at]
    have j5 : J' 105 w = J 105 w + 1 := by rw [hJ, uI_at]
    unfold zGw
    rw [i3 3 (by decide) (by decide) (by decide), i3 6 (by decide) (by decide) (by decide), i3 8 (by decide) (by decide) (by decide), i3 9 (by decide) (by decide) (by decide), i3 10 (by decide) (by decide) (by decide), i4, i5, i7, j1, j2, j5, Jn 100 (by decide) (by decide) (by decide), Jn 103 (by decide) (by decide) (by decide), Jn 104 (by decide) (by decide) (by decide), Jn 106 (by decide) (by decide) (by decide), a5]
    exact ⟨a1, rfl, rfl, a4, rfl, a6, a7, a8, Or.inl ⟨rfl, rfl⟩, a10⟩
  · rw [In _ (Ne.symm (m6 h hh)), g5 h hh, ztks_up hw (J := J) (J' := J') (fun w' hw' => by
      unfold ztk
      rw [hE.2 101 w' (by decide) (by decide) hw', hE.2 100 w' (by decide) (by decide) hw'])]
    have e1 : ztk J h w = 0 := by
      unfold ztk
      rw [if_neg (fun q => h2 q.1)]
    have e2 : ztk J' h w = 0 := by
      unfold ztk
      rw [if_neg]
      intro q
      have := q.1
      rw [hJ, uI_ne (by decide), uI_at] at this
      exact n12 this
    omega
/-- he begins to take at the heap where he is -/
theorem zT3 (hX : zCx n kd A s) (hG : zG n kd R L s t A I J c tm) (hw : w < 5) (hgo : zgo J w) (h2 : J 101 w ≠ 2) {h : Nat} (hh : h < 9) (eh : (J 100 w).toInt = (h : Int)) {I4 K3 I' J' : zMI} {v : Int32} (hv : 1 ≤ v.toInt ∧ v.toInt ≤ 40) (h4 : ∀ b, b ≠ s → b ≠ s + 1 → I4 b = uI (uI I (A w) 5 0) (A w) 4 2 b) (h3 : ∀ b, b ≠ 97 → b ≠ 98 → K3 b = uI (uI (uI J 102 w 0) 101 w 1) 101 w 2 b)
    (hI : I' = uI (uI I4 (A w) 5 v) (46 + h) 4 (I4 (46 + h) 4 + 1)) (hJ : J' = uI K3 102 w v) (hsb : ∀ h, h < 9 → 46 + h ≠ s ∧ 46 + h ≠ s + 1) : zG n kd R L s t A I' J' c tm ∧ zDx (A w) s I I' ∧ zEx w J J' := by
  obtain ⟨m1, m2, m3, m4, m5, m6⟩ := zG_me hX hG hw hgo
  obtain ⟨g1, g2, g3, g4, g5, g6⟩ := hG
  have hD : zDx (A w) s I I' := by
    rw [hI]
    exact zDx_tr (zDx_tr (zDx_tr (zDx_tr (zDx_a (by decide)) (zDx_a (by decide))) (zDx_s h4)) (zDx_a (by decide))) (zDx_h hh (by decide) (by decide))
  have hE : zEx w J J' := by
    rw [hJ]
    exact zEx_tr (zEx_tr (zEx_tr (zEx_tr (zEx_w (by decide) (by decide)) (zEx_w (by decide) (by decide))) (zEx_w (by decide) (by decide))) (zEx_s h3)) (zEx_w (by decide) (by decide))
  have mh := m6 h hh
  have In : ∀ b, b ≠ A w → b ≠ 46 + h → b ≠ s → b ≠ s + 1 → I' b = I b := fun b x1 x2 x3 x4 => by rw [hI, uI_ne x2, uI_ne x1, h4 b x3 x4, uI_ne x1, uI_ne x1]
  have Jn : ∀ b, b ≠ 102 → b ≠ 101 → b ≠ 97 → b ≠ 98 → J' b = J b := fun b x y z1 z2 => by rw [hJ, uI_ne x, h3 b z1 z2, uI_ne y, uI_ne y, uI_ne x]
  have hIh : ∀ j, j ≠ 4 → I' (46 + h) j = I (46 + h) j := fun j hj => by rw [hI, uI_off hj, uI_ne (Ne.symm mh), h4 _ (hsb h hh).1 (hsb h hh).2, uI_ne (Ne.symm mh), uI_ne (Ne.symm mh)]
  have hIh4 : I' (46 + h) 4 = I (46 + h) 4 + 1 := by rw [hI, uI_at, h4 _ (hsb h hh).1 (hsb h hh).2, uI_ne (Ne.symm mh), uI_ne (Ne.symm mh)]
  have s42 : (42 ≠ s ∧ 42 ≠ s + 1) ∧ (45 ≠ s ∧ 45 ≠ s + 1) := by have := hX.2.1; omega
  refine ⟨⟨zGl_eq g1 m3 hD hE, zGo_eq g2 hE, zGa_other hX.1 g3 hX.2.1 hX.2.2.1 hX.2.2.2.1 hw hgo hD hE ?_, fun h' hh' => zGh_eq (g4 h' hh') (fun j hj => ?_) (by rw [Jn 107 (by decide) (by decide) (by decide) (by decide)]) (by rw [Jn 83 (by decide) (by decide) (by decide) (by decide)]) (by rw [Jn 108 (by decide) (by decide) (by decide) (by decide)]) (by rw [Jn 109 (by decide) (by decide) (by decide) (by decide)]) (by rw [Jn 81 (by decide) (by decide) (by decide) (by decide)]), fun h' hh' => ?_, zGp_eq g6 (Int.le_refl _) (fun j _ => by rw [In 42 (by omega) (by omega) s42.1.1 s42.1.2]) (In 45 (by omega) (by omega) s42.2.1 s42.2.2) (Jn 81 (by decide) (by decide) (by decide) (by decide)) (Jn 103 (by decide) (by decide) (by decide) (by decide)) (Jn 110 (by decide) (by decide) (by decide) (by decide))⟩, hD, hE⟩
  · obtain ⟨a1, a2, a3, a4, a5, a6, a7, a8, a9, a10⟩ := m2
    have i3 : ∀ j, j ≠ 4 → j ≠ 5 → I' (A w) j = I (A w) j := fun j x y => by rw [hI, uI_ne mh, uI_off y, h4 _ m4 m5, uI_off x, uI_off y]
    have i4 : I' (A w) 4 = 2 := by rw [hI, uI_ne mh, uI_off (by decide), h4 _ m4 m5, uI_at]
    have i5 : I' (A w) 5 = v := by rw [hI, uI_ne mh, uI_at]
    have j1 : J' 101 w = 2 := by rw [hJ, uI_ne (by decide), h3 _ (by decide) (by decide), uI_at]
    have j2 : J' 102 w = v := by rw [hJ, uI_at]
    unfold zGw
    rw [i3 3 (by decide) (by decide), i3 6 (by decide) (by decide), i3 7 (by decide) (by decide), i3 8 (by decide) (by decide), i3 9 (by decide) (by decide), i3 10 (by decide) (by decide), i4, i5, j1, j2, Jn 100 (by decide) (by decide) (by decide) (by decide), Jn 103 (by decide) (by decide) (by decide) (by decide), Jn 104 (by decide) (by decide) (by decide) (by decide), Jn 105 (by decide) (by decide) (by decide) (by decide), Jn 106 (by decide) (by decide) (by decide) (by decide)]
    exact ⟨a1, rfl, rfl, a4, a5, a6, a7, a8, Or.inr (Or.inr ⟨rfl, hv⟩), a10⟩
  · by_cases e : h' = h
    · rw [e]
      exact hIh j hj
    · rw [In _ (Ne.symm (m6 h' hh')) (by omega) (hsb h' hh').1 (hsb h' hh').2]
  · rw [ztks_up hw (J := J) (J' := J') (fun w' hw' => by
      unfold ztk
      rw [hE.2 101 w' (by decide) (by decide) hw', hE.2 100 w' (by decide) (by decide) hw'])]
    have e1 : ztk J h' w = 0 := by
      unfold ztk
      rw [if_neg (fun q => h2 q.1)]
    have j1 : J' 101 w = 2 := by rw [hJ, uI_ne (by decide), h3 _ (by decide) (by decide), uI_at]
    have j0 : J' 100 w = J 100 w := by rw [Jn 100 (by decide) (by decide) (by decide) (by decide)]
    have r := ztks_05 J h'
    have gk := g5 h' hh'
    by_cases e : h' = h
    · subst e
      have e2 : ztk J' h' w = 1 := by
        unfold ztk
        rw [if_pos ⟨j1, by rw [j0]; exact eh⟩]
      rw [hIh4, zadd (by rw [z1]; omega) (by rw [z1]; omega), z1, gk]
      omega
    · have e2 : ztk J' h' w = 0 := by
        unfold ztk
        rw [if_neg]
        intro q
        rw [j0] at q
        omega
      rw [In _ (Ne.symm (m6 h' hh')) (by omega) (hsb h' hh').1 (hsb h' hh').2, gk]
      omega
end
