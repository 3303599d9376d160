/-! pure part: one more sheet is held -/
theorem zcnz_mono (f : Nat → Int32) : ∀ (d p : Nat), zcnz f p ≤ zcnz f (p + d)
  | 0, _ => Nat.le_refl _
  | d + 1, p => by
    have h := zcnz_mono f d p
    have e : zcnz f (p + (d + 1)) = zcnz f (p + d) + if f (p + d) = 0 then 0 else 1 := rfl
    rw [e]
    omega
theorem zsum_up {f g : Nat → Int32} {w : Nat} (hw : w < 5) (e : ∀ w', w' ≠ w → g w' = f w') : (g 0).toInt + (g 1).toInt + (g 2).toInt + (g 3).toInt + (g 4).toInt = (f 0).toInt + (f 1).toInt + (f 2).toInt + (f 3).toInt + (f 4).toInt - (f w).toInt + (g w).toInt := by
  rcases (show w = 0 ∨ w = 1 ∨ w = 2 ∨ w = 3 ∨ w = 4 by omega) with rfl | rfl | rfl | rfl | rfl
  · rw [e 1 (by decide), e 2 (by decide), e 3 (by decide), e 4 (by decide)]; omega
  · rw [e 0 (by decide), e 2 (by decide), e 3 (by decide), e 4 (by decide)]; omega
  · rw [e 0 (by decide), e 1 (by decide), e 3 (by decide), e 4 (by decide)]; omega
  · rw [e 0 (by decide), e 1 (by decide), e 2 (by decide), e 4 (by decide)]; omega
  · rw [e 0 (by decide), e 1 (by decide), e 2 (by decide), e 3 (by decide)]; omega
def zP2 (n : Nat) (kd : zMK) (A : Nat → Nat) (s w h : Nat) (I J I3 J3 : zMI) (c tm : Int) : Prop := zDx (A w) s I I3 ∧ zEx w J J3 ∧ (I3 (A w) 3 = I (A w) 3 ∧ I3 (A w) 6 = J3 104 w ∧ I3 (A w) 7 = J3 105 w ∧ I3 (A w) 8 = J3 103 w) ∧ (0 ≤ (J3 103 w).toInt ∧ (J3 103 w).toInt ≤ 8) ∧ zsrt I3 J3 (A w) w ∧ J3 100 = J 100 ∧ J3 101 = J 101 ∧ (∀ h', h' < 9 → zGhq I3 J3 h') ∧ (∀ h', h' < 9 → h' ≠ h → I3 (46 + h') 4 = I (46 + h') 4) ∧ I3 (46 + h) 4 = I (46 + h) 4 - 1 ∧ zGp I3 J3 c tm ∧ (J3 81 48 = J 81 48 ∨ (J 81 48 = -1 ∧ J3 81 48 = I 42 5)) ∧ zmi J J3
section
variable {n : Nat} {kd : zMK} {R : zMR} {L s t w : Nat} {A : Nat → Nat} {I J : zMI} {c tm : Int}
theorem zG_has (hG : zG n kd R L s t A I J c tm) : ∀ w', w' < 5 → 0 ≤ (J 103 w').toInt ∧ (J 103 w').toInt ≤ 8 := fun w' hw' => by
  obtain ⟨g1, g2⟩ := hG.2.2.1 w' hw'
  by_cases q : zgo J w'
  · exact (g1 q).2.2.2.2.2.2.2.2.2.2
  · rw [(g2 q).2, z0]
    omega
theorem zL2 (hX : zCx n kd A s) (hG : zG n kd R L s t A I J c tm) (hw : w < 5) (hgo : zgo J w) {h : Nat} (hh : h < 9) {wi t32 : Int32} (ew : wi.toInt = (w : Int)) (et : I 42 5 = t32) (ht0 : 0 ≤ tm) (hc : c ≤ 3590) {I1 J1 : zMI} (hP : zP1 n kd A s w h I J I1 J1) :
    ∃ I3 J3, f0_endTaking_B42 n kd R (A w) (46 + h) I1 = f0_endTaking_B66 n kd R (A w) (46 + h) I3 ∧ (if J1 103 w = (9 : Int32) then f12_makes wi t32 J1 else some J1) = some J3 ∧ zP2 n kd A s w h I J I3 J3 (c + 1) tm := by
  obtain ⟨m1, m2, m3, m4, m5, m6⟩ := zG_me hX hG hw hgo
  have has := zG_has hG
  obtain ⟨g1, g2, g3, g4, g5, g6⟩ := hG
  obtain ⟨p1, p2, p3, p4, p5, p6, p7, p8, p9, p10, p11, p12, p13, p14, p15, p16, p17, p18⟩ := hP
  obtain ⟨a1, a2, a3, a4, a5, a6, a7, a8, a9, a10⟩ := m2
  obtain ⟨q1, q2, q3, q4, q5, q6, q7, q8, q9, q10, q11⟩ := g6
  have e1 : (J 103 w + 1).toInt = (J 103 w).toInt + 1 := by rw [zadd (by rw [z1]; omega) (by rw [z1]; omega), z1]
  have ha42 : (42 : Nat) ≠ A w := by omega
  have ha45 : (45 : Nat) ≠ A w := by omega
  have su := zsum_up (f := J 103) (g := J1 103) hw (fun w' hw' => p2.2 103 w' (by decide) (by decide) hw')
  rw [p5, e1] at su
  have P0 := has 0 (by decide)
  have P1 := has 1 (by decide)
  have P2 := has 2 (by decide)
  have P3 := has 3 (by decide)
  have P4 := has 4 (by decide)
  have hP : (J 81 47).toInt < 400 := by omega
  have F : f0_endTaking_B42 n kd R (A w) (46 + h) I1 = if (J1 103 w) = (9 : Int32) then zb (f0_endProgramme n kd (A w) (uI I1 (A w) 8 (J1 103 w))) fun p14 => f0_endTaking_B66 n kd R (A w) (46 + h) p14 else f0_endTaking_B66 n kd R (A w) (46 + h) (uI I1 (A w) 8 (J1 103 w)) := by
    unfold f0_endTaking_B42
    rw [if_pos m1.1, p3 8 (by decide) (by decide) (by decide), a6, ← p5, zl_eq, uI_at]
  have J147 : J1 81 47 = J 81 47 := p15 47 (by decide)
  have J148 : J1 81 48 = J 81 48 := p15 48 (by decide)
  have J12 : J1 81 2 = J 81 2 := p15 2 (by decide)
  obtain ⟨K, hK⟩ : ∃ K, uI I1 (A w) 8 (J1 103 w) = K := ⟨_, rfl⟩
  rw [hK] at F
  have K_ne : ∀ b, b ≠ A w → K b = I1 b := fun b hb => by rw [← hK, uI_ne hb]
  have Ka : ∀ j, j ≠ 8 → K (A w) j = I1 (A w) j := fun j hj => by rw [← hK, uI_off hj]
  have K8 : K (A w) 8 = J1 103 w := by rw [← hK, uI_at]
  have K42 : K 42 = I 42 := by rw [K_ne _ ha42, p13]
  have K45 : K 45 = I 45 := by rw [K_ne _ ha45, p14]
  have KD : zDx (A w) s I K := by rw [← hK]; exact zDx_tr p1 (zDx_a (by decide))
  have Kh : ∀ h', h' < 9 → K (46 + h') = I1 (46 + h') := fun h' x => K_ne _ (Ne.symm (m6 h' x))
  by_cases c9 : J1 103 w = 9
  · rw [if_pos c9] at F
    have h8 : (J 103 w).toInt = 8 := by
      rw [p5, zeq_iff, e1, z9] at c9
      omega
    have srt : (J1 106 w = 0 ∧ K (A w) 9 = 0 ∧ K (A w) 10 = 0) ∨ (J1 106 w = 1 ∧ K (A w) 9 = 1 ∧ K (A w) 10 = 0) ∨ (J1 106 w = 2 ∧ K (A w) 10 = 1) := by
      rw [Ka 9 (by decide), Ka 10 (by decide)]
      exact p4
    obtain ⟨I3, r1, r2, r3, r4, r5, r6, r7, r8, r9, r10, r11⟩ := g0_endP (so := J1 106 w) m1.1 m3.1 srt (by rw [K42]; omega)
    rw [K42] at r5 r6 r7 r8 r9 r10 r11
    rw [K45] at r11
    have M := g12_makes (J := J1) (t := t32) hw ew (by rw [J147]; exact ⟨q4.1, hP⟩)
    obtain ⟨J3, hJ3⟩ : ∃ J3, uI (uI (uI (uI (uI (uI J1 110 (J1 81 47).toInt.toNat (J1 106 w)) 81 47 (J1 81 47 + 1)) 81 48 (if J1 81 47 + 1 = J1 81 2 then t32 else J1 81 48)) 104 w (J1 104 w + 1)) 103 w 0) 106 w 0 = J3 := ⟨_, rfl⟩
    rw [hJ3] at M
    have Jn : ∀ b, b ≠ 110 → b ≠ 81 → b ≠ 104 → b ≠ 103 → b ≠ 106 → J3 b = J1 b := fun b x1 x2 x3 x4 x5 => by rw [← hJ3, uI_ne x5, uI_ne x4, uI_ne x3, uI_ne x2, uI_ne x2, uI_ne x1]
    have J3_103 : J3 103 w = 0 := by rw [← hJ3, uI_ne (by decide), uI_at]
    have J3_106 : J3 106 w = 0 := by rw [← hJ3, uI_at]
    have J3_104 : J3 104 w = J1 104 w + 1 := by rw [← hJ3, uI_ne (by decide), uI_ne (by decide), uI_at]
    have J3_110 : ∀ k, J3 110 k = if k = (J 81 47).toInt.toNat then J1 106 w else J 110 k := fun k => by
      rw [← hJ3, uI_ne (by decide), uI_ne (by decide), uI_ne (by decide), uI_ne (by decide), uI_ne (by decide), J147]
      by_cases q : k = (J 81 47).toInt.toNat
      · rw [if_pos q, q, uI_at]
      · rw [if_neg q, uI_off q, p17]
    have J3_47 : J3 81 47 = J 81 47 + 1 := by rw [← hJ3, uI_ne (by decide), uI_ne (by decide), uI_ne (by decide), uI_off (by decide), uI_at, J147]
    have J3_48 : J3 81 48 = if J 81 47 + 1 = J 81 2 then t32 else J 81 48 := by rw [← hJ3, uI_ne (by decide), uI_ne (by decide), uI_ne (by decide), uI_at, J147, J148, J12]
    have J3_81 : ∀ j, j ≠ 47 → j ≠ 48 → J3 81 j = J1 81 j := fun j x1 x2 => by rw [← hJ3, uI_ne (by decide), uI_ne (by decide), uI_ne (by decide), uI_off x2, uI_off x1, uI_ne (by decide)]
    have J3E : zEx w J J3 := by
      rw [← hJ3]
      exact zEx_tr p2 (zEx_tr (zEx_tr (zEx_tr (zEx_tr (zEx_tr (zEx_r (by decide) (by decide)) (zEx_81 (by decide))) (zEx_81 (by decide))) (zEx_w (by decide) (by decide))) (zEx_w (by decide) (by decide))) (zEx_w (by decide) (by decide)))
    have I3D : zDx (A w) s I I3 := fun b j x1 x2 x3 x4 x5 x6 => by
      by_cases y1 : b = A w
      · subst y1
        rw [r3 j (by omega) (by omega) (by omega) (by omega)]
        exact KD _ j x1 x2 x3 x4 x5 x6
      · by_cases y2 : b = 42
        · subst y2
          exact r5 j (by omega)
        · rw [r2 b y1 y2 x3]
          exact KD b j x1 x2 x3 x4 x5 x6
    have eP : (J 81 47 + 1).toInt = (J 81 47).toInt + 1 := by rw [zadd (by rw [z1]; omega) (by rw [z1]; omega), z1]
    have nP : (J 81 47 + 1).toInt.toNat = (J 81 47).toInt.toNat + 1 := by omega
    have Ih : ∀ h', h' < 9 → I3 (46 + h') = I1 (46 + h') := fun h' x => by rw [r2 _ (Ne.symm (m6 h' x)) (by omega) (by omega), Kh h' x]
    have zc : ∀ v, zcnt (J3 110) v ((J 81 47).toInt.toNat + 1) = zcnt (J 110) v (J 81 47).toInt.toNat + if J1 106 w = v then 1 else 0 := fun v => by
      show zcnt (J3 110) v (J 81 47).toInt.toNat + (if J3 110 (J 81 47).toInt.toNat = v then 1 else 0) = _
      rw [zcnt_eq v (f := J 110) (g := J3 110) _ (fun k hk => by rw [J3_110, if_neg (by omega)]), J3_110, if_pos rfl]
    have zz : ∀ k, k ≤ (J 81 47).toInt.toNat → zcnz (J3 110) k = zcnz (J 110) k := fun k hk => zcnz_eq k (fun i hi => by rw [J3_110, if_neg (by omega)])
    have zzP : zcnz (J3 110) ((J 81 47).toInt.toNat + 1) = zcnz (J 110) (J 81 47).toInt.toNat + if J1 106 w = 0 then 0 else 1 := by
      show zcnz (J3 110) (J 81 47).toInt.toNat + (if J3 110 (J 81 47).toInt.toNat = 0 then 0 else 1) = _
      rw [zz _ (Nat.le_refl _), J3_110, if_pos rfl]
    have cl1 := zcnt_le (J 110) 1 (J 81 47).toInt.toNat
    have cl2 := zcnt_le (J 110) 2 (J 81 47).toInt.toNat
    have so : J1 106 w = 0 ∨ J1 106 w = 1 ∨ J1 106 w = 2 := by
      rcases p4 with x | x | x
      · exact Or.inl x.1
      · exact Or.inr (Or.inl x.1)
      · exact Or.inr (Or.inr x.1)
    refine ⟨I3, J3, ?_, ?_, I3D, J3E, ⟨?_, ?_, ?_, ?_⟩, ?_, ?_, ?_, ?_, fun h' hh' => ?_, fun h' x1 x2 => ?_, ?_, ?_, ?_, fun h' hb => by rw [J3_81 45 (by decide) (by decide)]; exact p18 h' hb⟩
    · rw [F, r1, zb_some]
    · rw [if_pos c9, M]
    · rw [r3 3 (by decide) (by decide) (by decide) (by decide), Ka 3 (by decide), p3 3 (by decide) (by decide) (by decide)]
    · rw [r4.1, Ka 6 (by decide), p3 6 (by decide) (by decide) (by decide), J3_104, p8, a4]
    · rw [r3 7 (by decide) (by decide) (by decide) (by decide), Ka 7 (by decide), p3 7 (by decide) (by decide) (by decide), Jn 105 (by decide) (by decide) (by decide) (by decide) (by decide), p9, a5]
    · rw [r4.2.1, J3_103]
    · rw [J3_103, z0]
      omega
    · exact Or.inl ⟨J3_106, r4.2.2.1, r4.2.2.2⟩
    · rw [Jn 100 (by decide) (by decide) (by decide) (by decide) (by decide), p6]
    · rw [Jn 101 (by decide) (by decide) (by decide) (by decide) (by decide), p7]
    · have gh := p10 h' hh'
      unfold zGhq at gh ⊢
      rw [Ih h' hh', Jn 107 (by decide) (by decide) (by decide) (by decide) (by decide), Jn 83 (by decide) (by decide) (by decide) (by decide) (by decide), Jn 108 (by decide) (by decide) (by decide) (by decide) (by decide), Jn 109 (by decide) (by decide) (by decide) (by decide) (by decide), J3_81 45 (by decide) (by decide)]
      exact gh
    · rw [Ih h' x1, p11 h' x1 x2]
    · rw [Ih h hh, p12]
    · have su3 := zsum_up (f := J1 103) (g := J3 103) hw (fun w' hw' => by rw [← hJ3, uI_ne (by decide), uI_off hw', uI_ne (by decide), uI_ne (by decide), uI_ne (by decide), uI_ne (by decide)])
      rw [J3_103, z0, p5, e1] at su3
      unfold zGp
      rw [J3_47, J3_48, J3_81 2 (by decide) (by decide), J12, J3_81 45 (by decide) (by decide), r5 5 (by decide), r6, r7, r8, r9, r10, nP, zc, zc, zzP, eP]
      refine ⟨q1, by rw [q2], ?_, ⟨by omega, by omega⟩, ?_, ?_, ?_, fun k hk hn hz => ?_, fun k hk => ?_, ?_, p16⟩
      · rw [q2, g1.2.2.2.2.2.1, et, q3]
      · by_cases x : J1 106 w = 1
        · rw [if_pos x, if_pos x, zadd (by rw [z1]; omega) (by rw [z1]; omega), z1]
          omega
        · rw [if_neg x, if_neg x]
          omega
      · by_cases x : J1 106 w = 2
        · rw [if_pos x, if_pos x, zadd (by rw [z1]; omega) (by rw [z1]; omega), z1]
          omega
        · rw [if_neg x, if_neg x]
          omega
      · by_cases x : J1 106 w = 0
        · rw [if_pos x, if_neg (fun y => y.1 x)]
          omega
        · rw [if_neg x]
          by_cases y : (I 42 8).toInt < 40
          · rw [if_pos ⟨x, y⟩, zadd (by rw [z1]; omega) (by rw [z1]; omega), z1]
            omega
          · rw [if_neg (fun y' => y y'.2)]
            omega
      · rw [J3_110] at hn
        by_cases x : k = (J 81 47).toInt.toNat
        · rw [if_pos x] at hn
          subst x
          rw [zz _ (Nat.le_refl _)] at hz ⊢
          rw [r11, if_pos ⟨hn, by omega, by omega⟩, q2]
          omega
        · rw [if_neg x] at hn
          rw [zz k (by omega)] at hz ⊢
          have mono := zcnz_mono (J 110) ((J 81 47).toInt.toNat - (k + 1)) (k + 1)
          rw [show k + 1 + ((J 81 47).toInt.toNat - (k + 1)) = (J 81 47).toInt.toNat by omega] at mono
          have stp : zcnz (J 110) (k + 1) = zcnz (J 110) k + 1 := by
            show zcnz (J 110) k + (if J 110 k = 0 then 0 else 1) = _
            rw [if_neg hn]
          rw [r11, if_neg (by omega)]
          exact q8 k (by omega) hn hz
      · rw [J3_110]
        by_cases x : k = (J 81 47).toInt.toNat
        · rw [if_pos x]
          exact so
        · rw [if_neg x]
          exact q9 k (by omega)
      · by_cases x : J 81 47 + 1 = J 81 2
        · rw [if_pos x]
          have x' := congrArg Int32.toInt x
          rw [eP] at x'
          refine Or.inr ⟨?_, ?_, by omega⟩
          · rw [← et, q1]; exact ht0
          · rw [← et, q1]; exact Int.le_refl _
        · rw [if_neg x]
          rw [zeq_iff, eP] at x
          rcases q10 with ⟨y1, y2⟩ | ⟨y1, y2, y3⟩
          · exact Or.inl ⟨y1, by omega⟩
          · exact Or.inr ⟨y1, y2, by omega⟩
    · rw [J3_48]
      by_cases x : J 81 47 + 1 = J 81 2
      · rw [if_pos x]
        have x' := congrArg Int32.toInt x
        rw [eP] at x'
        rcases q10 with ⟨y1, y2⟩ | ⟨y1, y2, y3⟩
        · exact Or.inr ⟨y1, et.symm⟩
        · exfalso
          omega
      · rw [if_neg x]
        exact Or.inl rfl
  · rw [if_neg c9] at F
    have h8 : (J 103 w).toInt ≤ 7 := by
      rw [p5, zeq_iff, e1, z9] at c9
      omega
    refine ⟨K, J1, F, if_neg c9, KD, p2, ⟨?_, ?_, ?_, K8⟩, ?_, ?_, p6, p7, fun h' hh' => ?_, fun h' x1 x2 => ?_, ?_, ?_, Or.inl J148, p18⟩
    · rw [Ka 3 (by decide), p3 3 (by decide) (by decide) (by decide)]
    · rw [Ka 6 (by decide), p3 6 (by decide) (by decide) (by decide), p8, a4]
    · rw [Ka 7 (by decide), p3 7 (by decide) (by decide) (by decide), p9, a5]
    · rw [p5, e1]
      omega
    · unfold zsrt
      rw [Ka 9 (by decide), Ka 10 (by decide)]
      exact p4
    · have gh := p10 h' hh'
      unfold zGhq at gh ⊢
      rw [Kh h' hh']
      exact gh
    · rw [Kh h' x1, p11 h' x1 x2]
    · rw [Kh h hh, p12]
    · unfold zGp
      rw [K42, K45, J147, J148, J12, p17]
      refine ⟨q1, q2, q3, ⟨q4.1, by omega⟩, q5, q6, q7, q8, q9, q10, p16⟩
end
