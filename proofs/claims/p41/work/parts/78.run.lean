/-! pure part: run, go answer alike -/
theorem zCx_A {n : Nat} {kd : zMK} {A : Nat → Nat} {s : Nat} (hX : zCx n kd A s) {w : Nat} (hw : w < 5) : A w ≠ s ∧ A w ≠ s + 1 ∧ (A w = 0 ∨ 114 ≤ A w) := by
  obtain ⟨h1, h2, h3, h4, h5⟩ := hX
  rcases h5 w hw with q | ⟨q1, q2⟩
  · omega
  · exact ⟨fun q => q2 (by rw [q]; exact h3), fun q => q2 (by rw [q]; exact h4), Or.inr q1⟩
/-- rows for scratch alone have changed -/
theorem zG_scr {n : Nat} {kd : zMK} {R : zMR} {L s t : Nat} {A : Nat → Nat} {I J I' J' : zMI} {c tm : Int} (hX : zCx n kd A s) (hG : zG n kd R L s t A I J c tm) (hI : ∀ b, b ≠ s → b ≠ s + 1 → I' b = I b) (hJ : ∀ b, b ≠ 97 → b ≠ 98 → J' b = J b) : zG n kd R L s t A I' J' c tm ∧ zFI A s I I' ∧ zFJ J J' := by
  have hs := hX.2.1
  obtain ⟨g1, g2, g3, g4, g5, g6⟩ := hG
  have j81 := hJ 81 (by decide) (by decide)
  have i42 := hI 42 (by omega) (by omega)
  have i45 := hI 45 (by omega) (by omega)
  have ih : ∀ h, h < 9 → I' (46 + h) = I (46 + h) := fun h x => hI _ (by omega) (by omega)
  refine ⟨⟨?_, ?_, fun w hw => ?_, fun h hh => ?_, fun h hh => ?_, ?_⟩, ⟨fun b _ _ _ _ y1 y2 => hI b y1 y2, fun w j hw _ => by rw [hI _ (zCx_A hX hw).1 (zCx_A hX hw).2.1], fun j _ _ => by rw [i42], fun h x => by rw [ih h x]; exact ⟨rfl, rfl⟩⟩, ⟨fun b y1 y2 => hJ b (by omega) (by omega), fun j _ => by rw [j81]⟩⟩
  · obtain ⟨h1, h2, h3, h4, h5, h6, h7, h8⟩ := g1
    unfold zGl
    rw [j81, i42]
    exact ⟨h1, ⟨h2.1, zLx_eq h2.2 (hI _ (by omega) (by omega)) (hI _ (by omega) (by omega)) (hI _ (by omega) (by omega)) (hJ 88 (by decide) (by decide)) (hJ 89 (by decide) (by decide))⟩, h3, h4, h5, h6, h7, h8⟩
  · unfold zGo at g2 ⊢
    rw [j81, hJ 99 (by decide) (by decide)]
    exact g2
  · have ea := hI _ (zCx_A hX hw).1 (zCx_A hX hw).2.1
    have go : zgo J' w ↔ zgo J w := by
      unfold zgo
      rw [j81, hJ 99 (by decide) (by decide)]
    rw [go]
    refine ⟨fun q => ?_, fun q => ?_⟩
    · obtain ⟨r1, r2⟩ := (g3 w hw).1 q
      refine ⟨zwl_eq r1 (by rw [ea]) (by rw [ea]) (hJ 84 (by decide) (by decide)) (hJ 85 (by decide) (by decide)), ?_⟩
      unfold zGw at r2 ⊢
      rw [ea, hJ 100 (by decide) (by decide), hJ 101 (by decide) (by decide), hJ 102 (by decide) (by decide), hJ 103 (by decide) (by decide), hJ 104 (by decide) (by decide), hJ 105 (by decide) (by decide), hJ 106 (by decide) (by decide)]
      exact r2
    · rw [hJ 101 (by decide) (by decide), hJ 103 (by decide) (by decide)]
      exact (g3 w hw).2 q
  · have gh := g4 h hh
    unfold zGhq at gh ⊢
    rw [ih h hh, hJ 107 (by decide) (by decide), hJ 83 (by decide) (by decide), hJ 108 (by decide) (by decide), hJ 109 (by decide) (by decide), j81]
    exact gh
  · rw [ih h hh, ztks_eq h (hJ 100 (by decide) (by decide)) (hJ 101 (by decide) (by decide))]
    exact g5 h hh
  · unfold zGp at g6 ⊢
    rw [i42, i45, j81, hJ 103 (by decide) (by decide), hJ 110 (by decide) (by decide)]
    exact g6
theorem zbadL {n : Nat} {kd : zMK} {R : zMR} {L s t : Nat} {A : Nat → Nat} {c tm : Int} (hX : zCx n kd A s) {cn : Int32} (hc : 0 ≤ cn.toInt ∧ cn.toInt ≤ 5) : ∀ (d q q' : Nat) (l acc : Int32) (I J : zMI), zG n kd R L s t A I J c tm → (J 81 34) = cn → J 81 3 = cn → (∀ k : Nat, (k : Int) < cn.toInt → (J 99 k).toInt = (k : Nat)) → l.toInt + d = cn.toInt → 0 ≤ l.toInt → d < q → d < q' →
    ∃ v I' J', f0_badness_L4 n kd R q acc l I = some (v, I') ∧ f12_waitings_L4 q' acc l J = some (v, J') ∧ zG n kd R L s t A I' J' c tm ∧ zFI A s I I' ∧ zFJ J J' := by
  intro d
  induction d with
  | zero =>
    intro q q' l acc I J hG e34 e3 e99 e h0 hq hq'
    obtain ⟨q, rfl⟩ : ∃ p, q = p + 1 := ⟨q - 1, by omega⟩
    obtain ⟨q', rfl⟩ : ∃ p, q' = p + 1 := ⟨q' - 1, by omega⟩
    refine ⟨acc, I, J, ?_, ?_, hG, zFI_rfl, zFJ_rfl⟩
    · unfold f0_badness_L4
      rw [hG.1.2.2.2.2.2.2.1, e34, if_pos (by rw [zle_iff]; omega)]
    · unfold f12_waitings_L4
      rw [e3, if_pos (by rw [zle_iff]; omega)]
  | succ d ih =>
    intro q q' l acc I J hG e34 e3 e99 e h0 hq hq'
    obtain ⟨q, rfl⟩ : ∃ p, q = p + 1 := ⟨q - 1, by omega⟩
    obtain ⟨q', rfl⟩ : ∃ p, q' = p + 1 := ⟨q' - 1, by omega⟩
    have e1 := zsucc e
    have nl : l.toNatClampNeg = l.toInt.toNat := zcl_iff l
    have hw : l.toInt.toNat < 5 := by omega
    have h99 := e99 l.toInt.toNat (by omega)
    have hgo : zgo J l.toInt.toNat := ⟨l.toInt.toNat, by rw [e34]; omega, h99⟩
    obtain ⟨m1, m2, m3, m4, m5, m6⟩ := zG_me hX hG hw hgo
    have rR := (hG.2.1.2.1 l.toInt.toNat (by rw [e34]; omega)).2.2
    rw [h99, Int.toNat_natCast] at rR
    obtain ⟨l1, l2, l3, l4, l5, l6, l7, l8⟩ := id hG.1
    have g19 := l2.1.1
    have lw : Int32.ofNat l.toInt.toNat = l := zofn h0
    rw [lw] at m1
    obtain ⟨v, I1, J1, u1, u2, u3, u4, -⟩ := zsays (part := 2) (h := 0) (left := 0) (done := J 104 l.toInt.toNat) (many := I 42 3) l2 l3 l4 (by decide) m1.1 m5 ⟨h0, by omega⟩ m1.2.2.2.1 m1.2.2.2.2.1 l5
    obtain ⟨hG1, hF1, hJ1⟩ := zG_scr hX hG u3 u4
    have j81 := u4 81 (by decide) (by decide)
    obtain ⟨v', I', J', w1, w2, w3, w4, w5⟩ := ih q q' (l + 1) (acc + J 105 l.toInt.toNat * v) I1 J1 hG1 (by rw [j81]; exact e34) (by rw [j81]; exact e3) (fun k hk => by rw [u4 99 (by decide) (by decide)]; exact e99 k hk) (by omega) (by omega) (by omega) (by omega)
    refine ⟨v', I', J', ?_, ?_, w3, zFI_tr hF1 w4, zFJ_tr hJ1 w5⟩
    · unfold f0_badness_L4 f0_badness_B62
      rw [l7, e34, if_neg (by rw [zle_iff]; omega), if_neg (by rw [zle_iff, zn5i]; omega), if_pos (zib_ok h0 (by omega)), nl, rR, zm_some, l1, zm_some, if_pos m1.1, if_pos g19, m2.2.2.2.1, m2.2.2.2.2.1, u1, zb_some, zl_eq]
      exact w1
    · unfold f12_waitings_L4
      rw [e3, if_neg (by rw [zle_iff]; omega), if_pos (zib_ok h0 (by omega)), nl, u2, zb_some, zl_eq]
      exact w2
theorem zH10_ok : zH10 (zC zT0) := fun n kd I R sec what hC => by
  by_cases cs : 0 ≤ sec.toInt ∧ sec.toInt ≤ 600
  · by_cases c4 : 0 ≤ what.toInt ∧ what.toInt ≤ 4
    · obtain ⟨I1, R1, I2, M, L, s, x1, x2, x3, x4, x5, x6, x7, x8, x9, x10⟩ := zplain hC cs
      have hP := zG_P x4 (by omega)
      obtain ⟨q1, q2, q3, q4, q5, q6, q7, -⟩ := id x4.2.2.2.2.2
      have F : f11_run n kd sec what I R = if what = (0 : Int32) then some ((I2 42 9), I2, R1) else if what = (1 : Int32) then some ((I2 42 10), I2, R1) else if what = (2 : Int32) then some ((I2 42 11), I2, R1) else if what = (3 : Int32) then zb (f0_badness n kd R1 I2) fun p14 => some (p14.1, p14.2, R1) else some ((I2 42 12), I2, R1) := by
        unfold f11_run
        rw [g11_noSeconds, zb_some]
        simp only [zB_0]
        rw [if_pos (not_not_intro cs), if_neg (by rw [zlt_iff, z0]; omega), if_pos (by rw [zle_iff, zn4i]; omega), x1, zb_some, x2, zb_some]
      have G : f12_run sec what I2 = if what = (0 : Int32) then some ((M 81 47), M) else if (3 : Int32) ≤ what then if what = (3 : Int32) then zb (f12_waitings M) fun p12 => some (p12.1, p12.2) else some ((M 81 48), M) else zb (f12_howMany M what) fun p14 => some (p14, M) := by
        unfold f12_run
        rw [g12_areSeconds, zb_some, g12_in, zb_some, z0, zn4i, x3, zb_some]
        simp only [zB_0]
        rw [if_neg (not_not_intro cs), if_neg (not_not_intro c4)]
      have n3 : ∀ v : Int32, v.toInt < 3 → ¬ (3 : Int32) ≤ v := fun v h => by rw [zle_iff, zn3i]; omega
      by_cases k0 : what = 0
      · exact ⟨(I2 42 9, I2, R1), by rw [F, if_pos k0], (M 81 47, M), by rw [G, if_pos k0], q2, x10⟩
      by_cases k1 : what = 1
      · obtain ⟨y, y1, y2⟩ := g12_howMany (J := M) 1 hP
        refine ⟨(I2 42 10, I2, R1), by rw [F, if_neg k0, if_pos k1], (y, M), ?_, ?_, x10⟩
        · rw [G, if_neg k0, if_neg (n3 what (by rw [k1]; decide)), k1, y1, zb_some]
        · show I2 42 10 = y
          rw [zeq_iff, q5, y2]
      by_cases k2 : what = 2
      · obtain ⟨y, y1, y2⟩ := g12_howMany (J := M) 2 hP
        refine ⟨(I2 42 11, I2, R1), by rw [F, if_neg k0, if_neg k1, if_pos k2], (y, M), ?_, ?_, x10⟩
        · rw [G, if_neg k0, if_neg (n3 what (by rw [k2]; decide)), k2, y1, zb_some]
        · show I2 42 11 = y
          rw [zeq_iff, q6, y2]
      have p3 : (3 : Int32) ≤ what := by
        rw [zeq_iff, z0] at k0
        rw [zeq_iff, z1] at k1
        rw [zeq_iff, z2] at k2
        rw [zle_iff, zn3i]
        omega
      by_cases k3 : what = 3
      · have r3 := x5.2.1.2.2.1
        obtain ⟨ha, hb, hs', hn, hc⟩ := zB0_A x5
        have hLb := (zLo_big x5.2.2.2.2.2.2.2.2.1.1).1
        have e81 : ∀ K : zMI, zFX (zAd (I 81 3).toInt.toNat R) s I K → ∀ b, 81 ≤ b → b ≤ 96 → K b = I b := fun K hK b y1 y2 => hK.1 b (by omega) (by omega) (by omega) (fun w y => by have := hb w y; omega) (by omega) (by omega)
        have base : ∀ K : zMI, zFX (zAd (I 81 3).toInt.toNat R) s I K → zB0 n kd R L s (I 81 12).toInt.toNat (zAd (I 81 3).toInt.toNat R) I K := fun K hK => zB0_keep x5 (I' := I) zFX_rfl ⟨fun b y1 y2 => e81 K hK b (by omega) y2, fun j _ => by rw [e81 K hK 81 (by decide) (by decide)]⟩ (R' := R) (fun _ _ _ => rfl)
        obtain ⟨I1', R1', I2', y1, y2, y3, y4, y5⟩ := zgoW x5 (b := 5) (bt := -1) (znone r3.2) cs
        have y1' : f11_layPlain n kd I R = some (I1', R1') := by
          unfold f11_layPlain
          rw [y1, zb_some]
        rw [x1] at y1'
        cases y1'
        rw [x2] at y2
        cases y2
        have bad : ∀ K : zMI, zFX (zAd (I 81 3).toInt.toNat R) s I K → ∃ J0 J1 M0, f12_orders (-1) K = some J0 ∧ f12_begins J0 = some J1 ∧ f12_goesFor_L6 zF sec 0 J1 = some M0 ∧ zFM K M0 ∧ ∃ v I3 M3, f0_badness n kd R1 I2 = some (v, I3) ∧ f12_waitings M0 = some (v, M3) ∧ zFI (zAd (I 81 3).toInt.toNat R) s I2 I3 ∧ zFJ M0 M3 := fun K hK => by
          obtain ⟨J0, J1, M0, a1, a2, a3, a4, a5, a6, a7, a8⟩ := y5 K (base K hK)
          have k3' : K 81 3 = I 81 3 := by rw [e81 K hK 81 (by decide) (by decide)]
          have m3 : M0 81 3 = I 81 3 := by rw [a5.2 3 (by decide), k3']
          rw [k3'] at a7
          obtain ⟨v, I3, M3, w1, w2, w3, w4, w5⟩ := zbadL x5.1 (cn := I 81 3) r3 (I 81 3).toInt.toNat zF zF 0 0 I2 M0 a4 (by rw [zeq_iff, a7, if_neg (by omega)]; omega) m3 (fun k hk => by
            rw [a8 k (by rw [a7, if_neg (by omega)]; omega)]
            unfold zob
            rw [if_pos (by omega)]) (by rw [z0]; omega) (by rw [z0]; omega) (by unfold zF; omega) (by unfold zF; omega)
          exact ⟨J0, J1, M0, a1, a2, a3, a5, v, I3, M3, w1, w2, w4, w5⟩
        obtain ⟨_, _, _, _, _, _, _, v, I3, _, c1, _, c3, _⟩ := bad I2 x6
        have fx3 := zFX_tr x6 (zFX_I c3)
        obtain ⟨J0, J1, M0, b1, b2, b3, b4, v', I3', M3, d1, d2, d3, d4⟩ := bad I3 fx3
        rw [c1] at d1
        cases d1
        refine ⟨(v, I3, R1), ?_, (v, M3), ?_, rfl, zC_going hC x5 zAd_0 fx3 (zFM_tr b4 (zFM_J d4)) x8⟩
        · rw [F, if_neg k0, if_neg k1, if_neg k2, if_pos k3, c1, zb_some]
        · unfold f12_run f12_goesPlain f12_goesFor
          rw [g12_areSeconds, zb_some, g12_in, zb_some, z0, zn4i, b1, zb_some, b2, zb_some, b3, zb_some, zb_some]
          simp only [zB_0]
          rw [if_neg (not_not_intro cs), if_neg (not_not_intro c4), if_neg k0, if_pos p3, if_pos k3, d2, zb_some]
      · refine ⟨(I2 42 12, I2, R1), ?_, (M 81 48, M), ?_, q3, x10⟩
        · rw [F, if_neg k0, if_neg k1, if_neg k2, if_neg k3]
        · rw [G, if_neg k0, if_pos p3, if_neg k3]
    · refine ⟨(-2, I, R), ?_, (-2, I), ?_, rfl, hC⟩
      · unfold f11_run
        rw [g11_noSeconds, zb_some]
        simp only [zB_0]
        rw [if_pos (not_not_intro cs)]
        by_cases k : what < 0
        · rw [if_pos k]
        · rw [if_neg k, if_neg (by rw [zlt_iff, z0] at k; rw [zle_iff, zn4i]; omega)]
      · unfold f12_run
        rw [g12_areSeconds, zb_some, g12_in, zb_some, z0, zn4i]
        simp only [zB_0]
        rw [if_neg (not_not_intro cs), if_pos c4]
  · refine ⟨(-2, I, R), ?_, (-2, I), ?_, rfl, hC⟩
    · unfold f11_run
      rw [g11_noSeconds, zb_some]
      simp only [zB_0]
      rw [if_neg (fun q => q cs)]
    · unfold f12_run
      rw [g12_areSeconds, zb_some]
      simp only [zB_0]
      rw [if_pos cs]
