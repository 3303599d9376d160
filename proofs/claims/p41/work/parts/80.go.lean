/-! pure part: go, judge answer alike -/
theorem g11_goL {n : Nat} {kd : zMK} {R : zMR} : ∀ (d q : Nat) (i : Int32) (I : zMI), i.toInt + d = 9 → 0 ≤ i.toInt → d < q →
    ∃ J, f11_go_L24 n kd q i I R = some (I 42 9, J, R) ∧ (∀ h, h < 9 → J 33 h = if i.toInt.toNat ≤ h then I (46 + h) 1 else I 33 h) ∧ ∀ b, b ≠ 33 → J b = I b := by
  intro d
  induction d with
  | zero =>
    intro q i I e h0 hq
    obtain ⟨q, rfl⟩ : ∃ p, q = p + 1 := ⟨q - 1, by omega⟩
    refine ⟨I, ?_, fun h hh => by rw [if_neg (by omega)], fun _ _ => rfl⟩
    unfold f11_go_L24
    rw [if_pos (by rw [zle_iff, z9]; omega)]
  | succ d ih =>
    intro q i I e h0 hq
    obtain ⟨q, rfl⟩ : ∃ p, q = p + 1 := ⟨q - 1, by omega⟩
    have e1 := zsucc (N := 9) (i := i) (d := d) (by rw [z9]; omega)
    have ni : i.toNatClampNeg = i.toInt.toNat := zcl_iff i
    have at' := zhpAt (x := i) (h := i.toInt.toNat) (by omega) (by omega)
    have hp := zHp_ok (h := i.toInt.toNat) (by omega)
    obtain ⟨J, j1, j2, j3⟩ := ih q (i + 1) (uI I 33 i.toInt.toNat (I (46 + i.toInt.toNat) 1)) (by omega) (by omega) (by omega)
    rw [uI_ne (show 42 ≠ 33 by decide)] at j1
    refine ⟨J, ?_, fun h hh => ?_, fun b hb => by rw [j3 b hb, uI_ne hb]⟩
    · unfold f11_go_L24
      rw [if_neg (by rw [zle_iff, z9]; omega), at', zb_some, if_pos hp, if_pos (zib_ok h0 (by omega)), ni, zl_eq]
      exact j1
    · rw [j2 h hh, e1, uI_ne (show 46 + h ≠ 33 by omega)]
      by_cases c : h = i.toInt.toNat
      · rw [if_neg (by omega), if_pos (by omega), c, uI_at]
      · rw [uI_off c]
        by_cases c2 : i.toInt.toNat ≤ h
        · rw [if_pos (by omega), if_pos c2]
        · rw [if_neg (by omega), if_neg c2]
theorem g12_goL : ∀ (d q : Nat) (i : Int32) (I : zMI), i.toInt + d = 9 → 0 ≤ i.toInt → d < q →
    ∃ J, f12_go_L17 q i I = some (I 81 47, J) ∧ (∀ h, h < 9 → J 82 h = if i.toInt.toNat ≤ h then I 107 h else I 82 h) ∧ ∀ b, b ≠ 82 → J b = I b := by
  intro d
  induction d with
  | zero =>
    intro q i I e h0 hq
    obtain ⟨q, rfl⟩ : ∃ p, q = p + 1 := ⟨q - 1, by omega⟩
    refine ⟨I, ?_, fun h hh => by rw [if_neg (by omega)], fun _ _ => rfl⟩
    unfold f12_go_L17
    rw [if_pos (by rw [zle_iff, z9]; omega)]
  | succ d ih =>
    intro q i I e h0 hq
    obtain ⟨q, rfl⟩ : ∃ p, q = p + 1 := ⟨q - 1, by omega⟩
    have e1 := zsucc (N := 9) (i := i) (d := d) (by rw [z9]; omega)
    have ni : i.toNatClampNeg = i.toInt.toNat := zcl_iff i
    obtain ⟨J, j1, j2, j3⟩ := ih q (i + 1) (uI I 82 i.toInt.toNat (I 107 i.toInt.toNat)) (by omega) (by omega) (by omega)
    rw [uI_ne (show 81 ≠ 82 by decide)] at j1
    refine ⟨J, ?_, fun h hh => ?_, fun b hb => by rw [j3 b hb, uI_ne hb]⟩
    · unfold f12_go_L17
      rw [if_neg (by rw [zle_iff, z9]; omega), if_pos (zib_ok h0 (by omega)), ni, zl_eq]
      exact j1
    · rw [j2 h hh, e1, uI_ne (show 107 ≠ 82 by decide)]
      by_cases c : h = i.toInt.toNat
      · rw [if_neg (by omega), if_pos (by omega), c, uI_at]
      · rw [uI_off c]
        by_cases c2 : i.toInt.toNat ≤ h
        · rw [if_pos (by omega), if_pos c2]
        · rw [if_neg (by omega), if_neg c2]
theorem g12_plain {sec : Int32} {J J0 J1 M : zMI} (h1 : f12_orders (-1) J = some J0) (h2 : f12_begins J0 = some J1) (h3 : f12_goesFor_L6 zF sec 0 J1 = some M) : f12_goesPlain sec J = some M := by
  unfold f12_goesPlain f12_goesFor
  rw [h1, zb_some, h2, zb_some, h3, zb_some]
theorem g11_plain {n : Nat} {kd : zMK} {I I1 : zMI} {R R1 : zMR} (h : f11_layWithout n kd (-1) I R = some (I1, R1)) : f11_layPlain n kd I R = some (I1, R1) := by
  unfold f11_layPlain
  rw [h, zb_some]
theorem zH13_ok : zH13 (zC zT0) := fun n kd I R sec hC => by
  by_cases cs : 0 ≤ sec.toInt ∧ sec.toInt ≤ 600
  · obtain ⟨L, s, hB⟩ := zC_B0 hC
    have r3 := hB.2.1.2.2.1
    obtain ⟨I1, R1, I2, x1, x2, x3, x4, x5⟩ := zgoW hB (b := 5) (bt := -1) (znone r3.2) cs
    obtain ⟨I3, i1, i2, i3⟩ := g11_goL (n := n) (kd := kd) (R := R1) 9 zF 0 I2 (by rw [z0]; rfl) (by rw [z0]; omega) (by unfold zF; omega)
    have w3 : zFw I I3 := ⟨fun b y1 y2 => by rw [i3 b (by omega), (zFw_X hB x3).1 b y1 y2], fun j hj => by rw [i3 81 (by decide), (zFw_X hB x3).2 j hj]⟩
    obtain ⟨J0, J1, M, y1, y2, y3, y4, y5, -⟩ := x5 I3 (zB0_K hB w3)
    obtain ⟨N, n1, n2, n3⟩ := g12_goL 9 zF 0 M (by rw [z0]; rfl) (by rw [z0]; omega) (by unfold zF; omega)
    -- all but the heights is as it was
    obtain ⟨X, hX⟩ : ∃ X : zMI, X = fun b => if b = 33 then I2 33 else if b = 82 then I2 82 else N b := ⟨_, rfl⟩
    have X_ne : ∀ b, b ≠ 33 → b ≠ 82 → X b = N b := fun b y z => by
      rw [hX]
      dsimp only
      rw [if_neg y, if_neg z]
    have hXM : zFM I2 X := ⟨fun b z1' z2' => by
      by_cases c1 : b = 33
      · rw [hX, c1]; rfl
      · by_cases c2 : b = 82
        · rw [hX, c2]; rfl
        · rw [X_ne b c1 c2, n3 b c2, y5.1 b z1' z2', i3 b c1], fun j hj => by rw [X_ne 81 (by decide) (by decide), n3 81 (by decide), y5.2 j hj, i3 81 (by decide)]⟩
    have hCX := zC_going hC hB zAd_0 x3 hXM x4
    refine ⟨(I2 42 9, I3, R1), ?_, (M 81 47, N), ?_, y4.2.2.2.2.2.2.1, ?_⟩
    · unfold f11_go
      rw [g11_noSeconds, zb_some]
      simp only [zB_0]
      rw [if_pos (not_not_intro cs), g11_plain x1, zb_some, x2, zb_some]
      exact i1
    · unfold f12_go
      rw [g12_areSeconds, zb_some, g12_plain y1 y2 y3, zb_some]
      simp only [zB_0]
      rw [if_neg (not_not_intro cs)]
      exact n1
    · show zC zT0 n kd N R1
      refine zC_heaps zT0_q hCX (fun a z1' z2' z3' z4' => (X_ne a z1' z3').symm) (fun h hh => ?_)
      have gh := y4.2.2.2.1 h hh
      have hx := hCX.2.2.1 h hh
      rw [X_ne 34 (by decide) (by decide), X_ne 83 (by decide) (by decide)] at hx
      have e33 : N 33 h = I2 (46 + h) 1 := by rw [n3 33 (by decide), y5.1 33 (by decide) (by decide), i2 h hh, if_pos (by rw [z0]; omega)]
      have e82 : N 82 h = M 107 h := by rw [n2 h hh, if_pos (by rw [z0]; omega)]
      rw [e33, e82, gh.2.1]
      exact ⟨rfl, gh.2.2.2.2.2.2.1, hx.2.2⟩
  · refine ⟨(-2, I, R), ?_, (-2, I), ?_, rfl, hC⟩
    · unfold f11_go
      rw [g11_noSeconds, zb_some]
      simp only [zB_0]
      rw [if_neg (fun q => q cs)]
    · unfold f12_go
      rw [g12_areSeconds, zb_some]
      simp only [zB_0]
      rw [if_pos cs]
/-- a sheet that tells heights -/
def zstl (I : zMI) (s : Int32) : Int32 := if ¬ (0 ≤ s.toInt ∧ s.toInt ≤ 3) then -2 else if I 91 s.toInt.toNat = -1 then -11 else if I 92 s.toInt.toNat = 9 then 0 else -2
theorem g11_telling {I : zMI} {s : Int32} (hs : zCs I) : f11_refusedTelling I s = some (zstl I s) := by
  unfold f11_refusedTelling zstl
  rw [g11_sheetOf, zb_some]
  by_cases cs : 0 ≤ s.toInt ∧ s.toInt ≤ 3
  · have ns : s.toNatClampNeg = s.toInt.toNat := zcl_iff s
    obtain ⟨t1, t2, -⟩ := hs s.toInt.toNat (by omega)
    have se := zSe_ok (k := s.toInt.toNat) (by omega)
    have mi : f6_missing I (73 + 2 * s.toInt.toNat) = some (zB (I 91 s.toInt.toNat = -1)) := by
      unfold f6_missing
      rw [if_pos se, zl_eq, t1]
      exact if_pos (zB_bB _)
    rw [if_pos cs, zm_some, ns, if_pos se, mi, zb_some, if_neg (not_not_intro cs)]
    simp only [zB_0]
    by_cases c1 : I 91 s.toInt.toNat = -1
    · rw [if_neg (not_not_intro c1), if_pos c1]
    · rw [if_pos c1, if_neg c1, t2, zl_eq]
  · rw [if_neg cs, zm_none, if_pos cs]
theorem g12_telling {I : zMI} {s : Int32} : f12_sheetWrong I s = some (zstl I s) := by
  unfold f12_sheetWrong zstl
  rw [g12_in, zb_some, z0, zn3i]
  simp only [zB_0]
  by_cases cs : 0 ≤ s.toInt ∧ s.toInt ≤ 3
  · have ns : s.toNatClampNeg = s.toInt.toNat := zcl_iff s
    rw [if_neg (not_not_intro cs), if_pos (zib_ok cs.1 (by omega)), ns, if_neg (not_not_intro cs)]
    by_cases c1 : I 91 s.toInt.toNat = -1
    · rw [if_pos c1, if_pos c1]
    · rw [if_neg c1, if_neg c1, zl_eq]
  · rw [if_pos cs, if_pos cs]
theorem zstl_0 {I : zMI} {s : Int32} (h : zstl I s = 0) : 0 ≤ s.toInt ∧ s.toInt ≤ 3 := by
  unfold zstl at h
  by_cases cs : 0 ≤ s.toInt ∧ s.toInt ≤ 3
  · exact cs
  · rw [if_pos cs] at h
    cases h
def zjdg (I : zMI) (s sec : Int32) : Int32 := if zstl I s = 0 then (if 0 ≤ sec.toInt ∧ sec.toInt ≤ 600 then 0 else -7) else zstl I s
theorem g11_judging {I : zMI} {s sec : Int32} (hs : zCs I) : f11_refusedJudging I s sec = some (zjdg I s sec) := by
  unfold f11_refusedJudging zjdg
  rw [g11_telling hs, zb_some]
  by_cases c : zstl I s = 0
  · rw [if_pos c, if_pos c, g11_noSeconds, zb_some]
    simp only [zB_0]
    by_cases c2 : 0 ≤ sec.toInt ∧ sec.toInt ≤ 600
    · rw [if_pos (not_not_intro c2), if_pos c2, c]
    · rw [if_neg (fun q => q c2), if_neg c2]
  · rw [if_neg c, if_neg c]
theorem g12_judging {I : zMI} {s sec : Int32} : f12_timeWrong I s sec = some (zjdg I s sec) := by
  unfold f12_timeWrong zjdg
  rw [g12_telling, zb_some]
  by_cases c : zstl I s = 0
  · rw [if_pos c, if_pos c, g12_areSeconds, zb_some]
    simp only [zB_0]
    by_cases c2 : 0 ≤ sec.toInt ∧ sec.toInt ≤ 600
    · rw [if_neg (not_not_intro c2), if_pos c2]
    · rw [if_pos c2, if_neg c2]
  · rw [if_neg c, if_neg c]
theorem zjdg_0 {I : zMI} {s sec : Int32} (h : zjdg I s sec = 0) : (0 ≤ s.toInt ∧ s.toInt ≤ 3) ∧ (0 ≤ sec.toInt ∧ sec.toInt ≤ 600) := by
  unfold zjdg at h
  by_cases c : zstl I s = 0
  · rw [if_pos c] at h
    refine ⟨zstl_0 c, ?_⟩
    by_cases c2 : 0 ≤ sec.toInt ∧ sec.toInt ≤ 600
    · exact c2
    · rw [if_neg c2] at h
      cases h
  · rw [if_neg c] at h
    exact absurd h c
/-- the first heap that is otherwise -/
theorem zunlikeL {I J : zMI} {s : Int32} (cs : 0 ≤ s.toInt ∧ s.toInt ≤ 3) (hc : ∀ h, h < 9 → I (73 + 2 * s.toInt.toNat + 1) h = J 93 (40 * s.toInt.toNat + h)) (ht : ∀ h, h < 9 → I (46 + h) 1 = J 107 h) : ∀ (d q q' : Nat) (i : Int32), i.toInt + d = 9 → 0 ≤ i.toInt → d < q → d < q' → ∃ v, f11_firstOtherwise_L8 I q (some (73 + 2 * s.toInt.toNat)) i = some v ∧ f12_unlikeNow_L2 J q' s i = some v := by
  intro d
  induction d with
  | zero =>
    intro q q' i e h0 hq hq'
    obtain ⟨q, rfl⟩ : ∃ p, q = p + 1 := ⟨q - 1, by omega⟩
    obtain ⟨q', rfl⟩ : ∃ p, q' = p + 1 := ⟨q' - 1, by omega⟩
    refine ⟨-1, ?_, ?_⟩
    · unfold f11_firstOtherwise_L8
      rw [if_pos (by rw [zle_iff, z9]; omega)]
    · unfold f12_unlikeNow_L2
      rw [if_pos (by rw [zle_iff, z9]; omega)]
  | succ d ih =>
    intro q q' i e h0 hq hq'
    obtain ⟨q, rfl⟩ : ∃ p, q = p + 1 := ⟨q - 1, by omega⟩
    obtain ⟨q', rfl⟩ : ∃ p, q' = p + 1 := ⟨q' - 1, by omega⟩
    have e1 := zsucc (N := 9) (i := i) (d := d) (by rw [z9]; omega)
    have ni : i.toNatClampNeg = i.toInt.toNat := zcl_iff i
    have at' := zhpAt (x := i) (h := i.toInt.toNat) (by omega) (by omega)
    have hp := zHp_ok (h := i.toInt.toNat) (by omega)
    have e40 : ((40 : Int32) * s).toInt = 40 * s.toInt := by rw [zmul (by rw [zn40i]; omega) (by rw [zn40i]; omega), zn40i]
    have ei : ((40 : Int32) * s + i).toInt = 40 * s.toInt + i.toInt := by rw [zadd (by omega) (by omega), e40]
    have en : ((40 : Int32) * s + i).toNatClampNeg = 40 * s.toInt.toNat + i.toInt.toNat := by simp only [zcl_iff, ei]; omega
    have F : f11_firstOtherwise_L8 I (q + 1) (some (73 + 2 * s.toInt.toNat)) i = if J 93 (40 * s.toInt.toNat + i.toInt.toNat) = J 107 i.toInt.toNat then f11_firstOtherwise_L8 I q (some (73 + 2 * s.toInt.toNat)) (i + 1) else some i := by
      rw [f11_firstOtherwise_L8]
      rw [if_neg (by rw [zle_iff, z9]; omega), zm_some, if_pos (zSe_ok (by omega)), if_pos (zib_ok h0 (by omega)), at', zb_some, if_pos hp, ni, hc _ (by omega), ht _ (by omega)]
    have G : f12_unlikeNow_L2 J (q' + 1) s i = if J 93 (40 * s.toInt.toNat + i.toInt.toNat) = J 107 i.toInt.toNat then f12_unlikeNow_L2 J q' s (i + 1) else some i := by
      rw [f12_unlikeNow_L2]
      rw [if_neg (by rw [zle_iff, z9]; omega), if_pos (zib_ok (by omega) (by omega)), if_pos (zib_ok h0 (by omega)), en, ni]
    rw [F, G]
    by_cases c : J 93 (40 * s.toInt.toNat + i.toInt.toNat) = J 107 i.toInt.toNat
    · rw [if_pos c, if_pos c]
      exact ih q q' (i + 1) (by omega) (by omega) (by omega) (by omega)
    · rw [if_neg c, if_neg c]
      exact ⟨i, rfl, rfl⟩
theorem zunlike {I J : zMI} {s : Int32} (cs : 0 ≤ s.toInt ∧ s.toInt ≤ 3) (hc : ∀ h, h < 9 → I (73 + 2 * s.toInt.toNat + 1) h = J 93 (40 * s.toInt.toNat + h)) (ht : ∀ h, h < 9 → I (46 + h) 1 = J 107 h) : ∃ v, f11_firstOtherwise I s = some v ∧ f12_unlikeNow J s = some v := by
  obtain ⟨v, v1, v2⟩ := zunlikeL cs hc ht 9 zF zF 0 (by rw [z0]; rfl) (by rw [z0]; omega) (by unfold zF; omega) (by unfold zF; omega)
  refine ⟨v, ?_, v2⟩
  unfold f11_firstOtherwise
  rw [g11_sheetOf, zb_some, if_pos cs, show s.toNatClampNeg = s.toInt.toNat from zcl_iff s]
  exact v1
theorem zH23_ok : zH23 (zC zT0) := fun n kd I R s sec hC => by
  have hs := hC.2.2.2.2.1
  by_cases c0 : zjdg I s sec = 0
  · obtain ⟨cs, ct⟩ := zjdg_0 c0
    obtain ⟨I1, R1, I2, M, L, s', x1, x2, x3, x4, x5, x6, x7, x8, x9, x10⟩ := zplain hC ct
    have row := zB0_rows x5 x6
    obtain ⟨v, v1, v2⟩ := zunlike (I := I2) (J := M) cs (fun h hh => by
      rw [row (73 + 2 * s.toInt.toNat + 1) (by omega) (by omega) (by omega) (by omega) (by omega) (by omega), x7.1 93 (by decide) (by decide), row 93 (by decide) (by decide) (by decide) (by decide) (by decide) (by decide)]
      have := (hs s.toInt.toNat (by omega)).2.2.2.2 h (by omega)
      rw [show 73 + 2 * s.toInt.toNat + 1 = 74 + 2 * s.toInt.toNat by omega]
      exact this) (fun h hh => (x4.2.2.2.1 h hh).2.1)
    refine ⟨(v, I2, R1), ?_, (v, M), ?_, rfl, x10⟩
    · unfold f11_judge
      rw [g11_judging hs, zb_some, if_pos c0, x1, zb_some, x2, zb_some, v1, zb_some]
    · have e : zjdg I2 s sec = 0 := by
        unfold zjdg zstl at c0 ⊢
        rw [row 91 (by decide) (by decide) (by decide) (by decide) (by decide) (by decide), row 92 (by decide) (by decide) (by decide) (by decide) (by decide) (by decide)]
        exact c0
      unfold f12_judge f12_unlike
      rw [g12_judging, zb_some, if_pos e, x3, zb_some, v2, zb_some, zb_some]
  · refine ⟨(zjdg I s sec, I, R), ?_, (zjdg I s sec, I), ?_, rfl, hC⟩
    · unfold f11_judge
      rw [g11_judging hs, zb_some, if_neg c0]
    · unfold f12_judge
      rw [g12_judging, zb_some, if_neg c0]
