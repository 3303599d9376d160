/-! pure part: film answers alike -/
theorem zsh16 : ∀ v, v < 201 → (Int32.ofNat v).toInt16.toInt32 = Int32.ofNat v := by decide +kernel
theorem zsh16' {v : Int32} (h : 0 ≤ v.toInt ∧ v.toInt ≤ 200) : v.toInt16.toInt32 = v := by
  have := zsh16 v.toInt.toNat (by omega)
  rw [zofn h.1] at this
  exact this
theorem g11_filmL {n : Nat} {kd : zMK} {R : zMR} {k : Nat} (hk : k < 4) {I0 : zMI} (h200 : ∀ h, h < 9 → 0 ≤ (I0 (46 + h) 1).toInt ∧ (I0 (46 + h) 1).toInt ≤ 200) : ∀ (d q : Nat) (i : Int32) (I : zMI), i.toInt + d = 9 → 0 ≤ i.toInt → d < q → I (73 + 2 * k) 0 = 1 → I (73 + 2 * k) 1 = 9 → (∀ h, h < 9 → I (46 + h) = I0 (46 + h)) →
    ∃ J, f11_film_L42 n kd q (some (73 + 2 * k)) i I R = some (9, J, R) ∧ (∀ j, J (73 + 2 * k + 1) j = if i.toInt.toNat ≤ j ∧ j < 9 then I0 (46 + j) 1 else I (73 + 2 * k + 1) j) ∧ ∀ b, b ≠ 73 + 2 * k + 1 → J b = I b := by
  intro d
  induction d with
  | zero =>
    intro q i I e h0 hq e0 e1 eh
    obtain ⟨q, rfl⟩ : ∃ p, q = p + 1 := ⟨q - 1, by omega⟩
    refine ⟨I, ?_, fun j => by rw [if_neg (by omega)], fun _ _ => rfl⟩
    unfold f11_film_L42
    rw [if_pos (by rw [zle_iff, z9]; omega)]
  | succ d ih =>
    intro q i I e h0 hq e0 e1 eh
    obtain ⟨q, rfl⟩ : ∃ p, q = p + 1 := ⟨q - 1, by omega⟩
    have es := zsucc (N := 9) (i := i) (d := d) (by rw [z9]; omega)
    have ni : i.toNatClampNeg = i.toInt.toNat := zcl_iff i
    have at' := zhpAt (x := i) (h := i.toInt.toNat) (by omega) (by omega)
    have hp := zHp_ok (h := i.toInt.toNat) (by omega)
    have ne : ∀ h, h < 9 → 46 + h ≠ 73 + 2 * k + 1 := fun h hh => by omega
    have hh := g6_holdsN (I := I) (i := i) (m := 1) hk (by rw [e1, z9]; omega)
    rw [e1, z9, z1] at hh
    have hz : zB (0 ≤ i.toInt ∧ (0 : Int) ≤ 1 ∧ i.toInt + 1 ≤ 9) ≠ 0 := by
      unfold zB
      rw [if_pos ⟨h0, by decide, by omega⟩]
      decide
    have put : f6_put (73 + 2 * k) i (I (46 + i.toInt.toNat) 1) I = some (uI I (73 + 2 * k + 1) i.toInt.toNat (I0 (46 + i.toInt.toNat) 1)) := by
      have v16 := zsh16' (h200 i.toInt.toNat (by omega))
      unfold f6_put
      rw [if_pos (zSe_ok hk), hh, zb_some, if_neg hz, e0, if_neg (by decide), if_pos rfl, zl_eq, if_pos (zib_ok h0 (by omega)), ni, eh _ (by omega), v16, zl_eq]
    obtain ⟨J, j1, j2, j3⟩ := ih q (i + 1) (uI I (73 + 2 * k + 1) i.toInt.toNat (I0 (46 + i.toInt.toNat) 1)) (by omega) (by omega) (by omega) (by rw [uI_ne (by omega)]; exact e0) (by rw [uI_ne (by omega)]; exact e1) (fun h x => by rw [uI_ne (ne h x)]; exact eh h x)
    refine ⟨J, ?_, fun j => ?_, fun b hb => by rw [j3 b hb, uI_ne hb]⟩
    · unfold f11_film_L42
      rw [if_neg (by rw [zle_iff, z9]; omega), at', zb_some, if_pos hp, zm_some, if_pos (zSe_ok hk), put, zb_some]
      exact j1
    · rw [j2 j, es]
      by_cases c : j = i.toInt.toNat
      · rw [if_neg (by omega), if_pos (by omega), c, uI_at]
      · rw [uI_off c]
        by_cases c2 : i.toInt.toNat ≤ j ∧ j < 9
        · rw [if_pos (by omega), if_pos c2]
        · rw [if_neg (by omega), if_neg c2]
theorem g12_filmL {s : Int32} (cs : 0 ≤ s.toInt ∧ s.toInt ≤ 3) {J0 : zMI} : ∀ (d q : Nat) (i : Int32) (I : zMI), i.toInt + d = 40 → 0 ≤ i.toInt → d < q → I 107 = J0 107 →
    ∃ J, f12_film_L41 q s i I = some (9, J) ∧ (∀ j, J 93 j = if 40 * s.toInt.toNat + i.toInt.toNat ≤ j ∧ j < 40 * s.toInt.toNat + 40 then (if j < 40 * s.toInt.toNat + 9 then J0 107 (j - 40 * s.toInt.toNat) else 0) else I 93 j) ∧ ∀ b, b ≠ 93 → J b = I b := by
  have e40 : ((40 : Int32) * s).toInt = 40 * s.toInt := by rw [zmul (by rw [zn40i]; omega) (by rw [zn40i]; omega), zn40i]
  have z8 : (8 : Int32).toInt = 8 := rfl
  intro d
  induction d with
  | zero =>
    intro q i I e h0 hq e7
    obtain ⟨q, rfl⟩ : ∃ p, q = p + 1 := ⟨q - 1, by omega⟩
    refine ⟨I, ?_, fun j => by rw [if_neg (by omega)], fun _ _ => rfl⟩
    unfold f12_film_L41
    rw [if_pos (by rw [zle_iff, zn40i]; omega)]
  | succ d ih =>
    intro q i I e h0 hq e7
    obtain ⟨q, rfl⟩ : ∃ p, q = p + 1 := ⟨q - 1, by omega⟩
    have es := zsucc (N := 40) (i := i) (d := d) (by rw [zn40i]; omega)
    have ni : i.toNatClampNeg = i.toInt.toNat := zcl_iff i
    have ei : ((40 : Int32) * s + i).toInt = 40 * s.toInt + i.toInt := by rw [zadd (by omega) (by omega), e40]
    have en : ((40 : Int32) * s + i).toNatClampNeg = 40 * s.toInt.toNat + i.toInt.toNat := by simp only [zcl_iff, ei]; omega
    have hz : zib ((40 : Int32) * s + i) 160 = true := zib_ok (by omega) (by omega)
    obtain ⟨J, j1, j2, j3⟩ := ih q (i + 1) (uI I 93 (40 * s.toInt.toNat + i.toInt.toNat) (if i.toInt.toNat < 9 then J0 107 i.toInt.toNat else 0)) (by omega) (by omega) (by omega) (by rw [uI_ne (by decide)]; exact e7)
    refine ⟨J, ?_, fun j => ?_, fun b hb => by rw [j3 b hb, uI_ne hb]⟩
    · unfold f12_film_L41 f12_film_B79
      rw [if_neg (by rw [zle_iff, zn40i]; omega)]
      by_cases c : i.toInt < 9
      · have w : f12_within i 0 8 = some i := by
          unfold f12_within
          rw [if_pos (by rw [zle_iff, z0]; omega), if_pos (by rw [zle_iff, z8]; omega), zl_eq]
        rw [if_pos (show i.toInt.toNat < 9 by omega)] at j1
        rw [if_neg (by rw [zle_iff, z9]; omega), w, zb_some, if_pos (zib_ok h0 (by omega)), if_pos hz, en, ni, e7, zl_eq]
        exact j1
      · rw [if_neg (show ¬ i.toInt.toNat < 9 by omega)] at j1
        rw [if_pos (by rw [zle_iff, z9]; omega), if_pos hz, en, zl_eq]
        exact j1
    · rw [j2 j, es]
      by_cases c : j = 40 * s.toInt.toNat + i.toInt.toNat
      · have c3 : 40 * s.toInt.toNat + i.toInt.toNat ≤ 40 * s.toInt.toNat + i.toInt.toNat ∧ 40 * s.toInt.toNat + i.toInt.toNat < 40 * s.toInt.toNat + 40 := by omega
        rw [if_neg (by omega), c, uI_at, if_pos c3, show 40 * s.toInt.toNat + i.toInt.toNat - 40 * s.toInt.toNat = i.toInt.toNat by omega]
        by_cases c2 : i.toInt.toNat < 9
        · have c4 : 40 * s.toInt.toNat + i.toInt.toNat < 40 * s.toInt.toNat + 9 := by omega
          rw [if_pos c2, if_pos c4]
        · have c4 : ¬ 40 * s.toInt.toNat + i.toInt.toNat < 40 * s.toInt.toNat + 9 := by omega
          rw [if_neg c2, if_neg c4]
      · rw [uI_off c]
        by_cases c2 : 40 * s.toInt.toNat + i.toInt.toNat ≤ j ∧ j < 40 * s.toInt.toNat + 40
        · rw [if_pos (by omega), if_pos c2]
        · rw [if_neg (by omega), if_neg c2]
theorem zH28_ok : zH28 (zC zT0) := fun n kd I R s sec hC => by
  by_cases cs : 0 ≤ s.toInt ∧ s.toInt ≤ 3
  · have ns : s.toNatClampNeg = s.toInt.toNat := zcl_iff s
    have hk : s.toInt.toNat < 4 := by omega
    by_cases ct : 0 ≤ sec.toInt ∧ sec.toInt ≤ 600
    · obtain ⟨L, s', hB⟩ := zC_B0 hC
      have r3 := hB.2.1.2.2.1
      obtain ⟨I1, R1, I2, x1, x2, x3, x4, x5⟩ := zgoW hB (b := 5) (bt := -1) (znone r3.2) ct
      obtain ⟨_, _, Mx, -, -, -, yx, -⟩ := x5 I hB
      have h200 : ∀ h, h < 9 → 0 ≤ (I2 (46 + h) 1).toInt ∧ (I2 (46 + h) 1).toInt ≤ 200 := fun h hh => by
        have gh := yx.2.2.2.1 h hh
        rw [gh.2.1]
        exact gh.2.2.2.2.2.2.1
      obtain ⟨I3, b1, b2, b3, b4, b5⟩ := g6_become hC.1 hk 1 9 (by decide) I2
      have I3h : ∀ h, h < 9 → I3 (46 + h) = I2 (46 + h) := fun h hh => b5 _ (by omega) (by omega)
      obtain ⟨I4, f1, f2, f3⟩ := g11_filmL (n := n) (kd := kd) (R := R1) hk h200 9 zF 0 I3 (by rw [z0]; rfl) (by rw [z0]; omega) (by unfold zF; omega) b2 b3 I3h
      have I4_ne : ∀ b, b ≠ 73 + 2 * s.toInt.toNat → b ≠ 73 + 2 * s.toInt.toNat + 1 → I4 b = I2 b := fun b y z => by rw [f3 b z, b5 b y z]
      have w4 : zFw I I4 := ⟨fun b y1 y2 => by rw [I4_ne b (by omega) (by omega), (zFw_X hB x3).1 b y1 y2], fun j hj => by rw [I4_ne 81 (by omega) (by omega), (zFw_X hB x3).2 j hj]⟩
      obtain ⟨J0, J1, M, y1, y2, y3, y4, y5, -⟩ := x5 I4 (zB0_K hB w4)
      obtain ⟨K, hK⟩ : ∃ K, uI (uI M 91 s.toInt.toNat 1) 92 s.toInt.toNat 9 = K := ⟨_, rfl⟩
      have K_ne : ∀ b, b ≠ 91 → b ≠ 92 → K b = M b := fun b y z => by rw [← hK, uI_ne z, uI_ne y]
      obtain ⟨N, n1, n2, n3⟩ := g12_filmL (s := s) cs (J0 := M) 40 zF 0 K (by rw [z0]; rfl) (by rw [z0]; omega) (by unfold zF; omega) (K_ne 107 (by decide) (by decide))
      have N_ne : ∀ b, b ≠ 91 → b ≠ 92 → b ≠ 93 → N b = M b := fun b y z w => by rw [n3 b w, K_ne b y z]
      obtain ⟨X, hX⟩ : ∃ X : zMI, X = fun b => if b = 73 + 2 * s.toInt.toNat ∨ b = 73 + 2 * s.toInt.toNat + 1 ∨ b = 91 ∨ b = 92 ∨ b = 93 then I2 b else N b := ⟨_, rfl⟩
      have X_ne : ∀ b, ¬ (b = 73 + 2 * s.toInt.toNat ∨ b = 73 + 2 * s.toInt.toNat + 1 ∨ b = 91 ∨ b = 92 ∨ b = 93) → X b = N b := fun b y => by
        rw [hX]
        exact if_neg y
      have hXM : zFM I2 X := ⟨fun b z1' z2' => by
        by_cases c : b = 73 + 2 * s.toInt.toNat ∨ b = 73 + 2 * s.toInt.toNat + 1 ∨ b = 91 ∨ b = 92 ∨ b = 93
        · rw [hX]
          exact if_pos c
        · rw [X_ne b c, N_ne b (by omega) (by omega) (by omega), y5.1 b z1' z2', I4_ne b (by omega) (by omega)], fun j hj => by rw [X_ne 81 (by omega), N_ne 81 (by decide) (by decide) (by decide), y5.2 j hj, I4_ne 81 (by omega) (by omega)]⟩
      have hCX := zC_going hC hB zAd_0 x3 hXM x4
      have hz4 : zib s 4 = true := zib_ok cs.1 (by omega)
      refine ⟨(9, I4, R1), ?_, (9, N), ?_, rfl, ?_⟩
      · unfold f11_film
        rw [g11_sheetOf, zb_some, if_pos cs, zm_some, ns, g11_noSeconds, zb_some]
        simp only [zB_0]
        rw [if_pos (not_not_intro ct), g11_plain x1, zb_some, x2, zb_some, if_pos (zSe_ok hk), b1, zb_some]
        exact f1
      · unfold f12_film
        rw [g12_in, zb_some, z0, zn3i, g12_areSeconds, zb_some, g12_plain y1 y2 y3, zb_some]
        simp only [zB_0]
        rw [if_neg (not_not_intro cs), if_neg (not_not_intro ct), if_pos hz4, ns, zl_eq, zl_eq, hK]
        exact n1
      · show zC zT0 n kd N R1
        refine zC_sheets zT0_q hCX (fun a z1' z2' z3' z4' => (X_ne a (by omega)).symm) (fun k hk4 => ?_)
        have hx := hC.2.2.2.2.1 k hk4
        have row := zB0_rows hB x3
        have M93 : M 93 = I 93 := by rw [y5.1 93 (by decide) (by decide), w4.1 93 (by decide) (by decide)]
        have M91 : M 91 = I 91 := by rw [y5.1 91 (by decide) (by decide), w4.1 91 (by decide) (by decide)]
        have M92 : M 92 = I 92 := by rw [y5.1 92 (by decide) (by decide), w4.1 92 (by decide) (by decide)]
        have N91 : N 91 = uI M 91 s.toInt.toNat 1 91 := by rw [n3 91 (by decide), ← hK, uI_ne (by decide)]
        have N92 : N 92 = uI (uI M 91 s.toInt.toNat 1) 92 s.toInt.toNat 9 92 := by rw [n3 92 (by decide), ← hK]
        have K93 : K 93 = I 93 := by rw [K_ne 93 (by decide) (by decide), M93]
        rw [N_ne (73 + 2 * k) (by omega) (by omega) (by omega), N_ne (74 + 2 * k) (by omega) (by omega) (by omega), y5.1 (73 + 2 * k) (by omega) (by omega), y5.1 (74 + 2 * k) (by omega) (by omega), N91, N92]
        by_cases c : k = s.toInt.toNat
        · subst c
          rw [f3 _ (by omega), b2, b3, uI_at, uI_at]
          refine ⟨rfl, rfl, by decide, by decide, fun j hj => ?_⟩
          have cA : 40 * s.toInt.toNat + (0 : Int32).toInt.toNat ≤ 40 * s.toInt.toNat + j ∧ 40 * s.toInt.toNat + j < 40 * s.toInt.toNat + 40 := by rw [z0]; omega
          rw [show 74 + 2 * s.toInt.toNat = 73 + 2 * s.toInt.toNat + 1 by omega, f2 j, n2, if_pos cA]
          by_cases c9 : j < 9
          · rw [if_pos (by rw [z0]; omega), if_pos (by omega), (y4.2.2.2.1 j c9).2.1, show 40 * s.toInt.toNat + j - 40 * s.toInt.toNat = j by omega]
          · rw [if_neg (by omega), if_neg (by omega)]
            exact b4 j hj
        · rw [I4_ne (73 + 2 * k) (by omega) (by omega), I4_ne (74 + 2 * k) (by omega) (by omega), row (73 + 2 * k) (by omega) (by omega) (by omega) (by omega) (by omega) (by omega), row (74 + 2 * k) (by omega) (by omega) (by omega) (by omega) (by omega) (by omega), uI_off c, uI_off c, uI_ne (show 92 ≠ 91 by decide), M91, M92]
          refine ⟨hx.1, hx.2.1, hx.2.2.1, hx.2.2.2.1, fun j hj => ?_⟩
          rw [n2, if_neg (by rw [z0]; omega), K93]
          exact hx.2.2.2.2 j hj
    · refine ⟨(-2, I, R), ?_, (-2, I), ?_, rfl, hC⟩
      · unfold f11_film
        rw [g11_sheetOf, zb_some, if_pos cs, zm_some, g11_noSeconds, zb_some]
        simp only [zB_0]
        rw [if_neg (fun q => q ct)]
      · unfold f12_film
        rw [g12_in, zb_some, z0, zn3i, g12_areSeconds, zb_some]
        simp only [zB_0]
        rw [if_neg (not_not_intro cs), if_pos ct]
  · refine ⟨(-2, I, R), ?_, (-2, I), ?_, rfl, hC⟩
    · unfold f11_film
      rw [g11_sheetOf, zb_some, if_neg cs, zm_none]
    · unfold f12_film
      rw [g12_in, zb_some, z0, zn3i]
      simp only [zB_0]
      rw [if_pos cs]
