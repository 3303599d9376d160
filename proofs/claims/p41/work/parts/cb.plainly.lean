/-! pure part: the law's plain going is the reference's -/
section
variable {sl : Nat} {sf : Nat → Int32}
theorem y_startL (hL : sl ≤ 260) (k : zML → Option zML) : ∀ (d q i : Nat) (h : zML), i + d = 9 → d < q → (∀ j, j < i → (h j).toInt = (sHigh sl sf j).toInt ∧ (h (9 + j)).toInt = (sStick sl sf j).toInt) → ∃ h1, fL_start_L2 sl sf k q (Int32.ofNat i) h = k h1 ∧ ∀ j, j < 9 → (h1 j).toInt = (sHigh sl sf j).toInt ∧ (h1 (9 + j)).toInt = (sStick sl sf j).toInt := by
  intro d
  induction d with
  | zero =>
    intro q i h hi hq hh
    obtain ⟨q, rfl⟩ : ∃ p, q = p + 1 := ⟨q - 1, by omega⟩
    have ei := zofn_i (m := i) (by omega)
    rw [fL_start_L2, if_pos (by rw [zle_iff, z9]; omega)]
    exact ⟨h, rfl, fun j hj => hh j (by omega)⟩
  | succ d ih =>
    intro q i h hi hq hh
    obtain ⟨q, rfl⟩ : ∃ p, q = p + 1 := ⟨q - 1, by omega⟩
    have ei := zofn_i (m := i) (by omega)
    have b9 : zib ((9 : Int32) + Int32.ofNat i) 130 = true := tib 9 (by omega)
    have i9 : ((9 : Int32) + Int32.ofNat i).toNatClampNeg = 9 + i := tix 9 (by omega)
    obtain ⟨h1, a1, a2⟩ := ih q (i + 1) (zuL (zuL h i (sHigh sl sf i).toInt64) (9 + i) (sStick sl sf i).toInt64) (by omega) (by omega) (fun j hj => by
      by_cases c : j = i
      · rw [c, zuL_ne (by omega), zuL_at, zuL_at, tl_32, tl_32]
        exact ⟨rfl, rfl⟩
      · by_cases c2 : j = 9 + i
        · omega
        · rw [zuL_ne c2, zuL_ne c, zuL_ne (by omega)]
          by_cases c3 : 9 + j = i
          · omega
          · rw [zuL_ne c3]
            exact hh j (by omega))
    rw [fL_start_L2, if_neg (by rw [zle_iff, z9]; omega), (s_high hL (by omega)).1, zb_some, if_pos (zib_ok (by omega) (by omega)), zl_eq, (s_stick hL (by omega)).1, zb_some, if_pos b9, zl_eq, i9, zofn_n (by omega), zofs (by omega)]
    exact ⟨h1, a1, a2⟩
theorem y_startL2 (hL : sl ≤ 260) : ∀ (d q i : Nat) (h : zML), (i : Int) + d = (sMany sl sf).toInt → d < q → (∀ j, j < 9 → (h j).toInt = (sHigh sl sf j).toInt ∧ (h (9 + j)).toInt = (sStick sl sf j).toInt) → (∀ w, w < i → (h (20 + w)).toInt = (sKind sl sf w).toInt ∧ (h (25 + w)).toInt = (sFrom sl sf w).toInt) → ∃ h1, fL_start_L37 sl sf q (Int32.ofNat i) h = some h1 ∧ yD sl sf h1 := by
  have my := s_many (sf := sf) hL
  intro d
  induction d with
  | zero =>
    intro q i h hi hq h0 hh
    obtain ⟨q, rfl⟩ : ∃ p, q = p + 1 := ⟨q - 1, by omega⟩
    have ei := zofn_i (m := i) (by omega)
    rw [fL_start_L37, my.1, zb_some, if_pos (by rw [zle_iff]; omega)]
    exact ⟨h, rfl, h0, fun w hw => hh w (by omega)⟩
  | succ d ih =>
    intro q i h hi hq h0 hh
    obtain ⟨q, rfl⟩ : ∃ p, q = p + 1 := ⟨q - 1, by omega⟩
    have ei := zofn_i (m := i) (by omega)
    have b20 : zib ((20 : Int32) + Int32.ofNat i) 130 = true := tib 20 (by omega)
    have i20 : ((20 : Int32) + Int32.ofNat i).toNatClampNeg = 20 + i := tix 20 (by omega)
    have b25 : zib ((25 : Int32) + Int32.ofNat i) 130 = true := tib 25 (by omega)
    have i25 : ((25 : Int32) + Int32.ofNat i).toNatClampNeg = 25 + i := tix 25 (by omega)
    obtain ⟨h1, a1, a2⟩ := ih q (i + 1) (zuL (zuL h (20 + i) (sKind sl sf i).toInt64) (25 + i) (sFrom sl sf i).toInt64) (by omega) (by omega) (fun j hj => by rw [zuL_ne (by omega), zuL_ne (by omega), zuL_ne (by omega), zuL_ne (by omega)]; exact h0 j hj) (fun w hw => by
      by_cases c : w = i
      · rw [c, zuL_ne (by omega), zuL_at, zuL_at, tl_32, tl_32]
        exact ⟨rfl, rfl⟩
      · rw [zuL_ne (by omega), zuL_ne (by omega), zuL_ne (by omega), zuL_ne (by omega)]
        exact hh w (by omega))
    rw [fL_start_L37, my.1, zb_some, if_neg (by rw [zle_iff]; omega), (s_kind hL i).1, zb_some, if_pos b20, zl_eq, (s_from hL i).1, zb_some, if_pos b25, zl_eq, i20, i25, zofs (by omega)]
    exact ⟨h1, a1, a2⟩
theorem y_start (hL : sl ≤ 260) : ∃ h1, fL_start sl sf (fun _ => 0) = some h1 ∧ yD sl sf h1 := by
  have my := s_many (sf := sf) hL
  obtain ⟨h0, a1, a2⟩ := y_startL (sf := sf) hL (fL_start_B35 sl sf) 9 zF 0 (fun _ => 0) rfl (by unfold zF; omega) (fun j hj => absurd hj (Nat.not_lt_zero j))
  obtain ⟨h1, b1, b2⟩ := y_startL2 (sf := sf) hL (sMany sl sf).toInt.toNat zF 0 h0 (by omega) (by unfold zF; omega) a2 (fun w hw => absurd hw (Nat.not_lt_zero w))
  refine ⟨h1, ?_, b2⟩
  unfold fL_start
  rw [show (0 : Int32) = Int32.ofNat 0 from rfl, a1]
  exact b1
theorem y_beginL (k : zML → Option zML) : ∀ (d q i : Nat) (h : zML), i + d = 120 → d < q → 30 ≤ i → (∀ j, 30 ≤ j → j < i → h j = 0) → ∃ h1, fL_begin_L3 sl sf k q (Int32.ofNat i) h = k h1 ∧ (∀ j, 30 ≤ j → j < 120 → h1 j = 0) ∧ ∀ j, j < 30 → h1 j = h j := by
  intro d
  induction d with
  | zero =>
    intro q i h hi hq h30 hh
    obtain ⟨q, rfl⟩ : ∃ p, q = p + 1 := ⟨q - 1, by omega⟩
    have ei := zofn_i (m := i) (by omega)
    rw [fL_begin_L3, if_pos (by rw [zle_iff, show (120 : Int32).toInt = 120 from rfl]; omega)]
    exact ⟨h, rfl, fun j h1 h2 => hh j h1 (by omega), fun _ _ => rfl⟩
  | succ d ih =>
    intro q i h hi hq h30 hh
    obtain ⟨q, rfl⟩ : ∃ p, q = p + 1 := ⟨q - 1, by omega⟩
    have ei := zofn_i (m := i) (by omega)
    obtain ⟨h1, a1, a2, a3⟩ := ih q (i + 1) (zuL h i 0) (by omega) (by omega) (by omega) (fun j x1 x2 => by
      by_cases c : j = i
      · rw [c, zuL_at]
      · rw [zuL_ne c]
        exact hh j x1 (by omega))
    rw [fL_begin_L3, if_neg (by rw [zle_iff, show (120 : Int32).toInt = 120 from rfl]; omega), if_pos (zib_ok (by omega) (by omega)), zl_eq, zofn_n (by omega), zofs (by omega)]
    exact ⟨h1, a1, a2, fun j hj => by rw [a3 j hj, zuL_ne (by omega)]⟩
theorem y_beginL2 (k : zML → Option zML) : ∀ (d q i : Nat) (h : zML), i + d = 5 → d < q → (∀ j, j < i → h (30 + j) = h (25 + j) ∧ h (35 + j) = 1) → ∃ h1, fL_begin_L21 sl sf k q (Int32.ofNat i) h = k h1 ∧ (∀ j, j < 5 → h1 (30 + j) = h (25 + j) ∧ h1 (35 + j) = 1) ∧ ∀ j, (j < 30 ∨ 40 ≤ j) → h1 j = h j := by
  intro d
  induction d with
  | zero =>
    intro q i h hi hq hh
    obtain ⟨q, rfl⟩ : ∃ p, q = p + 1 := ⟨q - 1, by omega⟩
    have ei := zofn_i (m := i) (by omega)
    rw [fL_begin_L21, if_pos (by rw [zle_iff, show (5 : Int32).toInt = 5 from rfl]; omega)]
    exact ⟨h, rfl, fun j hj => hh j (by omega), fun _ _ => rfl⟩
  | succ d ih =>
    intro q i h hi hq hh
    obtain ⟨q, rfl⟩ : ∃ p, q = p + 1 := ⟨q - 1, by omega⟩
    have ei := zofn_i (m := i) (by omega)
    have b25 : zib ((25 : Int32) + Int32.ofNat i) 130 = true := tib 25 (by omega)
    have i25 : ((25 : Int32) + Int32.ofNat i).toNatClampNeg = 25 + i := tix 25 (by omega)
    have b30 : zib ((30 : Int32) + Int32.ofNat i) 130 = true := tib 30 (by omega)
    have i30 : ((30 : Int32) + Int32.ofNat i).toNatClampNeg = 30 + i := tix 30 (by omega)
    have b35 : zib ((35 : Int32) + Int32.ofNat i) 130 = true := tib 35 (by omega)
    have i35 : ((35 : Int32) + Int32.ofNat i).toNatClampNeg = 35 + i := tix 35 (by omega)
    obtain ⟨h1, a1, a2, a3⟩ := ih q (i + 1) (zuL (zuL h (30 + i) (h (25 + i))) (35 + i) 1) (by omega) (by omega) (fun j hj => by
      rw [zuL_ne (show 25 + j ≠ 35 + i by omega), zuL_ne (show 25 + j ≠ 30 + i by omega)]
      by_cases c : j = i
      · rw [c, zuL_ne (by omega), zuL_at, zuL_at]
        exact ⟨rfl, rfl⟩
      · rw [zuL_ne (by omega), zuL_ne (by omega), zuL_ne (by omega), zuL_ne (by omega)]
        exact hh j (by omega))
    rw [fL_begin_L21, if_neg (by rw [zle_iff, show (5 : Int32).toInt = 5 from rfl]; omega), if_pos b25, if_pos b30, zl_eq, if_pos b35, zl_eq, i25, i30, i35, zofs (by omega)]
    refine ⟨h1, a1, fun j hj => ?_, fun j hj => by rw [a3 j hj, zuL_ne (by omega), zuL_ne (by omega)]⟩
    have := a2 j hj
    rw [zuL_ne (show 25 + j ≠ 35 + i by omega), zuL_ne (show 25 + j ≠ 30 + i by omega)] at this
    exact this
theorem y_beginL3 : ∀ (d q i : Nat) (h : zML), i + d = 9 → d < q → (∀ j, j < i → h (70 + j) = h j ∧ h (90 + j) = -1) → ∃ h1, fL_begin_L53 sl sf q (Int32.ofNat i) h = some h1 ∧ (∀ j, j < 9 → h1 (70 + j) = h j ∧ h1 (90 + j) = -1) ∧ h1 104 = -1 ∧ ∀ j, (j < 70 ∨ (79 ≤ j ∧ j < 90) ∨ 99 ≤ j) → j ≠ 104 → h1 j = h j := by
  intro d
  induction d with
  | zero =>
    intro q i h hi hq hh
    obtain ⟨q, rfl⟩ : ∃ p, q = p + 1 := ⟨q - 1, by omega⟩
    have ei := zofn_i (m := i) (by omega)
    rw [fL_begin_L53, if_pos (by rw [zle_iff, z9]; omega), if_pos (by decide), zl_eq]
    exact ⟨_, rfl, fun j hj => by rw [show (104 : Int32).toNatClampNeg = 104 from rfl, zuL_ne (by omega), zuL_ne (by omega)]; exact hh j (by omega), zuL_at, fun j _ x => zuL_ne x⟩
  | succ d ih =>
    intro q i h hi hq hh
    obtain ⟨q, rfl⟩ : ∃ p, q = p + 1 := ⟨q - 1, by omega⟩
    have ei := zofn_i (m := i) (by omega)
    have b70 : zib ((70 : Int32) + Int32.ofNat i) 130 = true := tib 70 (by omega)
    have i70 : ((70 : Int32) + Int32.ofNat i).toNatClampNeg = 70 + i := tix 70 (by omega)
    have b90 : zib ((90 : Int32) + Int32.ofNat i) 130 = true := tib 90 (by omega)
    have i90 : ((90 : Int32) + Int32.ofNat i).toNatClampNeg = 90 + i := tix 90 (by omega)
    obtain ⟨h1, a1, a2, a3, a4⟩ := ih q (i + 1) (zuL (zuL h (70 + i) (h i)) (90 + i) (-1)) (by omega) (by omega) (fun j hj => by
      rw [zuL_ne (show j ≠ 90 + i by omega), zuL_ne (show j ≠ 70 + i by omega)]
      by_cases c : j = i
      · rw [c, zuL_ne (by omega), zuL_at, zuL_at]
        exact ⟨rfl, rfl⟩
      · rw [zuL_ne (by omega), zuL_ne (by omega), zuL_ne (by omega), zuL_ne (by omega)]
        exact hh j (by omega))
    rw [fL_begin_L53, if_neg (by rw [zle_iff, z9]; omega), if_pos (zib_ok (by omega) (by omega)), if_pos b70, zl_eq, if_pos b90, zl_eq, i70, i90, zofn_n (by omega), zofs (by omega)]
    refine ⟨h1, a1, fun j hj => ?_, a3, fun j hj x => by rw [a4 j hj x, zuL_ne (by omega), zuL_ne (by omega)]⟩
    have := a2 j hj
    rw [zuL_ne (show j ≠ 90 + i by omega), zuL_ne (show j ≠ 70 + i by omega)] at this
    exact this
/-- the row at the beginning of a going -/
theorem y_begin (h : zML) : ∃ h1, fL_begin sl sf h = some h1 ∧ (∀ j, j < 30 → h1 j = h j) ∧ (∀ j, j < 5 → h1 (30 + j) = h (25 + j) ∧ h1 (35 + j) = 1) ∧ (∀ j, j < 9 → h1 (70 + j) = h j ∧ h1 (90 + j) = -1) ∧ h1 104 = -1 ∧ ∀ j, (40 ≤ j ∧ j < 70 ∨ 79 ≤ j ∧ j < 90 ∨ 99 ≤ j ∧ j < 120) → j ≠ 104 → h1 j = 0 := by
  obtain ⟨h0, a1, a2, a3⟩ := y_beginL (sl := sl) (sf := sf) (fL_begin_B19 sl sf) 90 zF 30 h rfl (by unfold zF; omega) (Nat.le_refl _) (fun j x1 x2 => by omega)
  obtain ⟨h1, b1, b2, b3⟩ := y_beginL2 (sl := sl) (sf := sf) (fL_begin_B51 sl sf) 5 zF 0 h0 rfl (by unfold zF; omega) (fun j hj => absurd hj (Nat.not_lt_zero j))
  obtain ⟨h2, c1, c2, c3, c4⟩ := y_beginL3 (sl := sl) (sf := sf) 9 zF 0 h1 rfl (by unfold zF; omega) (fun j hj => absurd hj (Nat.not_lt_zero j))
  refine ⟨h2, ?_, fun j hj => ?_, fun j hj => ?_, fun j hj => ?_, c3, fun j hj x => ?_⟩
  · unfold fL_begin
    rw [show (30 : Int32) = Int32.ofNat 30 from rfl, a1]
    unfold fL_begin_B19
    rw [show (0 : Int32) = Int32.ofNat 0 from rfl, b1]
    exact c1
  · rw [c4 j (by omega) (by omega), b3 j (by omega), a3 j hj]
  · rw [c4 (30 + j) (by omega) (by omega), c4 (35 + j) (by omega) (by omega), (b2 j hj).1, (b2 j hj).2, a3 _ (by omega)]
    exact ⟨rfl, rfl⟩
  · rw [(c2 j hj).1, (c2 j hj).2, b3 j (by omega), a3 j (by omega)]
    exact ⟨rfl, rfl⟩
  · rw [c4 j (by omega) x, b3 j (by omega), a2 j (by omega) (by omega)]
/-- the order by numbers, as digits -/
def yord : Nat → Int32
  | 0 => 0
  | w + 1 => yord w ||| (Int32.ofNat w <<< (((3 : Int32) * Int32.ofNat w) &&& 31))
theorem yord_O : ∀ m, m ≤ 3 → ∀ o, o < m → ((yord m >>> (((3 : Int32) * Int32.ofNat o) &&& 31)) &&& (7 : Int32)) = Int32.ofNat o := by decide +kernel
theorem y_plainL (hL : sl ≤ 260) (k : Int32 → Int32 → Int32 → zML → Option (Int32 × zML)) (t : Int32) (h : zML) : ∀ (d q i : Nat), (i : Int) + d = (sMany sl sf).toInt → d < q → fL_plainly_L9 sl sf k q 9 t (yord i) (Int32.ofNat i) (Int32.ofNat i) h = k t (yord (sMany sl sf).toInt.toNat) (Int32.ofNat (sMany sl sf).toInt.toNat) h := by
  have my := s_many (sf := sf) hL
  intro d
  induction d with
  | zero =>
    intro q i hi hq
    obtain ⟨q, rfl⟩ : ∃ p, q = p + 1 := ⟨q - 1, by omega⟩
    have ei := zofn_i (m := i) (by omega)
    rw [fL_plainly_L9, my.1, zb_some, if_pos (by rw [zle_iff]; omega), show (sMany sl sf).toInt.toNat = i by omega]
  | succ d ih =>
    intro q i hi hq
    obtain ⟨q, rfl⟩ : ∃ p, q = p + 1 := ⟨q - 1, by omega⟩
    have ei := zofn_i (m := i) (by omega)
    rw [fL_plainly_L9, my.1, zb_some, if_neg (by rw [zle_iff]; omega), if_neg (by rw [zeq_iff, z9]; omega), zl_eq]
    unfold fL_plainly_B42
    rw [zofs (by omega)]
    exact ih q (i + 1) (by omega) (by omega)
theorem zDef_first {J J1 : zMI} (hD : zDef sl sf J) (h : zMLq J J1) : zDef sl sf J1 := zDef_fr hD (fun b x1 x2 => h.2.2.2.2.2.2 b (by omega) (by omega)) (h.2.2.2.2.2.1 2 (by decide) (by decide) (by decide)) (h.2.2.2.2.2.1 3 (by decide) (by decide) (by decide)) (h.2.2.2.2.2.1 12 (by decide) (by decide) (by decide))
theorem y_tie (hL : sl ≤ 260) {h : zML} (hD : yD sl sf h) {T : Nat} (hT : T ≤ 600) {J M : zMI} (hJ : zDef sl sf J) (hM : f12_goesPlain (Int32.ofNat T) J = some M) : ∃ pl : Int32 × zML, fL_plainly sl sf 9 (Int32.ofNat T) h = some pl ∧ yRel sl sf 3600 (sMany sl sf).toInt.toNat M pl.2 := by
  have my := s_many (sf := sf) hL
  have e3 : (J 81 3).toInt = (sMany sl sf).toInt := by
    have := hJ.2.2.1.1
    omega
  obtain ⟨J0, a1, a2, a3, a4, a5⟩ := g12_orders (b := 5) (bt := -1) (J := J) (by omega) (znone (by omega))
  obtain ⟨J1, b1, b2⟩ := g12_begins J0
  obtain ⟨h1, c1, c2, c3, c4, c5, c6⟩ := y_begin (sl := sl) (sf := sf) h
  have D0 : zDef sl sf J0 := zDef_fr hJ (fun b x1 x2 => a5 b (by omega) (by omega)) (a4 2 (by decide)) (a4 3 (by decide)) (a4 12 (by decide))
  have D1 := zDef_first D0 b2
  obtain ⟨m1, m2, m3, m4, m5, m6, m7⟩ := b2
  have l0 : (0 : Int64).toInt = 0 := rfl
  have lm : (-1 : Int64).toInt = -1 := rfl
  have em : (-1 : Int32).toInt = -1 := rfl
  have R1 : yRel sl sf 0 (sMany sl sf).toInt.toNat J1 h1 := by
    refine ⟨fun w hw => ?_, fun k hk => ?_, ⟨?_, ?_, ?_, ?_⟩, ⟨fun k hk => ?_, fun w hw => ?_⟩, fun _ => ?_, D1⟩
    · rw [if_neg (by omega)]
      obtain ⟨x0, x1, x2, x3, x4, x5, x6⟩ := m1 w (by omega)
      have f86 : J0 86 w = sFrom sl sf w := (D0.2.2.1.2 w hw).2.2
      have fr := s_from (sf := sf) hL w
      unfold yW yq
      rw [x0, x1, x2, x3, x4, x5, x6, f86, (c3 w (by omega)).1, (c3 w (by omega)).2, c6 (40 + w) (by omega) (by omega), c6 (45 + w) (by omega) (by omega), c6 (50 + w) (by omega) (by omega), c6 (55 + w) (by omega) (by omega), c6 (60 + w) (by omega) (by omega), (hD.2 w hw).2]
      exact ⟨⟨rfl, fr.2.1, fr.2.2⟩, by decide, by decide, by decide, by decide, by decide, by decide, fun _ z => absurd rfl z⟩
    · obtain ⟨x0, x1, x2⟩ := m2 k hk
      have f82 : J0 82 k = sHigh sl sf k := (D0.1 k hk).1
      have hh := s_high (sf := sf) hL hk
      unfold yH yq
      rw [x0, x1, x2, f82, (c4 k hk).1, (c4 k hk).2, c6 (80 + k) (by omega) (by omega), (hD.1 k hk).1]
      exact ⟨⟨rfl, hh.2.1, by omega⟩, by decide, by decide⟩
    · rw [m4, c6 101 (by decide) (by decide)]
      unfold yq
      decide
    · rw [m5, c5]
      unfold yq
      decide
    · rw [m4, c6 102 (by decide) (by decide)]
      rfl
    · rw [m4, c6 103 (by decide) (by decide)]
      rfl
    · rw [c2 k (by omega), c2 (9 + k) (by omega)]
      exact hD.1 k hk
    · rw [c2 (20 + w) (by omega), c2 (25 + w) (by omega)]
      exact hD.2 w hw
    · have z1 : yheld h1 (sMany sl sf).toInt.toNat = 0 := by
        unfold yheld
        rw [ysum_eq (f := fun _ => 0) _ (fun i hi => by
          rw [c6 (50 + i) (by omega) (by omega), c6 (45 + i) (by omega) (by omega), l0]
          rfl)]
        induction (sMany sl sf).toInt.toNat with
        | zero => rfl
        | succ n ih => show ysum _ n + 0 = 0; omega
      have z2 : ygone h1 = 0 := by
        unfold ygone
        rw [ysum_eq (f := fun _ => 0) _ (fun i hi => by
          rw [(c4 i hi).1, c2 i (by omega)]
          omega)]
        rfl
      rw [z1, z2]
      exact Int.le_refl _
  have n34 : (J1 81 34).toInt = (sMany sl sf).toInt := by
    rw [m6 34 (by decide) (by decide) (by decide), a2, if_neg (by omega)]
    omega
  have n99 : ∀ k, k < (sMany sl sf).toInt.toNat → J1 99 k = Int32.ofNat k := fun k hk => by
    rw [m7 99 (by decide) (by decide), zeq_iff, a3 k (by rw [a2, if_neg (by omega)]; omega), zofn_i (by omega)]
    unfold zob
    rw [if_pos (by omega)]
  unfold f12_goesPlain f12_goesFor at hM
  rw [a1, zb_some, b1, zb_some] at hM
  obtain ⟨M', e1, hM⟩ := zbd hM
  have eM : M' = M := Option.some.inj hM
  rw [eM] at e1
  obtain ⟨h', d1, d2, -⟩ := y_goL (ord := yord (sMany sl sf).toInt.toNat) (sf := sf) hL (yord_O _ (by omega)) (T := T) hT T zF zF 0 J1 M h1 0 (by omega) (by unfold zF; omega) (by unfold zF; omega) R1 (Int.le_refl _) (by omega) n34 n99 e1
  refine ⟨((h' 101).toInt32, h'), ?_, d2⟩
  unfold fL_plainly
  rw [show (0 : Int32) = yord 0 from rfl]
  have pl := y_plainL (sf := sf) hL (fL_plainly_B48 sl sf) (Int32.ofNat T) h (sMany sl sf).toInt.toNat zF 0 (by omega) (by unfold zF; omega)
  rw [show yord 0 = Int32.ofNat 0 from rfl] at pl ⊢
  rw [pl]
  unfold fL_plainly_B48 fL_go
  rw [c1, zb_some, show (0 : Int32) = Int32.ofNat 0 from rfl, d1, zb_some]
end
