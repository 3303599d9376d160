/-! pure part: both sides are laid alike -/
theorem zGjoin {n : Nat} {kd : zMK} {R : zMR} {L s t : Nat} {A : Nat → Nat} {I J : zMI} (hl : zGl n kd R L s t I J) (ho : zGo R A J) (hw : ∀ w, w < 5 → zgo J w → zwl n kd I J (A w) (Int32.ofNat w) ∧ zbegun I (A w) (J 100 w) ∧ (0 ≤ (J 100 w).toInt ∧ (J 100 w).toInt ≤ 8)) (hm : ∀ w, w < 5 → J 101 w = 1 ∧ J 102 w = 0 ∧ J 103 w = 0 ∧ J 104 w = 0 ∧ J 105 w = 0 ∧ J 106 w = 0)
    (hh : ∀ h, h < 9 → zhl I h (J 107 h) (J 83 h) ∧ I (46 + h) 0 = Int32.ofNat h ∧ J 108 h = 0 ∧ J 109 h = -1 ∧ (0 ≤ (J 107 h).toInt ∧ (J 107 h).toInt ≤ 200) ∧ (0 ≤ (J 83 h).toInt ∧ (J 83 h).toInt ≤ 9)) (h42 : I 42 5 = 0 ∧ I 42 8 = 0 ∧ I 42 9 = 0 ∧ I 42 10 = 0 ∧ I 42 11 = 0 ∧ I 42 12 = -1) (hJ : J 81 45 = 0 ∧ J 81 47 = 0 ∧ J 81 48 = -1) : zG n kd R L s t A I J (5 * 0) 0 := by
  obtain ⟨j1, j2, j3⟩ := hJ
  refine ⟨hl, ho, fun w h5 => ⟨fun q => ?_, fun _ => ?_⟩, fun h h9 => ?_, fun h h9 => ?_, ?_⟩
  · obtain ⟨r1, r2, r3⟩ := hw w h5 q
    obtain ⟨m1, m2, m3, m4, m5, m6⟩ := hm w h5
    obtain ⟨b3, b4, b5, b6, b7, b8, b9, b10⟩ := r2
    refine ⟨r1, ?_⟩
    unfold zGw
    rw [b3, b4, b5, b6, b7, b8, b9, b10, m1, m2, m3, m4, m5, m6]
    exact ⟨rfl, rfl, rfl, rfl, rfl, rfl, Or.inl ⟨rfl, rfl, rfl⟩, r3, Or.inl ⟨rfl, rfl⟩, by rw [z0]; omega⟩
  · obtain ⟨m1, m2, m3, m4, m5, m6⟩ := hm w h5
    exact ⟨m1, m3⟩
  · obtain ⟨⟨c1, c2, c3, c4, c5, c6⟩, c0, c7, c8, c9, c10⟩ := hh h h9
    unfold zGhq
    rw [c0, c1, c2, c3, c5, c6, c7, c8, j1]
    exact ⟨rfl, rfl, rfl, rfl, rfl, Or.inl ⟨rfl, by rw [z0]; exact Nat.zero_testBit h⟩, c9, c10⟩
  · obtain ⟨⟨c1, c2, c3, c4, c5, c6⟩, c0, c7, c8, c9, c10⟩ := hh h h9
    have z : ∀ w, w < 5 → ztk J h w = 0 := fun w h5 => by
      unfold ztk
      rw [if_neg]
      intro q
      have := q.1
      rw [(hm w h5).1] at this
      cases this
    unfold ztks
    rw [c4, z 0 (by decide), z 1 (by decide), z 2 (by decide), z 3 (by decide), z 4 (by decide)]
    rfl
  · obtain ⟨q1, q2, q3, q4, q5, q6⟩ := h42
    have m := fun w h5 => (hm w h5).2.2.1
    have w2 := hl.2.2.2.2.2.2.2
    unfold zGp
    rw [q1, q2, q3, q4, q5, q6, j1, j2, j3, m 0 (by decide), m 1 (by decide), m 2 (by decide), m 3 (by decide), m 4 (by decide), z0]
    refine ⟨rfl, rfl, rfl, ⟨Int.le_refl _, by decide⟩, rfl, rfl, rfl, fun k hk => absurd hk (Nat.not_lt_zero k), fun k hk => absurd hk (Nat.not_lt_zero k), Or.inl ⟨rfl, by omega⟩, Int.le_refl _, by decide⟩
/-- what the class has, and the reference, when nobody goes -/
def zB0 (n : Nat) (kd : zMK) (R : zMR) (L s t : Nat) (A : Nat → Nat) (I J : zMI) : Prop := zCx n kd A s ∧ (I 32 4 = J 81 3 ∧ I 32 2 = J 81 2 ∧ (0 ≤ (J 81 3).toInt ∧ (J 81 3).toInt ≤ 5) ∧ (1 ≤ (J 81 2).toInt ∧ (J 81 2).toInt ≤ 200)) ∧ (∀ w, w < (J 81 3).toInt.toNat → R 35 w = some (A w) ∧ zwl n kd I J (A w) (Int32.ofNat w) ∧ I (A w) 2 = J 86 w ∧ (0 ≤ (J 86 w).toInt ∧ (J 86 w).toInt ≤ 8)) ∧
  (∀ h, h < 9 → I 33 h = J 82 h ∧ (0 ≤ (J 82 h).toInt ∧ (J 82 h).toInt ≤ 200) ∧ I 34 h = J 83 h ∧ (0 ≤ (J 83 h).toInt ∧ (J 83 h).toInt ≤ 9) ∧ I (46 + h) 0 = Int32.ofNat h) ∧ ((I 32 7).toInt = (t : Int) ∧ (t : Int) < (I 32 6).toInt ∧ (I 32 6).toInt ≤ 6 ∧ R 36 t = some L ∧ zLw n kd R L s I J t ∧ (J 81 12).toInt = (t : Int))
/-- what goings and layings leave alone -/
def zFX (A : Nat → Nat) (s : Nat) (I I' : zMI) : Prop := (∀ b, b ≠ 42 → b ≠ 45 → (b < 46 ∨ 54 < b) → (∀ w, w < 5 → b ≠ A w) → b ≠ s → b ≠ s + 1 → I' b = I b) ∧ (∀ w j, w < 5 → j < 3 → I' (A w) j = I (A w) j) ∧ ∀ h, h < 9 → I' (46 + h) 0 = I (46 + h) 0
def zFM (J J' : zMI) : Prop := (∀ b, b ≠ 81 → (b ≤ 96 ∨ 111 ≤ b) → J' b = J b) ∧ ∀ j, j < 34 → J' 81 j = J 81 j
theorem zFX_I {A : Nat → Nat} {s : Nat} {I I' : zMI} (h : zFI A s I I') : zFX A s I I' := ⟨h.1, h.2.1, fun i hi => (h.2.2.2 i hi).1⟩
theorem zFM_J {J J' : zMI} (h : zFJ J J') : zFM J J' := ⟨fun b x y => h.1 b x (by omega), fun j x => h.2 j (by omega)⟩
theorem zFX_rfl {A : Nat → Nat} {s : Nat} {I : zMI} : zFX A s I I := ⟨fun _ _ _ _ _ _ _ => rfl, fun _ _ _ _ => rfl, fun _ _ => rfl⟩
theorem zFM_rfl {J : zMI} : zFM J J := ⟨fun _ _ _ => rfl, fun _ _ => rfl⟩
theorem zFX_tr {A : Nat → Nat} {s : Nat} {I I' I'' : zMI} (h1 : zFX A s I I') (h2 : zFX A s I' I'') : zFX A s I I'' := ⟨fun b x1 x2 x3 x4 x5 x6 => by rw [h2.1 b x1 x2 x3 x4 x5 x6, h1.1 b x1 x2 x3 x4 x5 x6], fun w j x y => by rw [h2.2.1 w j x y, h1.2.1 w j x y], fun h x => by rw [h2.2.2 h x, h1.2.2 h x]⟩
theorem zFM_tr {J J' J'' : zMI} (h1 : zFM J J') (h2 : zFM J' J'') : zFM J J'' := ⟨fun b x y => by rw [h2.1 b x y, h1.1 b x y], fun j x => by rw [h2.2 j x, h1.2 j x]⟩
/-- the same of the rows that a laying reads -/
def zFw (J J' : zMI) : Prop := (∀ b, 81 < b → b ≤ 96 → J' b = J b) ∧ ∀ j, j < 34 → J' 81 j = J 81 j
theorem zFw_M {J J' : zMI} (h : zFM J J') : zFw J J' := ⟨fun b x y => h.1 b (by omega) (by omega), h.2⟩
/-- a walker lies apart from all rows with fixed places -/
theorem zB0_A {n : Nat} {kd : zMK} {R : zMR} {L s t : Nat} {A : Nat → Nat} {I J : zMI} (h : zB0 n kd R L s t A I J) : (∀ w, w < 5 → A w ≠ s ∧ A w ≠ s + 1) ∧ (∀ w, w < 5 → A w = 0 ∨ 114 ≤ A w) ∧ 68 ≤ s ∧ s + 4 < n ∧ (∀ b, (kd b).1 = 0 → 0 < b → ∀ w, w < 5 → b ≠ A w) := by
  obtain ⟨⟨x1, x2, x3, x4, x5⟩, -, -, -, -, -, -, -, hL, -⟩ := h
  obtain ⟨-, g2, g3, -⟩ := hL.1
  refine ⟨fun w hw => ?_, fun w hw => ?_, x2, g3, fun b hb hb0 w hw q => ?_⟩
  · rcases x5 w hw with q | ⟨q1, q2⟩
    · omega
    · exact ⟨fun q => q2 (by rw [q]; exact x3), fun q => q2 (by rw [q]; exact x4)⟩
  · have := x5 w hw
    omega
  · rcases x5 w hw with r | ⟨q1, q2⟩
    · omega
    · exact q2 (by rw [← q]; exact hb)
/-- it holds over goings -/
theorem zB0_keep {n : Nat} {kd : zMK} {R R' : zMR} {L s t : Nat} {A : Nat → Nat} {I J I' J' : zMI} (h : zB0 n kd R L s t A I J) (hI : zFX A s I I') (hJ : zFw J J') (hR : ∀ b, b ≠ 42 → b ≠ 44 → R' b = R b) : zB0 n kd R' L s t A I' J' := by
  obtain ⟨ha, hb, hs, hn, hc⟩ := zB0_A h
  obtain ⟨hX, ⟨e4, e2, r3, r2⟩, hw, hh, l1, l2, l3, l4, l5, l6⟩ := h
  have row : ∀ b, 0 < b → b < 114 → b ≠ 42 → b ≠ 45 → (b < 46 ∨ 54 < b) → b ≠ s → b ≠ s + 1 → I' b = I b := fun b y0 y1 y2 y3 y4 y5 y6 => hI.1 b y2 y3 y4 (fun w x => by have := hb w x; omega) y5 y6
  have I32 : I' 32 = I 32 := row 32 (by decide) (by decide) (by decide) (by decide) (by decide) (by omega) (by omega)
  have hLo := l5.1
  obtain ⟨-, g2, g3, g4, g5, g6, g7, g8, g9, -⟩ := hLo
  have lrow : ∀ b, 70 ≤ b → b ≠ s → b ≠ s + 1 → (kd b).1 = 0 → I' b = I b := fun b y0 y5 y6 y7 => hI.1 b (by omega) (by omega) (by omega) (hc b y7 (by omega)) y5 y6
  refine ⟨hX, ⟨?_, ?_, ?_, ?_⟩, fun w x => ?_, fun h x => ?_, ?_, ?_, ?_, ?_, ?_, ?_⟩
  · rw [I32, hJ.2 3 (by decide)]; exact e4
  · rw [I32, hJ.2 2 (by decide)]; exact e2
  · rw [hJ.2 3 (by decide)]; exact r3
  · rw [hJ.2 2 (by decide)]; exact r2
  · rw [hJ.2 3 (by decide)] at x
    obtain ⟨w1, w2, w3, w4⟩ := hw w x
    have w5 : w < 5 := by omega
    refine ⟨by rw [hR 35 (by decide) (by decide)]; exact w1, zwl_eq w2 (hI.2.1 w 0 w5 (by decide)) (hI.2.1 w 1 w5 (by decide)) (hJ.1 84 (by decide) (by decide)) (hJ.1 85 (by decide) (by decide)), ?_, ?_⟩
    · rw [hI.2.1 w 2 w5 (by decide), hJ.1 86 (by decide) (by decide)]; exact w3
    · rw [hJ.1 86 (by decide) (by decide)]; exact w4
  · rw [row 33 (by decide) (by decide) (by decide) (by decide) (by decide) (by omega) (by omega), row 34 (by decide) (by decide) (by decide) (by decide) (by decide) (by omega) (by omega), hJ.1 82 (by decide) (by decide), hJ.1 83 (by decide) (by decide), hI.2.2 h x]
    exact hh h x
  · rw [I32]; exact l1
  · rw [I32]; exact l2
  · rw [I32]; exact l3
  · rw [hR 36 (by decide) (by decide)]; exact l4
  · refine ⟨?_, zLx_eq l5.2 (lrow _ (by omega) (by omega) (by omega) (by rw [g6])) (lrow _ (by omega) (by omega) (by omega) g7) (lrow _ (by omega) (by omega) (by omega) (by rw [g9])) (hJ.1 88 (by decide) (by decide)) (hJ.1 89 (by decide) (by decide))⟩
    have := l5.1
    unfold zLo at this ⊢
    rw [hR L (by omega) (by omega)]
    exact this
  · rw [hJ.2 12 (by decide)]; exact l6
