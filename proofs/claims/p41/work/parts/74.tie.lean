/-! pure part: the texts' part told; from what holds between calls to goings, and back -/
def zTwL : List Int32 := [116, 97, 107, 101, 115, 32, 32, 32, 115, 116, 101, 112, 115, 32, 32, 32, 109, 105, 110, 100, 115, 32, 32, 32, 104, 101, 97, 112, 32, 32, 32, 32, 119, 97, 108, 107, 101, 114, 32, 32, 109, 111, 114, 101, 32, 32, 32, 32, 108, 101, 102, 116, 32, 32, 32, 32, 100, 111, 110, 101, 32, 32, 32, 32, 109, 97, 110, 121, 32, 32, 32, 32, 111, 114, 32, 32, 32, 32, 32, 32, 97, 110, 100, 32, 32, 32, 32, 32, 110, 111, 116, 32, 32, 32, 32, 32]
def zTw (j : Nat) : Int32 := zTwL.getD j 0
def zT0 (n : Nat) (kd : zMK) (I : zMI) (R : zMR) : Prop := (∀ h, h < 9 → I (46 + h) 0 = Int32.ofNat h) ∧ (∀ j, j < 96 → I 95 j = zTw j) ∧ ∀ t, t < (I 81 11).toInt.toNat → ∃ L s, R 36 t = some L ∧ zLw n kd R L s I I t
theorem zLo_apart {n : Nat} {kd : zMK} {R : zMR} {L s c s' i : Nat} (h : zLo n kd R L s) (h' : zLo n kd R c s') (i1 : 1 ≤ i) (i4 : i ≤ 4) (e : s' = s + i) : False := by
  obtain ⟨g1, g2, g3, g4, g5, g6, g7, -⟩ := h
  obtain ⟨k1, k2, -⟩ := h'
  have c19 := (zKdB_has k1).2.2
  rcases g2 with ⟨x1, x2⟩ | ⟨x1, x2, x3⟩
  · rcases k2 with ⟨y1, y2⟩ | ⟨y1, y2, -⟩ <;> omega
  · rcases k2 with ⟨y1, y2⟩ | ⟨y1, y2, -⟩
    · omega
    · have ec : c = L + i := by omega
      rcases (show i = 1 ∨ i = 2 ∨ i = 3 ∨ i = 4 by omega) with q | q | q | q
      · rw [ec, q, x3] at c19
        cases c19
      · rw [ec, q, ← x2, g4] at c19
        cases c19
      · rw [ec, q, show L + 3 = s + 1 by omega, g5] at c19
        cases c19
      · rw [ec, q, show L + 4 = s + 2 by omega, g6] at c19
        cases c19
theorem zLo_big {n : Nat} {kd : zMK} {R : zMR} {L s : Nat} (h : zLo n kd R L s) : (s = 68 ∨ 116 ≤ s) ∧ 67 ≤ L := by
  obtain ⟨g1, g2, -⟩ := h
  rcases g2 with ⟨x1, x2⟩ | ⟨x1, x2, x3⟩ <;> omega
theorem zT0_q : zTq zT0 := fun n n' kd kd' I J R R' hS hn hk hI hH e11 hR ⟨t1, t2, t3⟩ => by
  have hn114 := hS.1
  -- which rows are scratch
  have scr : ∀ a, zTs I R a → ∃ c s', zLo n kd R c s' ∧ (a = s' ∨ a = s' + 1) := fun a ⟨t, c, x1, x2, x3⟩ => by
    obtain ⟨L, s, y1, y2⟩ := t3 t x1
    cases x2.symm.trans y1
    refine ⟨c, s, y2.1, ?_⟩
    have z2 := y2.1.2.2.2.2.2.2.2.2.2.1
    have z3 := y2.1.2.2.2.2.2.2.2.2.2.2.1
    rcases x3 with x3 | x3
    · rw [z2] at x3
      cases x3
      exact Or.inl rfl
    · rw [z3] at x3
      cases x3
      exact Or.inr rfl
  have low : ∀ a, a < 116 → a ≠ 68 → a ≠ 69 → ¬ zTs I R a := fun a x1 x2 x3 q => by
    obtain ⟨c, s', y1, y2⟩ := scr a q
    have := (zLo_big y1).1
    omega
  refine ⟨fun h hh => by rw [hH h hh]; exact t1 h hh, fun j hj => ?_, fun t ht => ?_⟩
  · rw [hI 95 (by omega) (by unfold zTa; omega) (low 95 (by decide) (by decide) (by decide))]
    exact t2 j hj
  · rw [e11] at ht
    obtain ⟨L, s, y1, y2, y3⟩ := t3 t ht
    have hL := y2
    obtain ⟨g1, g2, g3, g4, g5, g6, g7, g8, g9, r2, r3, r4, r0, r1⟩ := y2
    have hb := zLo_big hL
    have kL := zKdB_has g1
    have eL : kd' L = kd L := hk L kL.2.1
    have eR : R' L = R L := hR L kL.2.1 (Or.inr hb.2)
    have row : ∀ i, 2 ≤ i → i ≤ 4 → J (s + i) = I (s + i) := fun i i2 i4 => by
      refine hI (s + i) (by omega) ?_ (fun q => ?_)
      · unfold zTa
        rcases hb.1 with x | x
        · omega
        · have : (kd (s + i)).1 = 0 := by
            rcases (show i = 2 ∨ i = 3 ∨ i = 4 by omega) with e | e | e
            · rw [e, g6]
            · rw [e]; exact g7
            · rw [e, g9]
          exact Or.inr (Or.inr (Or.inr (Or.inr ⟨by omega, Or.inl this⟩)))
      · obtain ⟨c, s', z1', z2'⟩ := scr _ q
        rcases z2' with e | e
        · exact zLo_apart hL z1' (by omega) i4 e.symm
        · exact zLo_apart hL z1' (show 1 ≤ i - 1 by omega) (by omega) (by omega)
    refine ⟨L, s, by rw [hR 36 (by omega) (Or.inl rfl)]; exact y1, ⟨zKd_ok (by omega) (by omega) (by rw [eL]; exact kL.2.2), ?_, by omega, by rw [hk s (by omega)]; exact g4, by rw [hk (s + 1) (by omega)]; exact g5, by rw [hk (s + 2) (by omega)]; exact g6, by rw [hk (s + 3) (by omega)]; exact g7, by rw [hk (s + 3) (by omega)]; exact g8, by rw [hk (s + 4) (by omega)]; exact g9, by rw [eR]; exact r2, by rw [eR]; exact r3, by rw [eR]; exact r4, by rw [eR]; exact r0, by rw [eR]; exact r1⟩, ?_⟩
    · rcases g2 with x | ⟨x1, x2, x3⟩
      · exact Or.inl x
      · exact Or.inr ⟨x1, x2, by rw [hk (L + 1) (by omega)]; exact x3⟩
    · rw [hk (s + 3) (by omega)]
      exact zLx_eq y3 (row 2 (by decide) (by decide)) (row 3 (by decide) (by decide)) (row 4 (by decide) (by decide)) (hI 88 (by omega) (by unfold zTa; omega) (low 88 (by decide) (by decide) (by decide))) (hI 89 (by omega) (by unfold zTa; omega) (low 89 (by decide) (by decide) (by decide)))
/-- where each walker is -/
def zAd (c : Nat) (R : zMR) (w : Nat) : Nat := if w < c then (R 35 w).getD 0 else 0
theorem zAd_0 {c : Nat} {R : zMR} : ∀ w, c ≤ w → zAd c R w = 0 := fun w h => by
  unfold zAd
  rw [if_neg (by omega)]
theorem zC_B0 {n : Nat} {kd : zMK} {I : zMI} {R : zMR} (hC : zC zT0 n kd I R) : ∃ L s, zB0 n kd R L s (I 81 12).toInt.toNat (zAd (I 81 3).toInt.toNat R) I I := by
  obtain ⟨h1, h2, h3, h4, h5, h6, h7, t1, t2, t3⟩ := hC
  obtain ⟨e1, e2, e3, e4, e5, r3, r2, r11, r12, r8⟩ := h2
  obtain ⟨L, s, y1, y2⟩ := t3 (I 81 12).toInt.toNat (by omega)
  have hb := zLo_big y2.1
  have k0 : (kd s).1 = 0 := by rw [y2.1.2.2.2.1]
  have k1 : (kd (s + 1)).1 = 0 := by rw [y2.1.2.2.2.2.1]
  have ad : ∀ w a, w < (I 81 3).toInt.toNat → R 35 w = some a → zAd (I 81 3).toInt.toNat R w = a := fun w a x y => by
    unfold zAd
    rw [if_pos x, y]
    rfl
  refine ⟨L, s, ⟨h1, by omega, k0, k1, fun w hw => ?_⟩, ⟨e1, e2, r3, r2⟩, fun w hw => ?_, fun h hh => ?_, by rw [e4]; omega, by rw [e3]; omega, by rw [e3]; omega, y1, y2, by omega⟩
  · by_cases c : w < (I 81 3).toInt.toNat
    · obtain ⟨a, q1, q2, q3, q4, q5, -⟩ := h7 w c
      have := zkc_ne (k := I 84 w)
      rw [ad w a c q1]
      exact Or.inr ⟨q2, by omega⟩
    · unfold zAd
      rw [if_neg c]
      exact Or.inl rfl
  · obtain ⟨a, q1, q2, q3, q4, q5, q6, q7, q8, q9, q10⟩ := h7 w hw
    rw [ad w a hw q1]
    have hw5 : w < 5 := by omega
    have en : (Int32.ofNat w).toNatClampNeg = w := zofn_n (by omega)
    have ei : (Int32.ofNat w).toInt = (w : Int) := zofn_i (by omega)
    refine ⟨q1, ⟨zW_ok q2 q3 q4 (zkc_w q5.1 q5.2), ?_, ?_, ?_, ?_, ?_, ?_⟩, q9, q10⟩
    · rw [en]; exact q4
    · rw [en]; exact q5
    · rw [zeq_iff, q6, ei]
    · rw [en]; exact q7
    · rw [en]; exact q8
    · rw [ei]; omega
  · obtain ⟨p1, p2, p3, p4⟩ := h3 h hh
    exact ⟨p1, p2, p3, p4, t1 h hh⟩
/-- what a going leaves alone is all that holds between calls -/
theorem zC_going {n : Nat} {kd : zMK} {I I' M : zMI} {R R' : zMR} {L s t : Nat} {A : Nat → Nat} (hC : zC zT0 n kd I R) (hB : zB0 n kd R L s t A I I) (hA : ∀ w, (I 81 3).toInt.toNat ≤ w → A w = 0) (hI : zFX A s I I') (hM : zFM I' M) (hR : ∀ b, b ≠ 42 → b ≠ 44 → R' b = R b) : zC zT0 n kd M R' := by
  obtain ⟨ha, hb, hs, hn, hc⟩ := zB0_A hB
  have hC0 := hC
  obtain ⟨h1, h2, h3, h4, h5, h6, h7, t1, t2, t3⟩ := hC
  have h2' := h2
  obtain ⟨e1, e2, e3, e4, e5, r3, r2, r11, r12, r8⟩ := h2'
  obtain ⟨hX, -, hw, -, l1, l2, l3, l4, l5, l6⟩ := hB
  have hLb := zLo_big l5.1
  -- fixed rows of the class
  have row : ∀ b, 0 < b → b < 81 → b ≠ 42 → b ≠ 45 → (b < 46 ∨ 54 < b) → b ≠ s → b ≠ s + 1 → M b = I b := fun b y0 y1 y2 y3 y4 y5 y6 => by
    rw [hM.1 b (by omega) (by omega), hI.1 b y2 y3 y4 (fun w x => by have := hb w x; omega) y5 y6]
  have row2 : ∀ b, 81 < b → b ≤ 96 → M b = I b := fun b y0 y1 => by
    rw [hM.1 b (by omega) (by omega), hI.1 b (by omega) (by omega) (by omega) (fun w x => by have := hb w x; omega) (by omega) (by omega)]
  have I81 : I' 81 = I 81 := hI.1 81 (by decide) (by decide) (by decide) (fun w x => by have := hb w x; omega) (by omega) (by omega)
  have M81 : ∀ j, j < 34 → M 81 j = I 81 j := fun j hj => by rw [hM.2 j hj, I81]
  have M32 : M 32 = I 32 := row 32 (by decide) (by decide) (by decide) (by decide) (by decide) (by omega) (by omega)
  have Mr : ∀ b, 33 ≤ b → b ≤ 38 → M b = I b := fun b x y => row b (by omega) (by omega) (by omega) (by omega) (by omega) (by omega) (by omega)
  have aw : ∀ w, w < (I 81 3).toInt.toNat → 114 ≤ A w := fun w x => zwl_big hX.1 (hw w x).2.1
  have Ma : ∀ w j, w < (I 81 3).toInt.toNat → j < 3 → M (A w) j = I (A w) j := fun w j x y => by
    have := aw w x
    rw [hM.1 (A w) (by omega) (by omega), hI.2.1 w j (by omega) y]
  refine zC_mk zT0_q hC0 ?_ (zCh_eq h3 (Mr 33 (by decide) (by decide)) (Mr 34 (by decide) (by decide)) (row2 82 (by decide) (by decide)) (row2 83 (by decide) (by decide))) (zCt_eq h4 (M81 8 (by decide)) (Mr 38 (by decide) (by decide)) (row2 87 (by decide) (by decide))) (zCs_eq h5 (fun a x y => row a (by omega) (by omega) (by omega) (by omega) (by omega) (by omega) (by omega)) (row2 91 (by decide) (by decide)) (row2 92 (by decide) (by decide)) (row2 93 (by decide) (by decide))) ?_ (fun i hi => ?_) (M81 11 (by decide)) (fun h hh => ?_) (fun a hta hts => ?_) (fun a hx => hR a (by omega) (by omega))
  · unfold zCn at h2 ⊢
    rw [M32, Mr 37 (by decide) (by decide), M81 3 (by decide), M81 2 (by decide), M81 11 (by decide), M81 12 (by decide), M81 8 (by decide)]
    exact h2
  · unfold zCi at h6 ⊢
    rw [M32, M81 13 (by decide), M81 14 (by decide), M81 15 (by decide), M81 16 (by decide), M81 3 (by decide), M81 11 (by decide), row 64 (by decide) (by decide) (by decide) (by decide) (by decide) (by omega) (by omega), row 65 (by decide) (by decide) (by decide) (by decide) (by decide) (by omega) (by omega), row 66 (by decide) (by decide) (by decide) (by decide) (by decide) (by omega) (by omega), row2 90 (by decide) (by decide)]
    exact h6
  · rw [M81 3 (by decide)] at hi
    obtain ⟨a, q1, q2, q3, q4⟩ := h7 i hi
    have eA : A i = a := by
      have := (hw i hi).1
      rw [q1] at this
      cases this
      rfl
    refine ⟨a, by rw [hR 35 (by decide) (by decide)]; exact q1, q2, q3, ?_⟩
    have m0 := Ma i 0 hi (by decide)
    have m1 := Ma i 1 hi (by decide)
    have m2 := Ma i 2 hi (by decide)
    rw [eA] at m0 m1 m2
    rw [m0, m1, m2, row2 84 (by decide) (by decide), row2 85 (by decide) (by decide), row2 86 (by decide) (by decide)]
    exact q4
  · rw [hM.1 (46 + h) (by omega) (by omega), hI.2.2 h hh]
  · have ns : a ≠ s ∧ a ≠ s + 1 := by
      have r2' := l5.1.2.2.2.2.2.2.2.2.2.1
      have r3' := l5.1.2.2.2.2.2.2.2.2.2.2.1
      have tl : t < (I 81 11).toInt.toNat := by omega
      refine ⟨fun q => hts ⟨t, L, tl, l4, Or.inl ?_⟩, fun q => hts ⟨t, L, tl, l4, Or.inr ?_⟩⟩
      · rw [q]; exact r2'
      · rw [q]; exact r3'
    have nA : ∀ w, w < 5 → a ≠ A w := fun w hw5 q => by
      unfold zTa at hta
      rcases hb w hw5 with x | x
      · omega
      · by_cases c : w < (I 81 3).toInt.toNat
        · have k := (hw w c).2.1.2.1
          have := zkc_ne (k := I 84 (Int32.ofNat w).toNatClampNeg)
          rw [← q] at k
          omega
        · have := hA w (by omega)
          omega
    unfold zTa at hta
    rw [hM.1 a (by omega) (by omega), hI.1 a (by omega) (by omega) (by omega) nA ns.1 ns.2]
