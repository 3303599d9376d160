/-! pure part: goings under any text -/
/-- what a going under any text leaves alone -/
theorem zC_going2 {n : Nat} {kd : zMK} {I I' M : zMI} {R R' : zMR} {L s t : Nat} {A : Nat → Nat} (hC : zC zT0 n kd I R) (hX : zCx n kd A s) (hw : ∀ w, w < (I 81 3).toInt.toNat → R 35 w = some (A w) ∧ zwl n kd I I (A w) (Int32.ofNat w)) (tl : t < (I 81 11).toInt.toNat) (l4 : R 36 t = some L) (l5 : zLo n kd R L s) (hA : ∀ w, (I 81 3).toInt.toNat ≤ w → A w = 0) (hI : zFX A s I I') (hM : zFM I' M) (hR : ∀ b, b ≠ 42 → b ≠ 44 → R' b = R b) : zC zT0 n kd M R' := by
  have hb : ∀ w, w < 5 → A w = 0 ∨ 114 ≤ A w := fun w hw => (zCx_A hX hw).2.2
  have hs := hX.2.1
  have hC0 := hC
  obtain ⟨h1, h2, h3, h4, h5, h6, h7, t1, t2, t3⟩ := hC
  have h2' := h2
  obtain ⟨e1, e2, e3, e4, e5, r3, r2, r11, r12, r8⟩ := h2'
  have hLb := zLo_big l5
  -- fixed rows of the class
  have row : ∀ b, 0 < b → b < 81 → b ≠ 42 → b ≠ 45 → (b < 46 ∨ 54 < b) → b ≠ s → b ≠ s + 1 → M b = I b := fun b y0 y1 y2 y3 y4 y5 y6 => by
    rw [hM.1 b (by omega) (by omega), hI.1 b y2 y3 y4 (fun w x => by have := hb w x; omega) y5 y6]
  have row2 : ∀ b, 81 < b → b ≤ 96 → M b = I b := fun b y0 y1 => by
    rw [hM.1 b (by omega) (by omega), hI.1 b (by omega) (by omega) (by omega) (fun w x => by have := hb w x; omega) (by omega) (by omega)]
  have I81 : I' 81 = I 81 := hI.1 81 (by decide) (by decide) (by decide) (fun w x => by have := hb w x; omega) (by omega) (by omega)
  have M81 : ∀ j, j < 34 → M 81 j = I 81 j := fun j hj => by rw [hM.2 j hj, I81]
  have M32 : M 32 = I 32 := row 32 (by decide) (by decide) (by decide) (by decide) (by decide) (by omega) (by omega)
  have Mr : ∀ b, 33 ≤ b → b ≤ 38 → M b = I b := fun b x y => row b (by omega) (by omega) (by omega) (by omega) (by omega) (by omega) (by omega)
  have aw : ∀ w, w < (I 81 3).toInt.toNat → 114 ≤ A w := fun w x => zwl_big hX.1 (hw w x).2
  have Ma : ∀ w j, w < (I 81 3).toInt.toNat → j < 3 → M (A w) j = I (A w) j := fun w j x y => by
    have := aw w x
    rw [hM.1 (A w) (by omega) (by omega), hI.2.1 w j (by omega) y]
  refine zC_mk zT0_q hC0 ?_ (zCh_eq h3 (Mr 33 (by decide) (by decide)) (Mr 34 (by decide) (by decide)) (row2 82 (by decide) (by decide)) (row2 83 (by decide) (by decide))) (zCt_eq h4 (M81 8 (by decide)) (Mr 38 (by decide) (by decide)) (row2 87 (by decide) (by decide))) (zCs_eq h5 (fun a x y => row a (by omega) (by omega) (by omega) (by omega) (by omega) (by omega) (by omega)) (row2 91 (by decide) (by decide)) (row2 92 (by decide) (by decide)) (row2 93 (by decide) (by decide))) ?_ (fun i hi => ?_) (M81 11 (by decide)) (fun h hh => ?_) (fun a hta hts => ?_) (fun a hx => hR a (by omega) (by omega))
  · unfold zCn at h2 ⊢
    rw [M32, Mr 37 (by decide) (by decide), M81 3 (by decide), M81 2 (by decide), M81 11 (by decide), M81 12 (by decide), M81 8 (by decide)]
    exact h2
  · unfold zCi at h6 ⊢
    rw [M32, M81 13 (by decide), M81 14 (by decide), M81 15 (by decide), M81 16 (by decide), M81 3 (by decide), M81 11 (by decide), row 64 (by decide) (by decide) (by decide) (by decide) (by decide) (by omega) (by omega), row 65 (by decide) (by decide) (by decide) (by decide) (by decide) (by omega) (by omega), row 66 (by decide) (by decide) (by decide) (by decide) (by decide) (by omega) (by omega), row2 90 (by decide) (by decide)]
    exact h6
  · rw [M81 3 (by decide)] at hi
    obtain ⟨a, q1, q2, q3, q4⟩ := h7 i hi
    have eA : A i = a := by
      have := (hw i hi).1
      rw [q1] at this
      cases this
      rfl
    refine ⟨a, by rw [hR 35 (by decide) (by decide)]; exact q1, q2, q3, ?_⟩
    have m0 := Ma i 0 hi (by decide)
    have m1 := Ma i 1 hi (by decide)
    have m2 := Ma i 2 hi (by decide)
    rw [eA] at m0 m1 m2
    rw [m0, m1, m2, row2 84 (by decide) (by decide), row2 85 (by decide) (by decide), row2 86 (by decide) (by decide)]
    exact q4
  · rw [hM.1 (46 + h) (by omega) (by omega), hI.2.2 h hh]
  · have ns : a ≠ s ∧ a ≠ s + 1 := by
      have r2' := l5.2.2.2.2.2.2.2.2.2.1
      have r3' := l5.2.2.2.2.2.2.2.2.2.2.1
      refine ⟨fun q => hts ⟨t, L, tl, l4, Or.inl ?_⟩, fun q => hts ⟨t, L, tl, l4, Or.inr ?_⟩⟩
      · rw [q]; exact r2'
      · rw [q]; exact r3'
    have nA : ∀ w, w < 5 → a ≠ A w := fun w hw5 q => by
      unfold zTa at hta
      rcases hb w hw5 with x | x
      · omega
      · by_cases c : w < (I 81 3).toInt.toNat
        · have k := (hw w c).2.2.1
          have := zkc_ne (k := I 84 (Int32.ofNat w).toNatClampNeg)
          rw [← q] at k
          omega
        · have := hA w (by omega)
          omega
    unfold zTa at hta
    rw [hM.1 a (by omega) (by omega), hI.1 a (by omega) (by omega) (by omega) nA ns.1 ns.2]
theorem zFM_up81 {J M : zMI} {k : Nat} {x y : Int32} (h : zFM (uI J 81 k x) M) : zFM (uI J 81 k y) (uI M 81 k y) := by
  refine ⟨fun b h1 h2 => ?_, fun j hj => ?_⟩
  · rw [uI_ne h1, uI_ne h1, h.1 b h1 h2, uI_ne h1]
  · by_cases c : j = k
    · rw [c, uI_at, uI_at]
    · rw [uI_off c, uI_off c, h.2 j hj, uI_off c]
theorem zLo_far {n : Nat} {kd : zMK} {R : zMR} {L s c s' i : Nat} (h : zLo n kd R L s) (h' : zLo n kd R c s') (hi : 2 ≤ i) (hi4 : i ≤ 4) : s + i ≠ s' ∧ s + i ≠ s' + 1 :=
  ⟨fun e => zLo_apart h h' (show 1 ≤ i by omega) hi4 e.symm, fun e => zLo_apart h h' (show 1 ≤ i - 1 by omega) (by omega) (by omega)⟩
section
variable {n : Nat} {kd : zMK}
theorem zlawsL {s1 sec f0 : Int32} (cs : 0 ≤ s1.toInt ∧ s1.toInt ≤ 3) (ct : 0 ≤ sec.toInt ∧ sec.toInt ≤ 600) : ∀ (d q : Nat) (l4 l5 : Int32) (I : zMI) (R : zMR), zC zT0 n kd I R → l5.toInt + d = (I 81 11).toInt → 0 ≤ l5.toInt → d < q → I 81 12 = f0 →
    ∃ v I' R', f11_laws_L19 n kd q s1 sec l4 l5 I R = some (v, I', R') ∧ zC zT0 n kd I' R' ∧ (∀ b, 81 ≤ b → b < 114 → I' b = I b) ∧ ∀ q' J, d < q' → zFw I (uI J 81 12 f0) → J 93 = I 93 → ∃ J', f12_laws_L25 q' s1 sec f0 l4 l5 J = some (v, J') ∧ zFM (uI J 81 12 f0) J' := by
  intro d
  induction d with
  | zero =>
    intro q l4 l5 I R hC e h0 hq ef
    obtain ⟨q, rfl⟩ : ∃ p, q = p + 1 := ⟨q - 1, by omega⟩
    have e6 := hC.2.1.2.2.1
    refine ⟨l4, I, R, ?_, hC, fun _ _ _ => rfl, fun q' J hq' hJ h93 => ⟨uI J 81 12 f0, ?_, zFM_rfl⟩⟩
    · unfold f11_laws_L19
      rw [e6, if_pos (by rw [zle_iff]; omega)]
    · obtain ⟨q', rfl⟩ : ∃ p, q' = p + 1 := ⟨q' - 1, by omega⟩
      have e11 : J 81 11 = I 81 11 := by
        have := hJ.2 11 (by decide)
        rw [uI_off (by decide)] at this
        exact this
      unfold f12_laws_L25
      rw [e11, if_pos (by rw [zle_iff]; omega), zl_eq]
  | succ d ih =>
    intro q l4 l5 I R hC e h0 hq ef
    obtain ⟨q, rfl⟩ : ∃ p, q = p + 1 := ⟨q - 1, by omega⟩
    have e1 := zsucc e
    have e6 := hC.2.1.2.2.1
    have r11 := hC.2.1.2.2.2.2.2.2.2.1
    obtain ⟨L, s, hB⟩ := zC_B0 hC
    have tt : (I 81 12).toInt.toNat < (I 81 11).toInt.toNat := by
      have := hC.2.1.2.2.2.2.2.2.2.2.1
      omega
    obtain ⟨L', s', k1, k2⟩ := hC.2.2.2.2.2.2.2.2.2 l5.toInt.toNat (by omega)
    obtain ⟨I1, R1, x1, x2⟩ := zlayP hB
    obtain ⟨g, hg, hX, hh, hF, hR⟩ := id x2
    have hb2 := zLo_big k2.1
    -- texts stay as they are while heaps are laid
    have hw35 : ∀ w, w < (I 81 3).toInt.toNat → R 35 w = some (zAd (I 81 3).toInt.toNat R w) ∧ zwl n kd I I (zAd (I 81 3).toInt.toNat R w) (Int32.ofNat w) := fun w hw => ⟨(hB.2.2.1 w hw).1, (hB.2.2.1 w hw).2.1⟩
    have hC1 : zC zT0 n kd I1 R1 := zC_going hC hB zAd_0 hF zFM_rfl hR
    have I1m : ∀ b, 81 ≤ b → b < 114 → I1 b = I b := fun b y1 y2 => zB0_rows hB hF b (by omega) (by omega) (by omega) (by omega) (by omega) (by omega)
    have R36 : R1 36 = R 36 := hR 36 (by decide) (by decide)
    have hX' : zCx n kd (zAd (I 81 3).toInt.toNat R) s' := by
      obtain ⟨y1, y2, y3, y4, y5⟩ := hB.1
      exact ⟨y1, by omega, by rw [k2.1.2.2.2.1], by rw [k2.1.2.2.2.2.1], y5⟩
    have hLoR : ∀ Q : zMR, Q L' = R L' → zLo n kd Q L' s' := fun Q hQ => by
      have := k2.1
      unfold zLo at this ⊢
      rw [hQ]
      exact this
    have lrow : ∀ i, 2 ≤ i → i ≤ 4 → I1 (s' + i) = I (s' + i) := fun i i2 i4 => by
      have fr := zLo_far k2.1 hB.2.2.2.2.2.2.2.2.1.1 i2 i4
      have kz : (kd (s' + i)).1 = 0 := by
        rcases (show i = 2 ∨ i = 3 ∨ i = 4 by omega) with q | q | q
        · rw [q, k2.1.2.2.2.2.2.1]
        · rw [q]; exact k2.1.2.2.2.2.2.2.1
        · rw [q, k2.1.2.2.2.2.2.2.2.2.1]
      exact hF.1 (s' + i) (by omega) (by omega) (by omega) (fun w hw => (zB0_A hB).2.2.2.2 _ kz (by omega) w hw) fr.1 fr.2
    have key : ∀ J, zFw I (uI J 81 12 f0) → J 93 = I 93 → ∃ I2 M, f0_pass n kd (uR R1 42 7 (some L')) sec I1 = some I2 ∧ f12_goesPlain sec (uI J 81 12 l5) = some M ∧ (∃ v, f11_firstOtherwise I2 s1 = some v ∧ f12_unlikeNow M s1 = some v) ∧ zFX (zAd (I 81 3).toInt.toNat R) s' I1 I2 ∧ zFM (uI J 81 12 l5) M := fun J hJ h93 => by
      have hBJ := zB0_K hB hJ
      have c3 : (uI J 81 12 f0) 81 3 = I 81 3 := hJ.2 3 (by decide)
      have x2' : zlaid L s (zAd (I 81 3).toInt.toNat R) I R (uI J 81 12 f0 81 3).toInt I1 R1 := by rw [c3]; exact x2
      obtain ⟨p1, p2⟩ := zlaid_w hBJ x2'
      have jr : ∀ b, b ≠ 81 → uI J 81 12 l5 b = uI J 81 12 f0 b := fun b hb => by rw [uI_ne hb, uI_ne hb]
      have lw : zLw n kd (uR R1 42 7 (some L')) L' s' I1 (uI J 81 12 l5) l5.toInt.toNat := by
        refine ⟨hLoR _ ?_, zLx_eq k2.2 (lrow 2 (by decide) (by decide)) (lrow 3 (by decide) (by decide)) (lrow 4 (by decide) (by decide)) ?_ ?_⟩
        · rw [uR_ne (by omega), hR L' (by omega) (by omega)]
        · rw [jr 88 (by decide), hJ.1 88 (by decide) (by decide)]
        · rw [jr 89 (by decide), hJ.1 89 (by decide) (by decide)]
      obtain ⟨J0, J1, y1, y2, y3, y4⟩ := zlayV hBJ (I1' := I1) (J' := uI J 81 12 l5) (R1' := uR R1 42 7 (some L')) (L' := L') (s' := s') (t' := l5.toInt.toNat) x2' (fun _ _ _ _ => rfl) (fun w hw => by rw [jr 86 (by decide)]; exact p1 w hw) (fun h hh9 => by rw [jr 82 (by decide), jr 83 (by decide)]; exact p2 h hh9) (jr 84 (by decide)) (jr 85 (by decide)) (fun j _ hj => by rw [uI_off hj, uI_off hj]) (fun b j hb => by rw [uR_ne hb]) ⟨uR_at, lw, by rw [uI_at]; omega, by omega⟩
      obtain ⟨I2, M, w1, w2, w3, w4, w5⟩ := zgoV hX' y1 y2 y3 y4 ct
      have hc2 : zcel s1 I2 M := fun i hi => by
        have hA := (zB0_A hB).2.1
        rw [w4.1 _ (by omega) (by omega) (by omega) (fun w hw => by have := hA w hw; omega) (by omega) (by omega), w5.1 93 (by decide) (by decide), jr 93 (by decide), uI_ne (by decide), h93, zB0_rows hB hF _ (by omega) (by omega) (by omega) (by omega) (by omega) (by omega)]
        exact zcel_C hC cs i hi
      exact ⟨I2, M, w1, w2, zunlike cs hc2 (fun h' h9' => (w3.2.2.2.1 h' h9').2.1), zFX_I w4, w5⟩
    obtain ⟨I2, Mx, a1, -, ⟨v0, a2, -⟩, a4, -⟩ := key I ⟨fun b _ _ => by rw [uI_ne (by omega)], fun j _ => by rw [← ef, uI_self]⟩ rfl
    have hC2 : zC zT0 n kd I2 (uR R1 42 7 (some L')) := zC_going2 (t := l5.toInt.toNat) hC1 hX' (fun w hw => by
      rw [I1m 81 (by decide) (by decide)] at hw
      obtain ⟨y1, y2⟩ := hw35 w hw
      have e84 := I1m 84 (by decide) (by decide)
      have e85 := I1m 85 (by decide) (by decide)
      have w5 : w < 5 := by
        have := hB.2.1.2.2.1
        omega
      exact ⟨by rw [hR 35 (by decide) (by decide)]; exact y1, zwl_eq y2 (hF.2.1 w 0 w5 (by decide)) (hF.2.1 w 1 w5 (by decide)) e84 e85⟩) (by rw [I1m 81 (by decide) (by decide)]; omega) (by rw [R36]; exact k1) (hLoR R1 (hR L' (by omega) (by omega))) (fun w hw => by rw [I1m 81 (by decide) (by decide)] at hw; exact zAd_0 w hw) a4 zFM_rfl (fun b y1 y2 => by rw [uR_ne y1])
    have I2m : ∀ b, 81 ≤ b → b < 114 → I2 b = I b := fun b y1 y2 => by
      have hA := (zB0_A hB).2.1
      rw [a4.1 b (by omega) (by omega) (by omega) (fun w hw => by have := hA w hw; omega) (by omega) (by omega), I1m b y1 y2]
    have hstep : ∀ J, zFw I (uI J 81 12 f0) → J 93 = I 93 → ∃ M, f12_unlike s1 sec (uI J 81 12 l5) = some (v0, M) ∧ zFM (uI J 81 12 f0) (uI M 81 12 f0) ∧ zFw I2 (uI M 81 12 f0) ∧ M 93 = I2 93 := fun J hJ h93 => by
      obtain ⟨I2', M, b1, b2, ⟨v1, b3, b3'⟩, b4, b5⟩ := key J hJ h93
      rw [a1] at b1
      cases b1
      rw [a2] at b3
      cases b3
      have fm := zFM_up81 (y := f0) b5
      refine ⟨M, ?_, fm, ?_, ?_⟩
      · unfold f12_unlike
        rw [b2, zb_some, b3', zb_some]
      · have := zFw_tr hJ (zFw_M fm)
        exact ⟨fun b y1 y2 => by rw [this.1 b y1 y2, I2m b (by omega) (by omega)], fun j hj => by rw [this.2 j hj, I2m 81 (by decide) (by decide)]⟩
      · rw [b5.1 93 (by decide) (by decide), uI_ne (by decide), h93, I2m 93 (by decide) (by decide)]
    have F : f11_laws_L19 n kd (q + 1) s1 sec l4 l5 I R = f11_laws_L19 n kd q s1 sec (l4 ||| (if v0 = (-1 : Int32) then (((1 : Int32) <<< (l5 &&& 31))) else ((0 : Int32)))) (l5 + 1) I2 (uR R1 42 7 (some L')) := by
      have I1_6 : I1 32 6 = I 32 6 := by rw [zB0_rows hB hF 32 (by decide) (by decide) (by decide) (by decide) (by decide) (by decide)]
      rw [f11_laws_L19]
      rw [e6, if_neg (by rw [zle_iff]; omega), x1, zb_some]
      dsimp only
      rw [g11_textOf2 h0 (by rw [I1_6, e6]; omega) (by rw [I1_6, e6]; omega), R36, k1, zb_some, zl_eq, a1, zb_some, a2, zb_some, zl_eq]
    obtain ⟨v, I', R', u1, u2, u3, u4⟩ := ih q (l4 ||| (if v0 = (-1 : Int32) then (((1 : Int32) <<< (l5 &&& 31))) else ((0 : Int32)))) (l5 + 1) I2 (uR R1 42 7 (some L')) hC2 (by rw [I2m 81 (by decide) (by decide)]; omega) (by omega) (by omega) (by rw [I2m 81 (by decide) (by decide)]; exact ef)
    refine ⟨v, I', R', by rw [F]; exact u1, u2, fun b y1 y2 => by rw [u3 b y1 y2, I2m b y1 y2], fun q' J hq' hJ h93 => ?_⟩
    obtain ⟨q', rfl⟩ : ∃ p, q' = p + 1 := ⟨q' - 1, by omega⟩
    obtain ⟨M, y1, y2, y3, y4⟩ := hstep J hJ h93
    obtain ⟨J', z1', z2'⟩ := u4 q' M (by omega) y3 y4
    refine ⟨J', ?_, zFM_tr y2 z2'⟩
    have e11 : J 81 11 = I 81 11 := by
      have := hJ.2 11 (by decide)
      rw [uI_off (by decide)] at this
      exact this
    rw [f12_laws_L25]
    rw [e11, if_neg (by rw [zle_iff]; omega), zl_eq, y1, zb_some, zl_eq]
    exact z1'
end
theorem zH27_ok : zH27 (zC zT0) := fun n kd I R s sec hC => by
  have hs := hC.2.2.2.2.1
  by_cases c0 : zjdg I s sec = 0
  · obtain ⟨cs, ct⟩ := zjdg_0 c0
    have r11 := hC.2.1.2.2.2.2.2.2.2.1
    obtain ⟨v, I', R', u1, u2, u3, u4⟩ := zlawsL (f0 := I 81 12) cs ct (I 81 11).toInt.toNat zF 0 0 I R hC (by rw [z0]; omega) (by rw [z0]; omega) (by unfold zF; omega) rfl
    have e81 : I' 81 = I 81 := u3 81 (by decide) (by decide)
    have self' : uI I' 81 12 (I 81 12) = I' := by rw [← e81, uI_self]
    obtain ⟨J', y1, y2⟩ := u4 zF I' (by unfold zF; omega) (by rw [self']; exact ⟨fun b z1' z2' => u3 b (by omega) (by omega), fun j _ => by rw [e81]⟩) (u3 93 (by decide) (by decide))
    rw [self'] at y2
    obtain ⟨L, s', hB⟩ := zC_B0 u2
    refine ⟨(v, I', R'), ?_, (v, J'), ?_, rfl, zC_going u2 hB zAd_0 zFX_rfl y2 (fun _ _ _ => rfl)⟩
    · unfold f11_laws
      rw [g11_judging hs, zb_some, if_pos c0]
      exact u1
    · unfold f12_laws
      dsimp only
      rw [g12_judging, zb_some, if_pos (by rw [zjdg_keep (u3 91 (by decide) (by decide)) (u3 92 (by decide) (by decide))]; exact c0), e81]
      exact y1
  · refine ⟨(zjdg I s sec, I, R), ?_, (zjdg I s sec, I), ?_, rfl, hC⟩
    · unfold f11_laws
      rw [g11_judging hs, zb_some, if_neg c0]
    · unfold f12_laws
      rw [g12_judging, zb_some, if_neg c0]
