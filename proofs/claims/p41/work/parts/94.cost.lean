/-! pure part: what one heap costs one walker, at the going's beginning -/
def zQ (n : Nat) (kd : zMK) (R : zMR) (L s t : Nat) (A : Nat → Nat) (I J : zMI) : Prop := zSh n kd ∧ (I 32 4 = J 81 3 ∧ (0 ≤ (J 81 3).toInt ∧ (J 81 3).toInt ≤ 5) ∧ I 42 3 = J 81 3) ∧ (R 42 7 = some L ∧ zLw n kd R L s I J t ∧ (J 81 12).toInt = (t : Int) ∧ t < 6) ∧ (∀ w, w < (J 81 3).toInt.toNat → R 35 w = some (A w) ∧ zwl n kd I J (A w) (Int32.ofNat w)) ∧ ∀ h, h < 9 → I (46 + h) 0 = Int32.ofNat h ∧ I (46 + h) 1 = J 82 h
/-- what planning changes -/
def zQI (s : Nat) (I I' : zMI) : Prop := ∀ b, (b < 57 ∨ 63 < b) → b ≠ s → b ≠ s + 1 → I' b = I b
def zQJ (J J' : zMI) : Prop := (∀ b, b ≠ 81 → b ≠ 97 → b ≠ 98 → b ≠ 111 → b ≠ 112 → J' b = J b) ∧ ∀ j, j < 34 → J' 81 j = J 81 j
theorem zQI_rfl {s : Nat} {I : zMI} : zQI s I I := fun _ _ _ _ => rfl
theorem zQJ_rfl {J : zMI} : zQJ J J := ⟨fun _ _ _ _ _ _ => rfl, fun _ _ => rfl⟩
theorem zQI_tr {s : Nat} {I I' I'' : zMI} (h : zQI s I I') (h' : zQI s I' I'') : zQI s I I'' := fun b x y z => by rw [h' b x y z, h b x y z]
theorem zQJ_tr {J J' J'' : zMI} (h : zQJ J J') (h' : zQJ J' J'') : zQJ J J'' := ⟨fun b x1 x2 x3 x4 x5 => by rw [h'.1 b x1 x2 x3 x4 x5, h.1 b x1 x2 x3 x4 x5], fun j x => by rw [h'.2 j x, h.2 j x]⟩
section
variable {n : Nat} {kd : zMK} {R : zMR} {L s t : Nat} {A : Nat → Nat} {I J I' J' : zMI}
theorem zQ_keep (h : zQ n kd R L s t A I J) (hI : zQI s I I') (hJ : zQJ J J') : zQ n kd R L s t A I' J' := by
  obtain ⟨hS, ⟨a1, a2, a3⟩, ⟨b1, b2, b3, b4⟩, hw, hh⟩ := h
  have hb := zLo_big b2.1
  obtain ⟨-, g2, g3, g4, g5, g6, g7, g8, g9, -⟩ := id b2.1
  have j3 := hJ.2 3 (by decide)
  refine ⟨hS, ⟨?_, ?_, ?_⟩, ⟨b1, ⟨b2.1, zLx_eq b2.2 (hI _ (by omega) (by omega) (by omega)) (hI _ (by omega) (by omega) (by omega)) (hI _ (by omega) (by omega) (by omega)) (hJ.1 88 (by decide) (by decide) (by decide) (by decide) (by decide)) (hJ.1 89 (by decide) (by decide) (by decide) (by decide) (by decide))⟩, by rw [hJ.2 12 (by decide)]; exact b3, b4⟩, fun w x => ?_, fun h x => ?_⟩
  · rw [hI 32 (by decide) (by omega) (by omega), j3]; exact a1
  · rw [j3]; exact a2
  · rw [hI 42 (by decide) (by omega) (by omega), j3]; exact a3
  · rw [j3] at x
    obtain ⟨y1, y2⟩ := hw w x
    have big := zwl_big hS y2
    have n1 := zwl_ne y2 (show (kd s).1 = 0 by rw [g4])
    have n2 := zwl_ne y2 (show (kd (s + 1)).1 = 0 by rw [g5])
    have r := hI (A w) (by omega) n1 n2
    exact ⟨y1, zwl_eq y2 (by rw [r]) (by rw [r]) (hJ.1 84 (by decide) (by decide) (by decide) (by decide) (by decide)) (hJ.1 85 (by decide) (by decide) (by decide) (by decide) (by decide))⟩
  · rw [hI (46 + h) (by omega) (by omega) (by omega), hJ.1 82 (by decide) (by decide) (by decide) (by decide) (by decide)]
    exact hh h x
/-- the cost, as the reference finds it -/
def zkst (J : zMI) (w h : Int32) : Option Int32 := zb (f12_takesOf w h (J 82 h.toNatClampNeg) 0 J) fun p => zb (f12_stepsOf w h (p.2 82 h.toNatClampNeg) 0 p.2) fun p' => some (p.1 + p'.1)
/-- both sides find it -/
theorem zcost1 (hQ : zQ n kd R L s t A I J) {w : Nat} {h : Int32} (hw : w < (J 81 3).toInt.toNat) (h0 : 0 ≤ h.toInt) (h9 : h.toInt < 9) :
    ∃ v1 v2 I1 I2 J1 J2, f0_takesOf n kd R (A w) (46 + h.toInt.toNat) 0 I = some (v1, I1) ∧ f0_stepOf n kd R (A w) (46 + h.toInt.toNat) 0 I1 = some (v2, I2) ∧ f12_takesOf (Int32.ofNat w) h (J 82 h.toNatClampNeg) 0 J = some (v1, J1) ∧ f12_stepsOf (Int32.ofNat w) h (J1 82 h.toNatClampNeg) 0 J1 = some (v2, J2) ∧ zQI s I I2 ∧ zQJ J J2 ∧ (∀ b, b ≠ 97 → b ≠ 98 → J2 b = J b) ∧ (∀ b, b ≠ s → b ≠ s + 1 → I2 b = I b) ∧ zkst J (Int32.ofNat w) h = some (v1 + v2) ∧ (2 ≤ (v1 + v2).toInt ∧ (v1 + v2).toInt ≤ 80) := by
  have nh : h.toNatClampNeg = h.toInt.toNat := zcl_iff h
  have eh : Int32.ofNat h.toInt.toNat = h := zofn h0
  obtain ⟨hS, ⟨a1, a2, a3⟩, ⟨b1, b2, b3, b4⟩, hw', hh⟩ := id hQ
  obtain ⟨y1, y2⟩ := hw' w hw
  obtain ⟨x1, x2⟩ := hh h.toInt.toNat (by omega)
  rw [eh] at x1
  obtain ⟨v1, I1, J1, p1, p2, p3, p4, p5⟩ := ztakes (done := 0) b1 b2 b3 b4 y2 (show h.toInt.toNat < 9 by omega) x1 x2 a3
  have hb := zLo_big b2.1
  have qI : zQI s I I1 := fun b _ z1' z2' => p3 b z1' z2'
  have qJ : zQJ J J1 := ⟨fun b _ z1' z2' _ _ => p4 b z1' z2', fun j _ => by rw [p4 81 (by decide) (by decide)]⟩
  have hQ1 := zQ_keep hQ qI qJ
  have e3 : J1 81 3 = J 81 3 := qJ.2 3 (by decide)
  obtain ⟨hS', ⟨a1', a2', a3'⟩, ⟨b1', b2', b3', b4'⟩, hw'', hh'⟩ := hQ1
  obtain ⟨y1', y2'⟩ := hw'' w (by rw [e3]; exact hw)
  obtain ⟨x1', x2'⟩ := hh' h.toInt.toNat (by omega)
  rw [eh] at x1'
  obtain ⟨v2, I2, J2, r1, r2, r3, r4, r5⟩ := zsteps (done := 0) b1' b2' b3' b4' y2' (show h.toInt.toNat < 9 by omega) x1' x2' a3'
  have sm : (v1 + v2).toInt = v1.toInt + v2.toInt := zadd (by omega) (by omega)
  refine ⟨v1, v2, I1, I2, J1, J2, p1, r1, by rw [nh]; exact p2, by rw [nh]; exact r2, zQI_tr qI (fun b _ z1' z2' => r3 b z1' z2'), zQJ_tr qJ ⟨fun b _ z1' z2' _ _ => r4 b z1' z2', fun j _ => by rw [r4 81 (by decide) (by decide)]⟩, fun b z1' z2' => by rw [r4 b z1' z2', p4 b z1' z2'], fun b z1' z2' => by rw [r3 b z1' z2', p3 b z1' z2'], ?_, by omega⟩
  unfold zkst
  rw [nh, p2, zb_some]
  dsimp only
  rw [r2, zb_some]
/-- and it stays -/
theorem zkst_keep (hQ : zQ n kd R L s t A I J) (hJ : zQJ J J') {w : Nat} {h : Int32} (hw : w < (J 81 3).toInt.toNat) (h0 : 0 ≤ h.toInt) (h9 : h.toInt < 9) : zkst J' (Int32.ofNat w) h = zkst J (Int32.ofNat w) h := by
  obtain ⟨v1, v2, I1, I2, J1, J2, p1, p2, -, -, -, -, -, -, p5, -⟩ := zcost1 hQ hw h0 h9
  obtain ⟨u1, u2, K1, K2, M1, M2, q1, q2, -, -, -, -, -, -, q5, -⟩ := zcost1 (zQ_keep hQ zQI_rfl hJ) (w := w) (h := h) (by rw [hJ.2 3 (by decide)]; exact hw) h0 h9
  rw [p1] at q1
  cases q1
  rw [p2] at q2
  cases q2
  rw [p5, q5]
/-- the table -/
def zct (J : zMI) (w h : Nat) : Int := ((zkst J (Int32.ofNat w) (Int32.ofNat h)).getD 0).toInt
/-- a stretch's seconds -/
def zsm (f : Nat → Int) (a : Nat) : Nat → Int
  | 0 => 0
  | k + 1 => zsm f a k + f (a + k)
theorem zsm_tail {f : Nat → Int} : ∀ (k a : Nat), zsm f a (k + 1) = f a + zsm f (a + 1) k := by
  intro k
  induction k with
  | zero => intro a; simp [zsm]
  | succ k ih =>
    intro a
    rw [zsm, ih a, zsm, show a + (k + 1) = a + 1 + k by omega]
    omega
theorem zct_r (hQ : zQ n kd R L s t A I J) {w h : Nat} (hw : w < (J 81 3).toInt.toNat) (h9 : h < 9) : 2 ≤ zct J w h ∧ zct J w h ≤ 80 := by
  have eh := zofn_i (m := h) (by omega)
  obtain ⟨v1, v2, I1, I2, J1, J2, p1, p2, -, -, -, -, -, -, p5, p6⟩ := zcost1 hQ hw (h := Int32.ofNat h) (by omega) (by omega)
  unfold zct
  rw [p5]
  exact p6
theorem zct_keep (hQ : zQ n kd R L s t A I J) (hJ : zQJ J J') {w h : Nat} (hw : w < (J 81 3).toInt.toNat) (h9 : h < 9) : zct J' w h = zct J w h := by
  have eh := zofn_i (m := h) (by omega)
  unfold zct
  rw [zkst_keep hQ hJ hw (by omega) (by omega)]
end
