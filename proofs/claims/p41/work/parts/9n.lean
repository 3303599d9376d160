/-! pure part: walkers laid by an order -/
section
variable {n : Nat} {kd : zMK} {R : zMR} {L s t : Nat} {A : Nat → Nat} {I J : zMI} {o : Nat → Nat}
theorem g11_ordL6 {cn : Int32} {fr : Nat → Int32} (hc : 0 ≤ cn.toInt ∧ cn.toInt ≤ 5) (ho : ∀ k, k < cn.toInt.toNat → o k < cn.toInt.toNat) (hi : ∀ k k', k < cn.toInt.toNat → k' < cn.toInt.toNat → o k = o k' → k = k') : ∀ (d q : Nat) (i : Int32) (I : zMI) (R : zMR), i.toInt + d = cn.toInt → 0 ≤ i.toInt → d < q → I 32 4 = cn → zWo n kd A cn.toInt.toNat I R → (∀ w, w < cn.toInt.toNat → I (A w) 2 = fr w) → (∀ k, k < cn.toInt.toNat → I 55 k = Int32.ofNat (o k)) → zXJ A o fr i.toInt.toNat I R →
    ∃ (I' : zMI) (R' : zMR), f11_layByOrder_L6 n kd q i I R = some (I', R') ∧ zXJ A o fr cn.toInt.toNat I' R' ∧ (∀ w j, w < cn.toInt.toNat → j < 3 → I' (A w) j = I (A w) j) ∧ (∀ j, j ≠ 2 → I' 42 j = I 42 j) ∧ (∀ b', (∀ w, w < cn.toInt.toNat → b' ≠ A w) → b' ≠ 42 → I' b' = I b') ∧ ∀ b', b' ≠ 44 → R' b' = R b' := by
  intro d
  induction d with
  | zero =>
    intro q i I R e h0 hq e4 hW hf h55 hX
    obtain ⟨q, rfl⟩ : ∃ p, q = p + 1 := ⟨q - 1, by omega⟩
    have ei : i.toInt = cn.toInt := by omega
    rw [ei] at hX
    refine ⟨I, R, ?_, hX, fun _ _ _ _ => rfl, fun _ _ => rfl, fun _ _ _ => rfl, fun _ _ => rfl⟩
    unfold f11_layByOrder_L6
    rw [e4, if_pos (by rw [zle_iff]; omega)]
  | succ d ih =>
    intro q i I R e h0 hq e4 hW hf h55 hX
    obtain ⟨q, rfl⟩ : ∃ p, q = p + 1 := ⟨q - 1, by omega⟩
    have e1 := zsucc e
    have ni : i.toNatClampNeg = i.toInt.toNat := zcl_iff i
    have hk : i.toInt.toNat < cn.toInt.toNat := by omega
    have hok := ho _ hk
    obtain ⟨w1, w2, w3, w4⟩ := hW _ hok
    obtain ⟨J, R1, j1, j2, j3, j4, j5, j6⟩ := zXJ_step hX (by omega) w2 (by omega) (fun k hk' q => by
      have := zWo_inj hW (by omega) (ho k (by omega)) hok q
      have := hi k _ (by omega) hk this
      omega) (hf _ hok) (fun k hk' => by
      have := (hW (o k) (ho k (by omega))).2.2.1
      omega)
    have Ja : ∀ w, w < cn.toInt.toNat → ∀ j, j < 3 → J (A w) j = I (A w) j := fun w hw j hj => by
      by_cases x : A w = A (o i.toInt.toNat)
      · rw [x]
        exact j3 j hj
      · have := (hW w hw).2.2.1
        rw [j5 _ x (by omega)]
    obtain ⟨I', R', u1, u3, u4, u5, u6, u7⟩ := ih q (i + 1) J R1 (by omega) (by omega) (by omega) (by rw [j5 32 (by omega) (by decide)]; exact e4) (fun w hw => by
      obtain ⟨v1, v2, v3, v4⟩ := hW w hw
      exact ⟨by rw [j6 35 (by decide)]; exact v1, v2, v3, by rw [Ja w hw 0 (by decide)]; exact v4⟩) (fun w hw => by rw [Ja w hw 2 (by decide)]; exact hf w hw) (fun k hk' => by rw [j5 55 (by omega) (by decide)]; exact h55 k hk') (by rw [e1, show (i.toInt + 1).toNat = i.toInt.toNat + 1 by omega]; exact j2)
    refine ⟨I', R', ?_, u3, fun w j x y => by rw [u4 w j x y, Ja w x j y], fun j hj => by rw [u5 j hj, j4 j hj], fun b' x y => by rw [u6 b' x y, j5 b' (x _ hok) y], fun b' x => by rw [u7 b' x, j6 b' x]⟩
    have eo := zofn_i (m := o i.toInt.toNat) (by omega)
    rw [f11_layByOrder_L6]
    rw [e4, if_neg (by rw [zle_iff]; omega), if_neg (by rw [zle_iff, zn5i]; omega), if_pos (zib_ok h0 (by omega)), ni, h55 _ hk, g11_walkerOf2 (by omega) (by rw [e4]; omega) (by rw [e4]; exact hc.2), zb_some, eo, Int.toNat_natCast, w1, j1, zb_some]
    exact u1
theorem zlayO (hB : zB0 n kd R L s t A I J) (ho : ∀ k, k < (J 81 3).toInt.toNat → o k < (J 81 3).toInt.toNat) (hi : ∀ k k', k < (J 81 3).toInt.toNat → k' < (J 81 3).toInt.toNat → o k = o k' → k = k') (h55 : ∀ k, k < (J 81 3).toInt.toNat → I 55 k = Int32.ofNat (o k)) {J0 : zMI} (o2 : J0 81 34 = J 81 3) (o3 : ∀ k, k < (J 81 3).toInt.toNat → J0 99 k = Int32.ofNat (o k)) (o4 : ∀ j, j ≠ 34 → J0 81 j = J 81 j) (o5 : ∀ b, b ≠ 81 → b ≠ 99 → J0 b = J b) :
    ∃ I1 R1 J1, f11_layByOrder n kd I R = some (I1, R1) ∧ f12_begins J0 = some J1 ∧ zG n kd R1 L s t A I1 J1 (5 * 0) 0 ∧ zFX A s I I1 ∧ zFM J J1 ∧ (∀ b', b' ≠ 42 → b' ≠ 44 → R1 b' = R b') ∧ J1 81 34 = J 81 3 ∧ J1 99 = J0 99 ∧ J1 81 48 = -1 := by
  obtain ⟨I0, a1, ⟨a2, ⟨f3, f4, f5, f8, f9, f10, f11, f12⟩, a4⟩, a5, a6, a7⟩ := zlayH hB
  have hW := zB0_Wo hB
  obtain ⟨hX, ⟨e4, e2, r3, r2⟩, hw, hh', l1, l2, l3, l4, l5, l6⟩ := id hB
  have wr : ∀ w, w < (J 81 3).toInt.toNat → I0 (A w) = I (A w) := fun w x => by
    have := (hW w x).2.2.1
    exact a6 _ (by omega) (by omega)
  obtain ⟨I1, R1, u1, u3, u4, u5, u6, u7⟩ := g11_ordL6 (n := n) (kd := kd) (A := A) (o := o) (cn := J 81 3) (fr := fun w => I (A w) 2) r3 ho hi (J 81 3).toInt.toNat zF 0 I0 (uR R 42 7 (some L)) (by rw [z0]; omega) (by rw [z0]; omega) (by unfold zF; omega) (by rw [a6 32 (by decide) (by decide)]; exact e4) (fun w x => by
    obtain ⟨v1, v2, v3, v4⟩ := hW w x
    exact ⟨by rw [uR_ne (by decide)]; exact v1, v2, v3, by rw [wr w x]; exact v4⟩) (fun w x => by rw [wr w x]) (fun k hk => by rw [a6 55 (by decide) (by decide)]; exact h55 k hk) ⟨by rw [a5, z0]; rfl, fun k hk => absurd hk (Nat.not_lt_zero k)⟩
  have hh : ∀ h, h < 9 → I1 (46 + h) = I0 (46 + h) := fun h x => u6 _ (fun w y => by
    have := (hW w y).2.2.1
    omega) (by omega)
  have x4 : zXh L I I1 R1 := by
    refine ⟨fun h x => ?_, ?_, by rw [u7 42 (by decide)]; exact a4⟩
    · have := a2 h x
      unfold zhl at this ⊢
      rw [hh h x]
      exact this
    · rw [u5 3 (by decide), u5 4 (by decide), u5 5 (by decide), u5 8 (by decide), u5 9 (by decide), u5 10 (by decide), u5 11 (by decide), u5 12 (by decide)]
      exact ⟨f3, f4, f5, f8, f9, f10, f11, f12⟩
  have x5 : zFX A s I I1 := by
    refine ⟨fun b' x1 x2 x3 x4 x5 x6 => ?_, fun w j x y => ?_, fun h x => by rw [hh h x, a7 h x]⟩
    · rw [u6 b' (fun w y => x4 w (by omega)) x1, a6 b' x1 x3]
    · by_cases c : w < (J 81 3).toInt.toNat
      · rw [u4 w j c y, wr w c]
      · by_cases c2 : ∃ w', w' < (J 81 3).toInt.toNat ∧ A w = A w'
        · obtain ⟨w', y1, y2⟩ := c2
          rw [y2, u4 w' j y1 y, wr w' y1]
        · have hA := hX.2.2.2.2 w x
          rw [u6 _ (fun w' y1 y2 => c2 ⟨w', y1, y2⟩) (by omega), a6 _ (by omega) (by omega)]
  have x6 : ∀ b', b' ≠ 42 → b' ≠ 44 → R1 b' = R b' := fun b' x y => by rw [u7 b' y, uR_ne x]
  obtain ⟨J1, m1, m2, m3, m4, m5, m6, m7, m8⟩ := g12_begins J0
  have hM : zFM J J1 := ⟨fun b' y1 y2 => by rw [m8 b' y1 (by omega), o5 b' y1 (by omega)], fun j hj => by rw [m7 j (by omega) (by omega) (by omega), o4 j (by omega)]⟩
  have h34 : J1 81 34 = J 81 3 := by rw [m7 34 (by decide) (by decide) (by decide), o2]
  have h99 : J1 99 = J0 99 := m8 99 (by decide) (by decide)
  have v99 : ∀ k, k < (J 81 3).toInt.toNat → (J1 99 k).toInt = (o k : Nat) := fun k hk => by
    have := ho k hk
    rw [h99, o3 k hk, zofn_i (by omega)]
  have hgo : zGo R1 A J1 := by
    refine ⟨by rw [h34]; exact r3, fun k hk => ?_, fun k k' hk hk' e => ?_⟩
    · rw [h34] at hk
      have := ho k (by omega)
      rw [v99 k (by omega)]
      refine ⟨by omega, by omega, ?_⟩
      rw [Int.toNat_natCast]
      exact (u3.2 k (by omega)).1
    · rw [h34] at hk hk'
      rw [v99 k (by omega), v99 k' (by omega)] at e
      exact hi k k' (by omega) (by omega) (by omega)
  have hz : ∀ w, zgo J1 w → w < (J 81 3).toInt.toNat ∧ zbegun I1 (A w) (I (A w) 2) := fun w ⟨k, k1, k2⟩ => by
    rw [h34] at k1
    have := ho k (by omega)
    rw [v99 k (by omega)] at k2
    have ew : o k = w := by omega
    have := (u3.2 k (by omega)).2
    rw [ew] at this
    exact ⟨by omega, this⟩
  have hB1 := zB0_keep hB x5 (zFw_M hM) x6
  obtain ⟨-, ⟨g4, g2, s3, s2⟩, gw, gh, k1, k2, k3, k4, k5, k6⟩ := hB1
  have j3 : J1 81 3 = J 81 3 := hM.2 3 (by decide)
  have j2 : J1 81 2 = J 81 2 := hM.2 2 (by decide)
  refine ⟨I1, R1, J1, ?_, m1, zGjoin ⟨x4.2.2, k5, k6, by omega, ?_, ?_, ?_, s2⟩ hgo (fun w h5 q => ?_) (fun w h5 => (m2 w h5).2) (fun h h9 => ?_) x4.2.1.2.2 ⟨m4, m5, m6⟩, x5, hM, x6, h34, h99, m6⟩
  · unfold f11_layByOrder
    rw [a1, zb_some]
    exact u1
  · rw [x4.2.1.1, e4, j3]
  · rw [x4.2.1.2.1, e2, j2]
  · rw [zeq_iff, h34, u3.1]
    omega
  · obtain ⟨q1, q3⟩ := hz w q
    obtain ⟨w1, w2, w3, w4⟩ := gw w (by rw [j3]; omega)
    obtain ⟨v1, v2, v3, v4⟩ := hw w (by omega)
    have e100 : J1 100 w = J 86 w := by rw [(m2 w h5).1, o5 86 (by decide) (by decide)]
    rw [e100]
    refine ⟨w2, ?_, v4⟩
    rw [← v3]
    exact q3
  · obtain ⟨y1, y2, y3, y4, y5⟩ := hh' h h9
    obtain ⟨z1', z2', z3'⟩ := m3 h h9
    have e107 : J1 107 h = J 82 h := by rw [z1', o5 82 (by decide) (by decide)]
    have e83 : J1 83 h = J 83 h := by rw [hM.1 83 (by decide) (by decide)]
    rw [e107, e83, ← y1, ← y3]
    refine ⟨x4.1 h h9, by rw [x5.2.2 h h9]; exact y5, z2', z3', ?_, ?_⟩
    · rw [y1]; exact y2
    · rw [y3]; exact y4
/-- seconds pass; when as many as wanted are done, it is told for good, and it was told in time -/
theorem zpassW (hX : zCx n kd A s) (l1 T : Int32) : ∀ (m q q' : Nat) (l2 tt : Int32) (I J : zMI), zG n kd R L s t A I J (5 * tt.toInt) tt.toInt → l2.toInt + m = l1.toInt → 0 ≤ l2.toInt → 0 ≤ tt.toInt → tt.toInt + m ≤ T.toInt → T.toInt ≤ 600 → m < q → m < q' → (J 81 48 = -1 ∨ (0 ≤ (J 81 48).toInt ∧ (J 81 48).toInt < tt.toInt)) →
    ∃ I' J', ∃ t' : Int32, t'.toInt = tt.toInt + m ∧ f0_pass_L2 n kd R q l1 l2 I = some I' ∧ f12_goesFor_L6 q' T tt J = f12_goesFor_L6 (q' - m) T t' J' ∧ zG n kd R L s t A I' J' (5 * t'.toInt) t'.toInt ∧ zFI A s I I' ∧ zFJ J J' ∧ (J' 81 48 = J 81 48 ∨ (J 81 48 = -1 ∧ tt.toInt ≤ (J' 81 48).toInt)) ∧ (J' 81 48 = -1 ∨ (0 ≤ (J' 81 48).toInt ∧ (J' 81 48).toInt < t'.toInt)) := by
  intro m
  induction m with
  | zero =>
    intro q q' l2 tt I J hG e h0 h0' hT hT6 hq hq' hs
    obtain ⟨q, rfl⟩ : ∃ p, q = p + 1 := ⟨q - 1, by omega⟩
    refine ⟨I, J, tt, by omega, ?_, by rw [Nat.sub_zero], hG, zFI_rfl, zFJ_rfl, Or.inl rfl, hs⟩
    rw [f0_pass_L2]
    rw [if_pos (by rw [zle_iff]; omega)]
  | succ m ih =>
    intro q q' l2 tt I J hG e h0 h0' hT hT6 hq hq' hs
    obtain ⟨q, rfl⟩ : ∃ p, q = p + 1 := ⟨q - 1, by omega⟩
    obtain ⟨q', rfl⟩ : ∃ p, q' = p + 1 := ⟨q' - 1, by omega⟩
    have g34 := hG.2.1.1
    have et : I 42 5 = tt := by rw [zeq_iff, hG.2.2.2.2.2.1]
    have e1 := zsucc e
    have e2 : (tt + 1).toInt = tt.toInt + 1 := by rw [zadd (by rw [z1]; omega) (by rw [z1]; omega), z1]
    obtain ⟨I1, J1, u1, u2, u3, u4, u5, u6, u7⟩ := zsecL hX (t32 := tt) (c := 5 * tt.toInt) h0' (by omega) (f0_pass_B75 n kd R (f0_pass_L2 n kd R q)) l1 l2 (J 81 34).toInt.toNat zF zF 0 I J 0 (by rw [Int.add_zero]; exact hG) et (by rw [z0]; omega) (by rw [z0]; omega) (by unfold zF; omega) (by unfold zF; omega) (Int.le_refl _) (by omega)
    have t1 : I1 42 5 = tt := by rw [zeq_iff, u3.2.2.2.2.2.1]
    obtain ⟨x1, x2⟩ := zG_tick hX (zG_c u3 (c' := 5 * (tt + 1).toInt) (by omega)) ⟨h0', by omega⟩
    rw [← e2] at x1
    have hs1 : J1 81 48 = -1 ∨ (0 ≤ (J1 81 48).toInt ∧ (J1 81 48).toInt < (tt + 1).toInt) := by
      rcases u6 with y | ⟨y, y'⟩
      · rw [y]
        rcases hs with z | z
        · exact Or.inl z
        · exact Or.inr ⟨z.1, by omega⟩
      · rw [y']
        exact Or.inr ⟨h0', by omega⟩
    obtain ⟨I', J', t', v0, v1, v2, v3, v4, v5, v6, v7⟩ := ih q q' (l2 + 1) (tt + 1) (uI I1 42 5 (I1 42 5 + 1)) J1 x1 (by omega) (by omega) (by omega) (by omega) hT6 (by omega) (by omega) hs1
    refine ⟨I', J', t', by omega, ?_, ?_, v3, zFI_tr (zFI_tr u4 x2) v4, zFJ_tr u5 v5, ?_, v7⟩
    · rw [f0_pass_L2]
      rw [if_neg (by rw [zle_iff]; omega), u1]
      unfold f0_pass_B75
      rw [zl_eq]
      exact v1
    · rw [f12_goesFor_L6]
      rw [if_neg (by rw [zle_iff]; omega)]
      unfold f12_second
      rw [u2, zb_some, show q' + 1 - (m + 1) = q' - m by omega]
      exact v2
    · rcases u6 with y | ⟨y, y'⟩
      · rw [y] at v6
        rcases v6 with z | ⟨z, z'⟩
        · exact Or.inl z
        · exact Or.inr ⟨z, by omega⟩
      · rcases v6 with z | ⟨z, z'⟩
        · exact Or.inr ⟨y, by rw [z, y']; omega⟩
        · exact Or.inr ⟨y, by omega⟩
/-- an order gone to the end, the class in two pieces -/
theorem zgoO {Jx : zMI} (hB : zB0 n kd R L s t A I Jx) {c : Nat} (hc : (Jx 81 3).toInt.toNat = c) (ho : ∀ k, k < c → o k < c) (hi : ∀ k k', k < c → k' < c → o k = o k' → k = k') (h55 : ∀ k, k < c → I 55 k = Int32.ofNat (o k)) {T : Int32} (hT : 0 ≤ T.toInt ∧ T.toInt ≤ 600) :
    ∃ I1 R1 I2 I3, f11_layByOrder n kd I R = some (I1, R1) ∧ f0_pass n kd R1 T I1 = some I2 ∧ f0_pass n kd R1 (600 - T) I2 = some I3 ∧ zFX A s I I2 ∧ zFX A s I I3 ∧ (∀ b', b' ≠ 42 → b' ≠ 44 → R1 b' = R b') ∧ (I3 42 12 = I2 42 12 ∨ (I2 42 12 = -1 ∧ T.toInt ≤ (I3 42 12).toInt)) ∧ (I3 42 12 = -1 ∨ (0 ≤ (I3 42 12).toInt ∧ (I3 42 12).toInt < 600)) ∧ 0 ≤ (I3 42 9).toInt ∧
    ∀ J J0, zB0 n kd R L s t A I J → J0 81 34 = J 81 3 → (∀ k, k < c → J0 99 k = Int32.ofNat (o k)) → (∀ j, j ≠ 34 → J0 81 j = J 81 j) → (∀ b, b ≠ 81 → b ≠ 99 → J0 b = J b) → ∃ M, f12_goesFor 600 J0 = some M ∧ M 81 48 = I3 42 12 ∧ M 81 47 = I3 42 9 ∧ zFM J M ∧ M 99 = J0 99 ∧ M 81 34 = J 81 3 := by
  have z600 : (600 : Int32).toInt = 600 := rfl
  have key : ∀ J J0, zB0 n kd R L s t A I J → J0 81 34 = J 81 3 → (∀ k, k < c → J0 99 k = Int32.ofNat (o k)) → (∀ j, j ≠ 34 → J0 81 j = J 81 j) → (∀ b, b ≠ 81 → b ≠ 99 → J0 b = J b) → ∃ I1 R1 I2 I3, f11_layByOrder n kd I R = some (I1, R1) ∧ f0_pass n kd R1 T I1 = some I2 ∧ f0_pass n kd R1 (600 - T) I2 = some I3 ∧ zFX A s I I2 ∧ zFX A s I I3 ∧ (∀ b', b' ≠ 42 → b' ≠ 44 → R1 b' = R b') ∧ (I3 42 12 = I2 42 12 ∨ (I2 42 12 = -1 ∧ T.toInt ≤ (I3 42 12).toInt)) ∧ (I3 42 12 = -1 ∨ (0 ≤ (I3 42 12).toInt ∧ (I3 42 12).toInt < 600)) ∧ 0 ≤ (I3 42 9).toInt ∧ ∃ M, f12_goesFor 600 J0 = some M ∧ M 81 48 = I3 42 12 ∧ M 81 47 = I3 42 9 ∧ zFM J M ∧ M 99 = J0 99 ∧ M 81 34 = J 81 3 := fun J J0 hJ o2 o3 o4 o5 => by
    have e3 : J 81 3 = Jx 81 3 := by rw [← hJ.2.1.1, hB.2.1.1]
    have ec : (J 81 3).toInt.toNat = c := by rw [e3]; exact hc
    obtain ⟨I1, R1, J1, x1, x2, x3, x4, x5, x6, x7, x8, x9⟩ := zlayO hJ (by rw [ec]; exact ho) (by rw [ec]; exact hi) (by rw [ec]; exact h55) o2 (by rw [ec]; exact o3) o4 o5
    obtain ⟨I2, J2, t2, y1, y2, y3, y4, y5, y6, y7, y8⟩ := zpassW hB.1 T 600 T.toInt.toNat zF zF 0 0 I1 J1 x3 (by rw [z0]; omega) (by rw [z0]; omega) (by rw [z0]; omega) (by rw [z0, z600]; omega) (by decide) (by unfold zF; omega) (by unfold zF; omega) (Or.inl x9)
    have et : t2.toInt = T.toInt := by rw [y1, z0]; omega
    have es : ((600 : Int32) - T).toInt = 600 - T.toInt := by rw [zsub (by rw [z600]; omega) (by rw [z600]; omega), z600]
    obtain ⟨I3, M, t3, w1, w2, w3, w4, w5, w6, w7, w8⟩ := zpassW hB.1 (600 - T) 600 (600 - T.toInt).toNat zF (zF - T.toInt.toNat) 0 t2 I2 J2 y4 (by rw [z0, es]; omega) (by rw [z0]; omega) (by omega) (by rw [z600]; omega) (by decide) (by unfold zF; omega) (by unfold zF; omega) y8
    have et3 : t3.toInt = 600 := by rw [w1]; omega
    have p2 : I2 42 12 = J2 81 48 := y4.2.2.2.2.2.2.2.1
    have p3 : I3 42 12 = M 81 48 := w4.2.2.2.2.2.2.2.1
    have p9 : I3 42 9 = M 81 47 := w4.2.2.2.2.2.2.1
    have ez : zF - T.toInt.toNat - (600 - T.toInt).toNat = (zF - 601) + 1 := by unfold zF; omega
    rw [ez, zfin (by rw [et3, z600])] at w3
    have P := zG_P w4 (by rw [et3]; decide)
    refine ⟨I1, R1, I2, I3, x1, y2, w2, zFX_tr x4 (zFX_I y5), zFX_tr (zFX_tr x4 (zFX_I y5)) (zFX_I w5), x6, ?_, ?_, by rw [p9]; exact P.1, M, ?_, p3.symm, p9.symm, zFM_tr (zFM_tr x5 (zFM_J y6)) (zFM_J w6), ?_, ?_⟩
    · rw [p2, p3]
      rcases w7 with q | ⟨q1, q2⟩
      · exact Or.inl q
      · exact Or.inr ⟨q1, by omega⟩
    · rw [p3]
      rcases w8 with q | ⟨q1, q2⟩
      · exact Or.inl q
      · exact Or.inr ⟨q1, by omega⟩
    · unfold f12_goesFor
      rw [x2, zb_some, y3, w3]
    · rw [w6.1 99 (by decide) (by decide), y6.1 99 (by decide) (by decide), x8]
    · rw [w6.2 34 (by decide), y6.2 34 (by decide), x7]
  have h0 : ∃ J0 : zMI, J0 81 34 = Jx 81 3 ∧ (∀ k, k < c → J0 99 k = Int32.ofNat (o k)) ∧ (∀ j, j ≠ 34 → J0 81 j = Jx 81 j) ∧ ∀ b, b ≠ 81 → b ≠ 99 → J0 b = Jx b :=
    ⟨fun b k => if b = 99 then Int32.ofNat (o k) else uI Jx 81 34 (Jx 81 3) b k, by dsimp only; rw [if_neg (by decide), uI_at], fun k _ => by dsimp only; rw [if_pos rfl], fun j hj => by dsimp only; rw [if_neg (by decide), uI_off hj], fun b h1 h2 => funext fun k => by dsimp only; rw [if_neg h2, uI_ne h1]⟩
  obtain ⟨J0, b2, b3, b4, b5⟩ := h0
  obtain ⟨I1, R1, I2, I3, x1, x2, x3, x4, x5, x6, x7, x8, x9, -⟩ := key Jx J0 hB b2 b3 b4 b5
  refine ⟨I1, R1, I2, I3, x1, x2, x3, x4, x5, x6, x7, x8, x9, fun J J0 hJ o2 o3 o4 o5 => ?_⟩
  obtain ⟨I1', R1', I2', I3', y1, y2, y3, -, -, -, -, -, -, y⟩ := key J J0 hJ o2 o3 o4 o5
  rw [x1] at y1
  cases y1
  rw [x2] at y2
  cases y2
  rw [x3] at y3
  cases y3
  exact y
end
