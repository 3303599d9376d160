/-! pure part: the invariant told anew; image -/
theorem zC_mk {T : Nat → zMK → zMI → zMR → Prop} (hT : zTq T) {n : Nat} {kd : zMK} {I J : zMI} {R R' : zMR} (h : zC T n kd I R) (hn : zCn J) (hh : zCh J) (ht : zCt J) (hs : zCs J) (hi : zCi J) (hw : zCw n kd J R') (e11 : J 81 11 = I 81 11) (eH : ∀ h, h < 9 → J (46 + h) 0 = I (46 + h) 0) (eT : ∀ a, zTa kd a → ¬ zTs I R a → J a = I a) (eR : ∀ a, a = 36 ∨ 67 ≤ a → R' a = R a) : zC T n kd J R' :=
  ⟨h.1, hn, hh, ht, hs, hi, hw, hT n n kd kd I J R R' h.1 (Nat.le_refl _) (fun _ _ => rfl) (fun a _ => eT a) eH e11 (fun a _ => eR a) h.2.2.2.2.2.2.2⟩
theorem zCh_eq {I J : zMI} (h : zCh I) (e1 : J 33 = I 33) (e2 : J 34 = I 34) (e3 : J 82 = I 82) (e4 : J 83 = I 83) : zCh J := by
  unfold zCh at h ⊢
  rw [e1, e2, e3, e4]
  exact h
theorem zCt_eq {I J : zMI} (h : zCt I) (e1 : J 81 8 = I 81 8) (e2 : J 38 = I 38) (e3 : J 87 = I 87) : zCt J := by
  unfold zCt at h ⊢
  rw [e1, e2, e3]
  exact h
theorem zCs_eq {I J : zMI} (h : zCs I) (e : ∀ a, 73 ≤ a → a ≤ 80 → J a = I a) (e1 : J 91 = I 91) (e2 : J 92 = I 92) (e3 : J 93 = I 93) : zCs J := by
  intro s hs
  rw [e (73 + 2 * s) (by omega) (by omega), e (74 + 2 * s) (by omega) (by omega), e1, e2, e3]
  exact h s hs
theorem zCw_eq {n : Nat} {kd : zMK} {I J : zMI} {R : zMR} (h : zCw n kd I R) (e3 : J 81 3 = I 81 3) (e : ∀ a, 114 ≤ a → J a = I a) (e1 : J 84 = I 84) (e2 : J 85 = I 85) (e4 : J 86 = I 86) : zCw n kd J R := by
  intro i hi
  rw [e3] at hi
  obtain ⟨a, q1, q2, q3, q4⟩ := h i hi
  refine ⟨a, q1, q2, q3, ?_⟩
  rw [e a q2, e1, e2, e4]
  exact q4
theorem zsucc {i N : Int32} {d : Nat} (e : i.toInt + (d + 1 : Nat) = N.toInt) : (i + 1).toInt = i.toInt + 1 := by
  have := zrange N
  have := zrange i
  exact zadd (by rw [z1]; omega) (by rw [z1]; omega)
theorem g11_imageL2 {n : Nat} {kd : zMK} {R : zMR} (k : zMI → Option (Int32 × zMI)) : ∀ (d q : Nat) (i : Int32) (I : zMI), i.toInt + d = 9 → 0 ≤ i.toInt → d < q →
    ∃ J, f11_image_L2 n kd R k q i I = k J ∧ (∀ j, j < 9 → J 64 j = (if i.toInt.toNat ≤ j then I 33 j else I 64 j) ∧ J 65 j = (if i.toInt.toNat ≤ j then I 34 j else I 65 j)) ∧ ∀ b, b ≠ 64 → b ≠ 65 → J b = I b := by
  intro d
  induction d with
  | zero =>
    intro q i I e h0 hq
    obtain ⟨q, rfl⟩ : ∃ p, q = p + 1 := ⟨q - 1, by omega⟩
    refine ⟨I, ?_, fun j hj => by rw [if_neg (by omega), if_neg (by omega)]; exact ⟨rfl, rfl⟩, fun _ _ _ => rfl⟩
    unfold f11_image_L2
    rw [if_pos (by rw [zle_iff, z9]; omega)]
  | succ d ih =>
    intro q i I e h0 hq
    obtain ⟨q, rfl⟩ : ∃ p, q = p + 1 := ⟨q - 1, by omega⟩
    have e1 := zsucc (N := 9) (i := i) (d := d) (by rw [z9]; omega)
    obtain ⟨J, j1, j2, j3⟩ := ih q (i + 1) (uI (uI I 64 i.toNatClampNeg (I 33 i.toNatClampNeg)) 65 i.toNatClampNeg (I 34 i.toNatClampNeg)) (by omega) (by omega) (by omega)
    refine ⟨J, ?_, fun j hj => ?_, fun b h1 h2 => by rw [j3 b h1 h2, uI_ne h2, uI_ne h1]⟩
    · unfold f11_image_L2
      rw [if_neg (by rw [zle_iff, z9]; omega), if_pos (zib_ok h0 (by omega)), zl_eq, zl_eq, uI_ne (show (34 : Nat) ≠ 64 by decide)]
      exact j1
    · obtain ⟨w1, w2⟩ := j2 j hj
      rw [w1, w2, e1]
      by_cases q : j = i.toNatClampNeg
      · have q' := q
        rw [zcl_iff] at q'
        have c1 : ¬ (i.toInt + 1).toNat ≤ j := by omega
        have c2 : i.toInt.toNat ≤ j := by omega
        simp only [if_neg c1, if_pos c2]
        rw [q]
        simp (disch := omega) only [uI_ne, uI_at, and_self]
      · have q' := q
        rw [zcl_iff] at q'
        simp (disch := omega) only [uI_ne, uI_off]
        by_cases c : i.toInt.toNat ≤ j
        · have c1 : (i.toInt + 1).toNat ≤ j := by omega
          simp only [if_pos c1, if_pos c, and_self]
        · have c1 : ¬ (i.toInt + 1).toNat ≤ j := by omega
          simp only [if_neg c1, if_neg c, and_self]
theorem g11_imageL40 {n : Nat} {kd : zMK} {R : zMR} (k : zMI → Option (Int32 × zMI)) {I0 : zMI} (hw : zCw n kd I0 R) (h5 : 0 ≤ (I0 81 3).toInt ∧ (I0 81 3).toInt ≤ 5) : ∀ (d q : Nat) (i : Int32) (I : zMI), i.toInt + d = (I0 81 3).toInt → 0 ≤ i.toInt → d < q → I 32 4 = I0 81 3 → (∀ a, 114 ≤ a → I a = I0 a) →
    ∃ J, f11_image_L40 n kd R k q i I = k J ∧ (∀ j, j < (I0 81 3).toInt.toNat → J 66 j = (if i.toInt.toNat ≤ j then I0 86 j else I 66 j)) ∧ ∀ b, b ≠ 66 → J b = I b := by
  intro d
  induction d with
  | zero =>
    intro q i I e h0 hq e4 ea
    obtain ⟨q, rfl⟩ : ∃ p, q = p + 1 := ⟨q - 1, by omega⟩
    refine ⟨I, ?_, fun j hj => by rw [if_neg (by omega)], fun _ _ => rfl⟩
    unfold f11_image_L40
    rw [if_pos (by rw [zle_iff, e4]; omega)]
  | succ d ih =>
    intro q i I e h0 hq e4 ea
    obtain ⟨q, rfl⟩ : ∃ p, q = p + 1 := ⟨q - 1, by omega⟩
    have e1 := zsucc e
    have z5 : (5 : Int32).toInt = 5 := rfl
    obtain ⟨a, q1, q2, q3, q4, q5, q6, q7, q8, q9, q10⟩ := hw i.toNatClampNeg (by rw [zcl_iff]; omega)
    have hW := zW_ok q2 q3 q4 (zkc_w q5.1 q5.2)
    obtain ⟨J, j1, j2, j3⟩ := ih q (i + 1) (uI I 66 i.toNatClampNeg (I0 86 i.toNatClampNeg)) (by omega) (by omega) (by omega) (by rw [uI_ne (by decide)]; exact e4) (fun b hb => by rw [uI_ne (by omega)]; exact ea b hb)
    refine ⟨J, ?_, fun j hj => ?_, fun b h1 => by rw [j3 b h1, uI_ne h1]⟩
    · unfold f11_image_L40 f11_image_B77
      rw [if_neg (by rw [zle_iff, e4]; omega), if_neg (by rw [zle_iff, z5]; omega), if_pos (zib_ok h0 (by omega)), q1, zm_some, if_pos hW, if_pos (zib_ok h0 (by omega)), zl_eq, ea a q2, q9]
      exact j1
    · rw [j2 j hj, e1]
      by_cases q : j = i.toNatClampNeg
      · have q' := q
        rw [zcl_iff] at q'
        rw [if_neg (by omega), if_pos (by omega), q, uI_at]
      · have q' := q
        rw [zcl_iff] at q'
        rw [uI_off q]
        by_cases c : i.toInt.toNat ≤ j
        · rw [if_pos (by omega), if_pos c]
        · rw [if_neg (by omega), if_neg c]
theorem g12_imageL31 (k : zMI → Option (Int32 × zMI)) : ∀ (d q : Nat) (i : Int32) (I : zMI), i.toInt + d = 9 → 0 ≤ i.toInt → d < q →
    ∃ J, f12_image_L31 k q i I = k J ∧ (∀ j, j < 9 → J 90 j = (if i.toInt.toNat ≤ j then I 82 j else I 90 j) ∧ J 90 (9 + j) = (if i.toInt.toNat ≤ j then I 83 j else I 90 (9 + j))) ∧ (∀ j, 18 ≤ j → J 90 j = I 90 j) ∧ ∀ b, b ≠ 90 → J b = I b := by
  intro d
  induction d with
  | zero =>
    intro q i I e h0 hq
    obtain ⟨q, rfl⟩ : ∃ p, q = p + 1 := ⟨q - 1, by omega⟩
    refine ⟨I, ?_, fun j hj => by rw [if_neg (by omega), if_neg (by omega)]; exact ⟨rfl, rfl⟩, fun _ _ => rfl, fun _ _ => rfl⟩
    unfold f12_image_L31
    rw [if_pos (by rw [zle_iff, z9]; omega)]
  | succ d ih =>
    intro q i I e h0 hq
    obtain ⟨q, rfl⟩ : ∃ p, q = p + 1 := ⟨q - 1, by omega⟩
    have e1 := zsucc (N := 9) (i := i) (d := d) (by rw [z9]; omega)
    have e9 : ((9 : Int32) + i).toInt = 9 + i.toInt := by rw [zadd (by rw [z9]; omega) (by rw [z9]; omega), z9]
    have en : ((9 : Int32) + i).toNatClampNeg = 9 + i.toNatClampNeg := by rw [zcl_iff, zcl_iff, e9]; omega
    obtain ⟨J, j1, j2, j4, j3⟩ := ih q (i + 1) (uI (uI I 90 i.toNatClampNeg (I 82 i.toNatClampNeg)) 90 (9 + i.toNatClampNeg) (I 83 i.toNatClampNeg)) (by omega) (by omega) (by omega)
    have hi : i.toNatClampNeg < 9 := by rw [zcl_iff]; omega
    refine ⟨J, ?_, fun j hj => ?_, fun j hj => ?_, fun b h1 => by rw [j3 b h1, uI_ne h1, uI_ne h1]⟩
    · unfold f12_image_L31
      rw [if_neg (by rw [zle_iff, z9]; omega), if_pos (zib_ok h0 (by omega)), if_pos (zib_ok h0 (by omega)), zl_eq, if_pos (zib_ok (by omega) (by omega)), zl_eq, uI_ne (show (83 : Nat) ≠ 90 by decide), en]
      exact j1
    · obtain ⟨w1, w2⟩ := j2 j hj
      rw [w1, w2, e1]
      by_cases q : j = i.toNatClampNeg
      · have q' := q
        rw [zcl_iff] at q'
        have c1 : ¬ (i.toInt + 1).toNat ≤ j := by omega
        have c2 : i.toInt.toNat ≤ j := by omega
        simp only [if_neg c1, if_pos c2]
        rw [q]
        simp (disch := omega) only [uI_ne, uI_at, uI_off, and_self]
      · have q' := q
        rw [zcl_iff] at q'
        simp (disch := omega) only [uI_ne, uI_off]
        by_cases c : i.toInt.toNat ≤ j
        · have c1 : (i.toInt + 1).toNat ≤ j := by omega
          simp only [if_pos c1, if_pos c, and_self]
        · have c1 : ¬ (i.toInt + 1).toNat ≤ j := by omega
          simp only [if_neg c1, if_neg c, and_self]
    · rw [j4 j hj]
      simp (disch := omega) only [uI_off]
theorem g12_imageL72 : ∀ (d q : Nat) (i : Int32) (I : zMI), i.toInt + d = 5 → 0 ≤ i.toInt → d < q →
    ∃ J, f12_image_L72 q i I = some (I 81 3, J) ∧ (∀ j, j < 5 → J 90 (18 + j) = (if i.toInt.toNat ≤ j then I 86 j else I 90 (18 + j))) ∧ (∀ j, j < 18 → J 90 j = I 90 j) ∧ ∀ b, b ≠ 90 → J b = I b := by
  have z5 : (5 : Int32).toInt = 5 := rfl
  have z18 : (18 : Int32).toInt = 18 := rfl
  intro d
  induction d with
  | zero =>
    intro q i I e h0 hq
    obtain ⟨q, rfl⟩ : ∃ p, q = p + 1 := ⟨q - 1, by omega⟩
    refine ⟨I, ?_, fun j hj => by rw [if_neg (by omega)], fun _ _ => rfl, fun _ _ => rfl⟩
    unfold f12_image_L72
    rw [if_pos (by rw [zle_iff, z5]; omega)]
  | succ d ih =>
    intro q i I e h0 hq
    obtain ⟨q, rfl⟩ : ∃ p, q = p + 1 := ⟨q - 1, by omega⟩
    have e1 := zsucc (N := 5) (i := i) (d := d) (by rw [z5]; omega)
    have e9 : ((18 : Int32) + i).toInt = 18 + i.toInt := by rw [zadd (by rw [z18]; omega) (by rw [z18]; omega), z18]
    have en : ((18 : Int32) + i).toNatClampNeg = 18 + i.toNatClampNeg := by rw [zcl_iff, zcl_iff, e9]; omega
    obtain ⟨J, j1, j2, j4, j3⟩ := ih q (i + 1) (uI I 90 (18 + i.toNatClampNeg) (I 86 i.toNatClampNeg)) (by omega) (by omega) (by omega)
    rw [uI_ne (show (81 : Nat) ≠ 90 by decide)] at j1
    refine ⟨J, ?_, fun j hj => ?_, fun j hj => ?_, fun b h1 => by rw [j3 b h1, uI_ne h1]⟩
    · unfold f12_image_L72
      rw [if_neg (by rw [zle_iff, z5]; omega), if_pos (zib_ok h0 (by omega)), if_pos (zib_ok (by omega) (by omega)), zl_eq, en]
      exact j1
    · rw [j2 j hj, e1]
      by_cases q : j = i.toNatClampNeg
      · have q' := q
        rw [zcl_iff] at q'
        rw [if_neg (by omega), if_pos (by omega), q, uI_at]
      · have q' := q
        rw [zcl_iff] at q'
        rw [uI_off (by omega), uI_ne (show (86 : Nat) ≠ 90 by decide)]
        by_cases c : i.toInt.toNat ≤ j
        · rw [if_pos (by omega), if_pos c]
        · rw [if_neg (by omega), if_neg c]
    · rw [j4 j hj]
      simp (disch := omega) only [uI_off]
theorem zH31_ok {T : Nat → zMK → zMI → zMR → Prop} (hT : zTq T) : zH31 (zC T) := fun n kd I R hC => by
  have hC0 := hC
  obtain ⟨h1, h2, h3, h4, h5, h6, h7, h8⟩ := hC
  have h2' := h2
  unfold zCn at h2'
  obtain ⟨e1, e2, e3, e4, e5, r3, r2, r11, r12, r8⟩ := h2'
  obtain ⟨J1, a1, a2, a3⟩ := g11_imageL2 (n := n) (kd := kd) (R := R) (f11_image_B38 n kd R) 9 zF 0 I (by rw [z0]; rfl) (by rw [z0]; omega) (by unfold zF; omega)
  have F1 : ∀ b, b ≠ 64 → b ≠ 65 → J1 b = I b := a3
  obtain ⟨J2, b1, b2, b3⟩ := g11_imageL40 (n := n) (kd := kd) (R := R) (f11_image_B84 n kd R) h7 r3 (I 81 3).toInt.toNat zF 0 J1 (by rw [z0]; omega) (by rw [z0]; omega) (by unfold zF; omega) (by rw [F1 32 (by decide) (by decide)]; exact e1) (fun a ha => F1 a (by omega) (by omega))
  have F2 : ∀ b, b ≠ 64 → b ≠ 65 → b ≠ 66 → J2 b = I b := fun b x y z => by rw [b3 b z, F1 b x y]
  have E32 : J2 32 = I 32 := F2 32 (by decide) (by decide) (by decide)
  have f : f11_image n kd R I = some (I 32 4, uI (uI (uI J2 32 17 (I 32 2)) 32 18 (I 32 4)) 32 19 (I 32 7)) := by
    unfold f11_image
    rw [a1]
    unfold f11_image_B38
    rw [b1]
    unfold f11_image_B84
    simp (disch := omega) only [zl_eq, uI_off, E32]
  generalize hK : uI (uI (uI J2 32 17 (I 32 2)) 32 18 (I 32 4)) 32 19 (I 32 7) = K at f
  have K_ne : ∀ b, b ≠ 32 → K b = J2 b := fun b hb => by rw [← hK, uI_ne hb, uI_ne hb, uI_ne hb]
  have K81 : K 81 = I 81 := by rw [K_ne 81 (by decide), F2 81 (by decide) (by decide) (by decide)]
  generalize hM : uI (uI (uI (uI K 81 13 1) 81 14 (I 81 3)) 81 15 (I 81 2)) 81 16 (I 81 12) = M
  have M_ne : ∀ b, b ≠ 81 → M b = K b := fun b hb => by rw [← hM, uI_ne hb, uI_ne hb, uI_ne hb, uI_ne hb]
  obtain ⟨N1, c1, c2, c4, c3⟩ := g12_imageL31 f12_image_B70 9 zF 0 M (by rw [z0]; rfl) (by rw [z0]; omega) (by unfold zF; omega)
  obtain ⟨N2, d1, d2, d4, d3⟩ := g12_imageL72 5 zF 0 N1 (by rw [z0]; rfl) (by rw [z0]; omega) (by unfold zF; omega)
  have N_ne : ∀ b, b ≠ 90 → N2 b = M b := fun b hb => by rw [d3 b hb, c3 b hb]
  have M81 : ∀ k, k < 13 → M 81 k = I 81 k := fun k hk => by
    rw [← hM]
    simp (disch := omega) only [uI_off, K81]
  have g : f12_image K = some (I 81 3, N2) := by
    have e3 : N1 81 3 = I 81 3 := by rw [c3 81 (by decide), M81 3 (by decide)]
    rw [e3] at d1
    have hz : f12_image K = f12_image_L31 f12_image_B70 zF 0 M := by
      unfold f12_image
      rw [zl_eq, zl_eq, zl_eq, zl_eq]
      congr 1
      rw [← hM]
      simp (disch := omega) only [uI_off, K81]
    rw [hz, c1]
    unfold f12_image_B70
    exact d1
  refine ⟨_, f, _, g, e1, ?_⟩
  have G : ∀ b, b ≠ 90 → b ≠ 81 → b ≠ 32 → b ≠ 64 → b ≠ 65 → b ≠ 66 → N2 b = I b := fun b x1 x2 x3 x4 x5 x6 => by rw [N_ne b x1, M_ne b x2, K_ne b x3, F2 b x4 x5 x6]
  have G81 : ∀ k, k < 13 → N2 81 k = I 81 k := fun k hk => by rw [N_ne 81 (by decide), M81 k hk]
  have G32 : ∀ k, k < 17 → N2 32 k = I 32 k := fun k hk => by
    rw [N_ne 32 (by decide), M_ne 32 (by decide), ← hK]
    simp (disch := omega) only [uI_off, E32]
  have X : N2 32 17 = I 32 2 ∧ N2 32 18 = I 32 4 ∧ N2 32 19 = I 32 7 := by
    rw [N_ne 32 (by decide), M_ne 32 (by decide), ← hK]
    simp (disch := omega) only [uI_off, uI_at, and_self]
  have Y : N2 81 13 = 1 ∧ N2 81 14 = I 81 3 ∧ N2 81 15 = I 81 2 ∧ N2 81 16 = I 81 12 := by
    rw [N_ne 81 (by decide), ← hM]
    simp (disch := omega) only [uI_off, uI_at, and_self]
  show zC T n kd N2 R
  refine zC_mk hT hC0 ?_ (zCh_eq h3 ?_ ?_ ?_ ?_) (zCt_eq h4 (G81 8 (by decide)) ?_ ?_) (zCs_eq h5 ?_ ?_ ?_ ?_) ?_ (zCw_eq h7 (G81 3 (by decide)) ?_ ?_ ?_ ?_) (G81 11 (by decide)) (fun h hh => by rw [G (46 + h) (by omega) (by omega) (by omega) (by omega) (by omega) (by omega)]) (fun a ha _ => ?_) (fun _ _ => rfl)
  case refine_1 =>
    unfold zCn
    rw [G32 4 (by decide), G32 2 (by decide), G32 6 (by decide), G32 7 (by decide), G81 3 (by decide), G81 2 (by decide), G81 11 (by decide), G81 12 (by decide), G81 8 (by decide), G 37 (by decide) (by decide) (by decide) (by decide) (by decide) (by decide)]
    exact h2
  case refine_12 =>
    refine Or.inr ?_
    rw [X.1, X.2.1, X.2.2, Y.1, Y.2.1, Y.2.2.1, Y.2.2.2, G81 3 (by decide), G81 11 (by decide)]
    have j64 : N2 64 = J1 64 := by rw [N_ne 64 (by decide), M_ne 64 (by decide), K_ne 64 (by decide), b3 64 (by decide)]
    have j65 : N2 65 = J1 65 := by rw [N_ne 65 (by decide), M_ne 65 (by decide), K_ne 65 (by decide), b3 65 (by decide)]
    have j66 : N2 66 = J2 66 := by rw [N_ne 66 (by decide), M_ne 66 (by decide), K_ne 66 (by decide)]
    have m82 : ∀ b, b ≠ 81 → b ≠ 32 → b ≠ 64 → b ≠ 65 → b ≠ 66 → M b = I b := fun b x1 x2 x3 x4 x5 => by rw [M_ne b x1, K_ne b x2, F2 b x3 x4 x5]
    have n86 : N1 86 = I 86 := by rw [c3 86 (by decide), m82 86 (by decide) (by decide) (by decide) (by decide) (by decide)]
    refine ⟨rfl, e1, e2, e4, ⟨r3.1, Int.le_refl _⟩, r2, r12, fun h hh => ?_, fun w hw => ?_⟩
    · obtain ⟨p1, p2, p3, p4⟩ := h3 h hh
      obtain ⟨u1, u2⟩ := a2 h hh
      obtain ⟨v1, v2⟩ := c2 h hh
      rw [j64, j65, u1, u2, d4 h (by omega), d4 (9 + h) (by omega), v1, v2, if_pos (by rw [z0]; omega), if_pos (by rw [z0]; omega), if_pos (by rw [z0]; omega), if_pos (by rw [z0]; omega), m82 82 (by decide) (by decide) (by decide) (by decide) (by decide), m82 83 (by decide) (by decide) (by decide) (by decide) (by decide)]
      exact ⟨p1, p2, p3, p4⟩
    · obtain ⟨a, q1, q2, q3, q4, q5, q6, q7, q8, q9, q10⟩ := h7 w hw
      rw [j66, b2 w hw, d2 w (by omega), if_pos (by rw [z0]; omega), if_pos (by rw [z0]; omega), n86]
      exact ⟨rfl, q10⟩
  case refine_17 =>
    unfold zTa at ha
    exact G a (by omega) (by omega) (by omega) (by omega) (by omega) (by omega)
  case refine_8 => exact fun a x y => G a (by omega) (by omega) (by omega) (by omega) (by omega) (by omega)
  case refine_13 => exact fun a x => G a (by omega) (by omega) (by omega) (by omega) (by omega) (by omega)
  all_goals exact G _ (by decide) (by decide) (by decide) (by decide) (by decide) (by decide)
