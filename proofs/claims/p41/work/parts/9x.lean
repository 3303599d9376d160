/-! pure part: a text is read on both sides -/
def zRz (T : Nat → Int32) (z t : Nat) (J : zMI) (p : Nat) (C : List Int32) : Prop := J 81 8 = Int32.ofNat z ∧ (∀ k, k < z → J 87 k = T k) ∧ (∀ j, j < 96 → J 95 j = zTw j) ∧ J 81 22 = Int32.ofNat p ∧ J 81 11 = Int32.ofNat t ∧ J 81 30 = Int32.ofNat C.length ∧ zhs (J 88) (200 * t) C ∧ C.length ≤ p ∧ p ≤ z ∧ z ≤ 160 ∧ t ≤ 5
/-- what reading a part leaves alone: the reference, the class -/
def zFT (t i : Nat) (J J' : zMI) : Prop := (∀ b, b ≠ 81 → b ≠ 88 → b ≠ 89 → b ≠ 96 → J' b = J b) ∧ (∀ j, j < 22 ∨ 30 < j → J' 81 j = J 81 j) ∧ (∀ k, k < 200 * t → J' 88 k = J 88 k) ∧ ∀ k, k ≠ 4 * t + i → J' 89 k = J 89 k
def zFP (i : Nat) (I I' : zMI) : Prop := (∀ b, b ≠ 37 → b ≠ 39 → b ≠ 40 → I' b = I b) ∧ (∀ j, j ≠ 2 → j ≠ 3 → j ≠ 4 → j ≠ 5 → j ≠ 6 → j ≠ 8 → I' 37 j = I 37 j) ∧ ∀ k, k ≠ i → I' 40 k = I 40 k
section
variable {T : Nat → Int32} {z t : Nat}
theorem zRz_of {J : zMI} {p : Nat} {s : zSt} (h : zRS T z t J p s) : zRz T z t J p s.2.2 := by
  obtain ⟨h1, h2, h3, h4, h5, h6, h7, h8, h9, h10, h11, h12, h13, h14⟩ := h
  exact ⟨h1, h2, h3, h4, h5, h8, h10, by omega, h12, h13, h14⟩
theorem zRz_next {J : zMI} {p : Nat} {C : List Int32} (h : zRz T z t J p C) : ∃ J', f12_next J = some J' ∧ zRz T z t J' (zKe T z p) C ∧ J' 81 23 = Int32.ofNat (zKb T z p) ∧ J' 81 24 = zKr (zKk T z p) ∧ (zKk T z p = 4 ∨ zKk T z p = 5 ∨ zKk T z p = 6 → J' 81 25 = zKk T z p - 4) ∧ (∀ b, b ≠ 81 → J' b = J b) ∧ ∀ j, j < 22 ∨ 30 < j → J' 81 j = J 81 j := by
  obtain ⟨h1, h2, h3, h4, h5, h8, h10, h11, h12, h13, h14⟩ := h
  obtain ⟨J', u1, u2, u3, u4, u5, u6, u7, u8, u9⟩ := g12_next h13 h12 h1 h2 h4 h3
  have rb := zKb_r (T := T) h12
  have re := zKe_r (T := T) h12
  refine ⟨J', u1, ⟨?_, fun k hk => ?_, fun j hj => ?_, u2, ?_, ?_, ?_, by omega, re.2.1, h13, h14⟩, u3, u4, u7, u9, fun j hj => u8 j (by omega) (by omega) (by omega) (by omega)⟩
  · rw [u8 8 (by decide) (by decide) (by decide) (by decide)]; exact h1
  · rw [u9 87 (by decide)]; exact h2 k hk
  · rw [u9 95 (by decide)]; exact h3 j hj
  · rw [u8 11 (by decide) (by decide) (by decide) (by decide)]; exact h5
  · rw [u8 30 (by decide) (by decide) (by decide) (by decide)]; exact h8
  · rw [u9 88 (by decide)]; exact h10
/-- the reference begins an expression -/
theorem zRz_e {J : zMI} {p : Nat} {C : List Int32} (h : zRz T z t J p C) : ∃ J', f12_eRead J = zKE zF 1 1 J' ∧ zRS T z t J' p ([], 0, C) ∧ (∀ b, b ≠ 81 → J' b = J b) ∧ ∀ j, j ≠ 28 → j ≠ 29 → J' 81 j = J 81 j := by
  obtain ⟨h1, h2, h3, h4, h5, h8, h10, h11, h12, h13, h14⟩ := h
  refine ⟨uI (uI J 81 28 0) 81 29 0, ?_, ⟨?_, fun k hk => ?_, fun j hj => ?_, ?_, ?_, ?_, ?_, ?_, trivial, ?_, ?_, h12, h13, h14⟩, fun b x => by rw [uI_ne x, uI_ne x], fun j x y => by rw [uI_off y, uI_off x]⟩
  · unfold f12_eRead
    rw [zl_eq, zl_eq]
  · rw [uI_off (by decide), uI_off (by decide)]; exact h1
  · rw [uI_ne (by decide), uI_ne (by decide)]; exact h2 k hk
  · rw [uI_ne (by decide), uI_ne (by decide)]; exact h3 j hj
  · rw [uI_off (by decide), uI_off (by decide)]; exact h4
  · rw [uI_off (by decide), uI_off (by decide)]; exact h5
  · rw [uI_off (by decide), uI_at]; rfl
  · rw [uI_at]
  · rw [uI_off (by decide), uI_off (by decide)]; exact h8
  · rw [uI_ne (by decide), uI_ne (by decide)]; exact h10
  · show 0 + C.length ≤ p
    omega
theorem zRS_Rz {J J' : zMI} {p : Nat} {C : List Int32} (h : zRz T z t J p C) (e1 : ∀ j, j < 22 ∨ j = 30 ∨ j = 22 → J' 81 j = J 81 j) (e2 : ∀ b, b = 87 ∨ b = 95 ∨ b = 88 → J' b = J b) : zRz T z t J' p C := by
  obtain ⟨h1, h2, h3, h4, h5, h8, h10, h11, h12, h13, h14⟩ := h
  refine ⟨?_, fun k hk => ?_, fun j hj => ?_, ?_, ?_, ?_, ?_, h11, h12, h13, h14⟩
  · rw [e1 8 (by omega)]; exact h1
  · rw [e2 87 (by omega)]; exact h2 k hk
  · rw [e2 95 (by omega)]; exact h3 j hj
  · rw [e1 22 (by omega)]; exact h4
  · rw [e1 11 (by omega)]; exact h5
  · rw [e1 30 (by omega)]; exact h8
  · rw [e2 88 (by omega)]; exact h10
theorem zFR_T {i : Nat} {J J' : zMI} (h : zFR t J J') : zFT t i J J' := ⟨fun b x y _ w => h.1 b x y w, h.2.1, h.2.2, fun k _ => by rw [h.1 89 (by decide) (by decide) (by decide)]⟩
theorem zFT_tr {i : Nat} {J J' J'' : zMI} (h : zFT t i J J') (h' : zFT t i J' J'') : zFT t i J J'' := ⟨fun b x y z w => by rw [h'.1 b x y z w, h.1 b x y z w], fun j x => by rw [h'.2.1 j x, h.2.1 j x], fun k x => by rw [h'.2.2.1 k x, h.2.2.1 k x], fun k x => by rw [h'.2.2.2 k x, h.2.2.2 k x]⟩
theorem zFC_P {i : Nat} {I I' : zMI} (h : zFC I I') : zFP i I I' := ⟨fun b x y _ => h.1 b x y, h.2, fun k _ => by rw [h.1 40 (by decide) (by decide)]⟩
theorem zFP_tr {i : Nat} {I I' I'' : zMI} (h : zFP i I I') (h' : zFP i I' I'') : zFP i I I'' := ⟨fun b x y z => by rw [h'.1 b x y z, h.1 b x y z], fun j x1 x2 x3 x4 x5 x6 => by rw [h'.2.1 j x1 x2 x3 x4 x5 x6, h.2.1 j x1 x2 x3 x4 x5 x6], fun k x => by rw [h'.2.2 k x, h.2.2 k x]⟩
theorem zKr_key {k : Int32} {i : Nat} (hk : zkin k) (hi : i < 3) : (zKr k = 3 ∧ k - 4 = Int32.ofNat i) ↔ k = Int32.ofNat (4 + i) := by
  rcases (show i = 0 ∨ i = 1 ∨ i = 2 by omega) with e | e | e <;> subst e <;> rcases hk with k | k | k | k | k | k | k | k | k | k | k | k | k | k | k | k | k | k <;> subst k <;> decide
/-- a part is read in vain -/
theorem zV_part {b i : Nat} (hi : i < 3) {l2 : Int32} {I : zMI} (h : zVS T z b I) : ∃ I', f7_readPart (Int32.ofNat i) l2 I = some I' ∧ zVS T z b I' ∧ zFP i I I' := by
  have ei := zofn_i (m := i) (by omega)
  have hK : zVS T z b (uI I 40 i (I 37 8)) := by
    obtain ⟨h1, h2, ⟨p, p1, p2⟩, h4, h5, h6, h7⟩ := h
    exact ⟨by rw [uI_ne (by decide)]; exact h1, fun k hk => by rw [uI_ne (by decide)]; exact h2 k hk, ⟨p, p1, by rw [uI_ne (by decide)]; exact p2⟩, by rw [uI_ne (by decide)]; exact h4, h5, h6, h7⟩
  obtain ⟨I1, u1, u2, u3⟩ := zV_expect (x := l2) _ hK
  obtain ⟨I2, v1, v2, v3⟩ := zV_P3 (k := 18) (o := 0) I1 u2
  obtain ⟨I3, w1, w2, w3⟩ := zV_expect (x := 59) I2 v2
  refine ⟨I3, ?_, w2, zFP_tr ⟨fun b x y z => uI_ne z, fun j _ _ _ _ _ _ => by rw [uI_ne (by decide)], fun k x => uI_off x⟩ (zFC_P (zFC_tr (zFC_tr u3 v3) w3))⟩
  unfold f7_readPart
  rw [if_neg (by rw [zlt_iff, z0]; omega), if_neg (by rw [zle_iff, zn3i]; omega), if_pos (zib_ok (by omega) (by omega)), zl_eq, zofn_n (by omega)]
  unfold f7_readPart_B19
  rw [u1, zb_some, v1, zb_some, w1, zb_some]
/-- a part, both sides -/
theorem zpart {i : Nat} (hi : i < 3) {I : zMI} {p : Nat} {W : List Int32} (hI : zCS T z I p W) (hW : W.length ≤ p) (k101 : Int32 → zMI → Option (Int32 × zMI)) : ∃ I', f7_readPart (Int32.ofNat i) (Int32.ofNat (4 + i)) I = some I' ∧ zFP i I I' ∧
    ((∃ p' N, zCS T z I' p' (N ++ W) ∧ (N ++ W).length ≤ p' ∧ zds N 0 = some 1 ∧ (∀ x ∈ N, zwk x) ∧ I' 40 i = Int32.ofNat W.length ∧ ∀ q J, zRz T z t J p (W.map zw2c) → ∃ J', f12_text_L26 k101 (q + 1) 1 (Int32.ofNat i) J = f12_text_L26 k101 q 1 (Int32.ofNat (i + 1)) J' ∧ zRz T z t J' p' ((N ++ W).map zw2c) ∧ zFT t i J J' ∧ J' 89 (4 * t + i) = Int32.ofNat W.length)
    ∨ ∃ b, zVS T z b I' ∧ ∀ q J, zRz T z t J p (W.map zw2c) → ∃ J', f12_text_L26 k101 (q + 2) 1 (Int32.ofNat i) J = k101 0 J' ∧ J' 81 11 = Int32.ofNat t ∧ t ≤ 5 ∧ J' 81 23 = Int32.ofNat b ∧ zFT t i J J') := by
  have ei := zofn_i (m := i) (by omega)
  have hz := hI.2.2.2.2.2.2.2.2.2
  obtain ⟨K, hK⟩ : ∃ K, uI I 40 i (I 37 8) = K := ⟨_, rfl⟩
  have K40 : K 40 i = Int32.ofNat W.length := by rw [← hK, uI_at]; exact hI.2.2.2.2.2.2.2.1
  have fK : zFP i I K := by rw [← hK]; exact ⟨fun b x y z => uI_ne z, fun j _ _ _ _ _ _ => by rw [uI_ne (by decide)], fun k x => uI_off x⟩
  have cK : zCS T z K p W := by
    obtain ⟨h1, h2, h3, h4, h5, h6, h7, h8, h9, h10⟩ := hI
    rw [← hK]
    exact ⟨by rw [uI_ne (by decide)]; exact h1, fun k hk => by rw [uI_ne (by decide)]; exact h2 k hk, by rw [uI_ne (by decide)]; exact h3, by rw [uI_ne (by decide)]; exact h4, by rw [uI_ne (by decide)]; exact h5, fun q => by rw [uI_ne (by decide)]; exact h6 q, by rw [uI_ne (by decide)]; exact h7, by rw [uI_ne (by decide)]; exact h8, by rw [uI_ne (by decide)]; exact h9, h10⟩
  have F : f7_readPart (Int32.ofNat i) (Int32.ofNat (4 + i)) I = f7_readPart_B19 (Int32.ofNat (4 + i)) K := by
    unfold f7_readPart
    rw [if_neg (by rw [zlt_iff, z0]; omega), if_neg (by rw [zle_iff, zn3i]; omega), if_pos (zib_ok (by omega) (by omega)), zl_eq, zofn_n (by omega), hK]
  rw [F]
  unfold f7_readPart_B19
  -- the reference, up to an expression's beginning
  have len : (W.map zw2c).length = W.length := List.length_map ..
  have ref : ∀ q J, zRz T z t J p (W.map zw2c) → ∃ J1, f12_next J = some J1 ∧ J1 81 23 = Int32.ofNat (zKb T z p) ∧ ∃ J2, zRz T z t J2 (zKe T z p) (W.map zw2c) ∧ J2 81 23 = Int32.ofNat (zKb T z p) ∧ zFT t i J J2 ∧ J2 89 (4 * t + i) = Int32.ofNat W.length ∧ (¬ zKk T z p = Int32.ofNat (4 + i) → f12_text_L26 k101 (q + 1) 1 (Int32.ofNat i) J = f12_text_L26 k101 q 0 (Int32.ofNat i + 1) J2) ∧ (zKk T z p = Int32.ofNat (4 + i) → f12_text_L26 k101 (q + 1) 1 (Int32.ofNat i) J = zb (f12_eRead J2) fun p13 => if p13.1 = (0 : Int32) then f12_text_L26 k101 q 0 (Int32.ofNat i + 1) p13.2 else f12_text_L26 k101 q 1 (Int32.ofNat i + 1) p13.2) := fun q J hJ => by
    obtain ⟨J1, u1, u2, u3, u4, u5, u6, u7⟩ := zRz_next hJ
    have t5 := hJ.2.2.2.2.2.2.2.2.2.2
    have et := zofn_i (m := t) (by omega)
    have z4 : (4 : Int32).toInt = 4 := rfl
    have e1 : ((4 : Int32) * Int32.ofNat t).toInt = 4 * (t : Int) := by rw [zmul (by rw [z4]; omega) (by rw [z4]; omega), z4, et]
    have e2 : ((4 : Int32) * Int32.ofNat t + Int32.ofNat i).toInt = ((4 * t + i : Nat) : Int) := by rw [zadd (by omega) (by omega)]; omega
    have n2 : ((4 : Int32) * Int32.ofNat t + Int32.ofNat i).toNatClampNeg = 4 * t + i := by rw [zcl_iff, e2]; omega
    have o30 : J1 81 30 = Int32.ofNat W.length := by rw [u2.2.2.2.2.2.1, len]
    have hin := zKk_in (T := T) (z := z) (p := p) hz.1
    refine ⟨J1, u1, u3, uI J1 89 (4 * t + i) (Int32.ofNat W.length), zRS_Rz u2 (fun j _ => by rw [uI_ne (by decide)]) (fun b hb => by rw [uI_ne (by omega)]), by rw [uI_ne (by decide)]; exact u3, ⟨fun b x y z w => by rw [uI_ne z, u6 b x], fun j x => by rw [uI_ne (by decide), u7 j x], fun k _ => by rw [uI_ne (by decide), u6 88 (by decide)], fun k x => by rw [uI_off x, u6 89 (by decide)]⟩, uI_at, fun hk => ?_, fun hk => ?_⟩
    · have hx : (if (J1 81 24) = (3 : Int32) then if (J1 81 25) = Int32.ofNat i then (1 : Int32) else 0 else 0) = 0 := by
        by_cases k3 : J1 81 24 = 3
        · rw [if_pos k3]
          have k456 : zKk T z p = 4 ∨ zKk T z p = 5 ∨ zKk T z p = 6 := by
            rw [u4] at k3
            rcases hin with k | k | k | k | k | k | k | k | k | k | k | k | k | k | k | k | k | k <;> rw [k] at k3 ⊢ <;> first | decide | (exfalso; revert k3; decide)
          rw [if_neg (fun y => hk ((zKr_key hin hi).mp ⟨by rw [← u4]; exact k3, by rw [← u5 k456]; exact y⟩))]
        · rw [if_neg k3]
      rw [f12_text_L26]
      rw [if_neg (by rw [zle_iff, zn3i]; omega), if_neg (by decide), u1, zb_some, hx, zl_eq, u2.2.2.2.2.1, if_pos (zib_ok (by omega) (by omega)), n2, o30, zl_eq, if_pos rfl]
      rfl
    · obtain ⟨k3, k4⟩ := (zKr_key hin hi).mpr hk
      have k456 : zKk T z p = 4 ∨ zKk T z p = 5 ∨ zKk T z p = 6 := by
        rcases hin with k | k | k | k | k | k | k | k | k | k | k | k | k | k | k | k | k | k <;> rw [k] at k3 ⊢ <;> first | decide | (exfalso; revert k3; decide)
      have hx : (if (J1 81 24) = (3 : Int32) then if (J1 81 25) = Int32.ofNat i then (1 : Int32) else 0 else 0) = 1 := by
        rw [if_pos (by rw [u4]; exact k3), if_pos (by rw [u5 k456]; exact k4)]
      rw [f12_text_L26]
      rw [if_neg (by rw [zle_iff, zn3i]; omega), if_neg (by decide), u1, zb_some, hx, zl_eq, u2.2.2.2.2.1, if_pos (zib_ok (by omega) (by omega)), n2, o30, zl_eq, if_neg (by decide)]
      rfl
  have bad : ∀ q J, f12_text_L26 k101 (q + 1) 0 (Int32.ofNat i + 1) J = k101 0 J := fun q J => by
    rw [f12_text_L26]
    by_cases y : (3 : Int32) ≤ Int32.ofNat i + 1
    · rw [if_pos y]
    · rw [if_neg y, if_pos rfl]
  by_cases hk : zKk T z p = Int32.ofNat (4 + i)
  · have pos := zKk_pos (T := T) hz.1 (by rw [hk]; rcases (show i = 0 ∨ i = 1 ∨ i = 2 by omega) with e | e | e <;> rw [e] <;> decide)
    obtain ⟨I1, u1, u2, u3⟩ := zCS_next cK
    have E1 : f7_expect (Int32.ofNat (4 + i)) K = some I1 := by
      unfold f7_expect
      rw [cK.2.2.2.1, if_pos hk, u1, zb_some]
    obtain ⟨I2, v1, v2, v3⟩ := (zSP_all (T := T) (z := z) (t := t) 20 0 (by decide) (by decide)).2.2 (by decide) I1 (zKe T z p) W u2 (by omega)
    rw [E1, zb_some, v1, zb_some]
    -- the reference comes to the same place
    have tE : ztp 1 [] := fun x S' y => by cases y
    rcases v3 with ⟨p1, N, w1, w2, w3, w4⟩ | ⟨b, w1, w2⟩
    · have hz1 := w1.2.2.2.2.2.2.2.2.2
      have ref2 : ∀ q J, zRz T z t J p (W.map zw2c) → ∃ J2, J2 89 (4 * t + i) = Int32.ofNat W.length ∧ zFT t i J J2 ∧ f12_text_L26 k101 (q + 1) 1 (Int32.ofNat i) J = (zb (f12_eRead J2) fun p13 => if p13.1 = (0 : Int32) then f12_text_L26 k101 q 0 (Int32.ofNat i + 1) p13.2 else f12_text_L26 k101 q 1 (Int32.ofNat i + 1) p13.2) ∧ ∃ q' m' J3 s', 200 ≤ q' + 1 + p1 ∧ f12_eRead J2 = zKE (q' + 1) 0 m' J3 ∧ zRS T z t J3 p1 s' ∧ (zFT t i J2 J3 ∧ J3 89 = J2 89) ∧ zuS 1 s' = ([], 0, (N ++ W).map zw2c) ∧ (zXk (zKk T z p1) s' ∧ zopA (zKk T z p1) = none) ∧ zopO (zKk T z p1) = none := fun q J hJ => by
        obtain ⟨J1, a1, a2, J2, a3, a4, a5, a6, -, a7⟩ := ref q J hJ
        obtain ⟨J2', b1, b2, b3, b4⟩ := zRz_e a3
        obtain ⟨q', m', J3, s', c1, c2, c3, c4, c5, c6, c7⟩ := w4 zF J2' [] 1 (by unfold zF; omega) tE (by show ¬ (1 : Int32) = 0; decide) b2
        obtain ⟨q', rfl⟩ : ∃ x, q' = x + 1 := ⟨q' - 1, by omega⟩
        exact ⟨J2, a6, a5, a7 hk, q', m', J3, s', c1, b1.trans c2, c3, ⟨zFT_tr ⟨fun b x _ _ _ => b3 b x, fun j x => b4 j (by omega) (by omega), fun k _ => by rw [b3 88 (by decide)], fun k _ => by rw [b3 89 (by decide)]⟩ (zFR_T c4), by rw [c4.1 89 (by decide) (by decide) (by decide), b3 89 (by decide)]⟩, c5, c6, c7⟩
      by_cases k59 : zKk T z p1 = 59
      · have pos1 := zKk_pos (T := T) hz1.1 (by rw [k59]; decide)
        obtain ⟨I3, x1, x2, x3⟩ := zCS_next w1
        have E3 : f7_expect 59 I2 = some I3 := by
          unfold f7_expect
          rw [w1.2.2.2.1, if_pos k59, x1, zb_some]
        rw [E3, zb_some]
        have f3 := zFC_tr (zFC_tr u3 v2) x3
        refine ⟨I3, rfl, zFP_tr fK (zFC_P f3), Or.inl ⟨zKe T z p1, N, x2, by rw [List.length_append]; omega, w3.1 0 (Nat.zero_le _), w3.2, by rw [f3.1 40 (by decide) (by decide)]; exact K40, fun q J hJ => ?_⟩⟩
        obtain ⟨J2, a1, a2, a3, q', m', J3, s', b1, b2, b3, ⟨b4, b9⟩, b5, -, -⟩ := ref2 q J hJ
        obtain ⟨J4, c1, c2, c3, c4⟩ := zst_semi (q := q') (m := m') (k159 := f12_eRead_B159) b3 k59
        obtain ⟨J5, d1, d2, d3, d4⟩ := zst_B159 c2
        rw [b5, if_pos rfl] at d1
        rw [b5] at d2
        have r0 := zRz_of d2
        have fr := zFT_tr (zFT_tr b4 (zFR_T (i := i) c4)) (zFR_T (i := i) d3)
        refine ⟨J5, ?_, r0, zFT_tr a2 fr, ?_⟩
        · rw [a3, b2, (show zKE (q' + 1) 0 m' J3 = some (1, J5) from c1.trans d1), zb_some]
          dsimp only
          rw [if_neg (by decide), zofs (by omega)]
        · rw [d3.1 89 (by decide) (by decide) (by decide), c4.1 89 (by decide) (by decide) (by decide), b9]
          exact a1
      · obtain ⟨I3, x1, x2, x3, -⟩ := zCS_fail w1
        have E3 : f7_expect 59 I2 = some I3 := by
          unfold f7_expect
          rw [w1.2.2.2.1, if_neg k59, x1, zb_some]
        rw [E3, zb_some]
        refine ⟨I3, rfl, zFP_tr fK (zFC_P (zFC_tr (zFC_tr u3 v2) x3)), Or.inr ⟨_, x2, fun q J hJ => ?_⟩⟩
        obtain ⟨J2, a1, a2, a3, q', m', J3, s', b1, b2, b3, ⟨b4, b9⟩, b5, ⟨b6, b7⟩, b8⟩ := ref2 (q + 1) J hJ
        obtain ⟨J4, c1, c2, c3⟩ := zst_stuck (q := q') (m := m') b3 b6 b7 b8 (fun _ => by rw [b5]) (fun y => absurd y k59)
        have fr := zFT_tr (zFT_tr a2 b4) (zFR_T (i := i) c3)
        refine ⟨J4, ?_, by rw [fr.2.1 11 (by decide)]; exact hJ.2.2.2.2.1, hJ.2.2.2.2.2.2.2.2.2.2, c2, fr⟩
        rw [a3, b2, c1, zb_some]
        dsimp only
        rw [if_pos rfl, bad]
    · obtain ⟨I3, x1, x2, x3⟩ := zV_expect (x := 59) I2 w1
      rw [x1, zb_some]
      refine ⟨I3, rfl, zFP_tr fK (zFC_P (zFC_tr (zFC_tr u3 v2) x3)), Or.inr ⟨b, x2, fun q J hJ => ?_⟩⟩
      obtain ⟨J1, a1, a2, J2, a3, a4, a5, a6, -, a7⟩ := ref (q + 1) J hJ
      obtain ⟨J2', b1, b2, b3, b4⟩ := zRz_e a3
      obtain ⟨J3, c1, c2, c3⟩ := w2 zF J2' [] 1 (by unfold zF; omega) tE (by show ¬ (1 : Int32) = 0; decide) b2
      have fr := zFT_tr (zFT_tr a5 ⟨fun b x _ _ _ => b3 b x, fun j x => b4 j (by omega) (by omega), fun k _ => by rw [b3 88 (by decide)], fun k _ => by rw [b3 89 (by decide)]⟩) (zFR_T (i := i) c3)
      refine ⟨J3, ?_, by rw [fr.2.1 11 (by decide)]; exact hJ.2.2.2.2.1, hJ.2.2.2.2.2.2.2.2.2.2, c2, fr⟩
      rw [a7 hk, b1, c1, zb_some]
      dsimp only
      rw [if_pos rfl, bad]
  · obtain ⟨I1, u1, u2, u3, -⟩ := zCS_fail cK
    have E1 : f7_expect (Int32.ofNat (4 + i)) K = some I1 := by
      unfold f7_expect
      rw [cK.2.2.2.1, if_neg hk, u1, zb_some]
    obtain ⟨I2, v1, v2, v3⟩ := zV_P3 (k := 18) (o := 0) I1 u2
    obtain ⟨I3, w1, w2, w3⟩ := zV_expect (x := 59) I2 v2
    rw [E1, zb_some, v1, zb_some, w1, zb_some]
    refine ⟨I3, rfl, zFP_tr fK (zFC_P (zFC_tr (zFC_tr u3 v3) w3)), Or.inr ⟨_, w2, fun q J hJ => ?_⟩⟩
    obtain ⟨J1, a1, a2, J2, a3, a4, a5, a6, a7, -⟩ := ref (q + 1) J hJ
    exact ⟨J2, by rw [a7 hk, bad], by rw [a5.2.1 11 (by decide)]; exact hJ.2.2.2.2.1, hJ.2.2.2.2.2.2.2.2.2.2, a4, a5⟩
end
