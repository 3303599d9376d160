/-! pure part: more text -/
section
variable {T : Nat → Int32} {c cap s0 n0 : Nat} {kd0 : zMK} {I0 : zMI} {R0 : zMR} {n : Nat} {kd : zMK} {I : zMI} {R : zMR}
theorem gJ_coderT {l : Nat} (hl : l < 4) : fJ0_coder_7d493T l = some 0 := by
  unfold fJ0_coder_7d493T
  rw [if_pos (decide_eq_true hl), zb_some]
  rfl
theorem gJ_lenT {l : Nat} (hl : l < 4) : fJ0_length_8abf5T l = some (Int32.ofNat (zSlen.getD (12 + l) 0)) := by
  unfold fJ0_length_8abf5T
  rw [if_pos (decide_eq_true hl), gJ_coderT hl, zb_some, zsr0]
theorem b_appS (h : zSB T c cap s0 n0 kd0 I0 R0 n kd I R) {l len N : Nat} (hl : l < 4) (hlen : zSlen.getD (12 + l) 0 = len) (hN : N = max (c + len) (2 * cap + 2)) (h160 : N ≤ 160) (hT : ∀ j, j < len → T (c + j) = (zSbyt.getD (12 + l) []).getD j 0) (hb : ∀ j, j < len → zBy ((zSbyt.getD (12 + l) []).getD j 0)) :
    ∃ n' kd' I' R' cap', fJ4_append_15ec4j s0 l n kd I R = some (s0, (n', kd'), I', R') ∧ zSB T (c + len) cap' s0 n0 kd0 I0 R0 n' kd' I' R' ∧ cap' = (if c + len ≤ cap then cap else N) := by
  have h3 := h
  obtain ⟨hx0, ⟨-, -, t2, t3⟩, -, -, -, -, ⟨-, i3⟩, -, -⟩ := h3
  obtain ⟨n', kd', I', R', cap', e1, h2, e2, e3⟩ := b_ensure h (m := c + len) hN h160
  obtain ⟨hx, ⟨s0', s1, s2, s3⟩, b, r0, ⟨b1, b2, b3, b4⟩, ⟨c1, c2⟩, ⟨j1, j3⟩, ht, hy⟩ := h2
  have kn : zKdB n kd s0 28 = true := zKd_ok (by omega) t2 t3
  have k28 : zKdB n' kd' s0 28 = true := zKd_ok (by omega) s2 s3
  have k12 : zKdB n' kd' b 12 = true := zKd_ok (by omega) b2 (by rw [b4])
  obtain ⟨f, hf⟩ : ∃ f : Nat → Int32, (fun k => (zSbyt.getD (12 + l) []).getD k 0) = f := ⟨_, rfl⟩
  have hfk : ∀ k, (zSbyt.getD (12 + l) []).getD k 0 = f k := fun k => by rw [← hf]
  have hcp : zcpB 0 (Int32.ofNat c) (Int32.ofNat len) len cap' = true := zcp_ok (by omega) (by omega) (Nat.le_refl _) (by omega)
  have gb : fJ0_getBytes_840e7T n' kd' l b (Int32.ofNat c) 0 I' = some (uA I' b (va_cpy f (I' b) 0 c len)) := by
    unfold fJ0_getBytes_840e7T
    rw [if_pos (decide_eq_true hl), gJ_coderT hl, zb_some, if_pos rfl, if_pos k12, hlen, b4, zsl0, if_pos hcp, hf, zofn_n (by omega), zofn_n (by omega), if_pos (zbf_ok fun i hi => by rw [show (0 : Int32).toNatClampNeg + i = i by rw [show (0 : Int32).toNatClampNeg = 0 from rfl]; omega, ← hfk]; exact hb i hi), zl_eq]
    rfl
  have ps : fJ5_putStringAt_47b60j n' kd' R' s0 (Int32.ofNat c) l I' = some (uA I' b (va_cpy f (I' b) 0 c len)) := by
    unfold fJ5_putStringAt_47b60j fJ5_inflateIfNeededFor_a7421j
    rw [if_pos k28, if_pos k28, if_pos (decide_eq_true hl), gJ_coderT hl, zb_some, j1, if_pos rfl, zb_some, r0, zm_some, if_pos (decide_eq_true hl), gb, zb_some]
  have cy : ∀ k, va_cpy f (I' b) 0 c len k = if c ≤ k ∧ k < c + len then f (k - c) else I' b k := fun k => by
    unfold va_cpy
    by_cases z : c ≤ k ∧ k < c + len
    · rw [if_pos z, if_pos z, Nat.zero_add]
    · rw [if_neg z, if_neg z]
  refine ⟨n', kd', uI (uA I' b (va_cpy f (I' b) 0 c len)) s0 3 (Int32.ofNat (c + len)), R', cap', ?_, ⟨zXt_I (zXt_A hx b1) s1, ⟨s0', s1, s2, s3⟩, b, r0, ⟨b1, b2, b3, b4⟩, ⟨e2, c2⟩, ⟨?_, ?_⟩, fun k hk => ?_, fun k hk => ?_⟩, e3⟩
  · unfold fJ4_append_15ec4j fJ5_append_cf1cej
    rw [if_pos kn, if_pos (decide_eq_true hl), gJ_lenT hl, zb_some, hlen, if_pos kn, i3, zofadd, e1, zb_some]
    dsimp only
    rw [if_pos (zSh_B hx.1), if_pos k28, j3, ps, zb_some, zl_eq, uA_ne (by omega), j3, zofadd, zb_some]
    dsimp only
    rw [if_pos (zSh_B hx.1)]
  · rw [uI_off (by decide), uA_ne (by omega)]
    exact j1
  · rw [uI_at]
  · rw [uI_ne b3, uA_at, cy]
    by_cases z : c ≤ k ∧ k < c + len
    · rw [if_pos z, ← hfk]
      have := hT (k - c) (by omega)
      rw [show c + (k - c) = k by omega] at this
      exact this.symm
    · rw [if_neg z]
      exact ht k (by omega)
  · rw [uI_ne b3, uA_at, cy]
    by_cases z : c ≤ k ∧ k < c + len
    · rw [if_pos z, ← hfk]
      exact hb _ (by omega)
    · rw [if_neg z]
      exact hy k hk
/-- a digit -/
theorem gJ_size : ∀ v, v < 4 → fJ6_stringSize_0f7a4j (Int32.ofNat v) = some 1 := by decide +kernel
theorem b_appI (h : zSB T c cap s0 n0 kd0 I0 R0 n kd I R) {v N : Nat} (hv : v < 4) (hN : N = max (c + 1) (2 * cap + 2)) (h160 : N ≤ 160) (hT : T c = Int32.ofNat (48 + v)) :
    ∃ n' kd' I' R' cap', fJ4_append_bf812j s0 (Int32.ofNat v) n kd I R = some (s0, (n', kd'), I', R') ∧ zSB T (c + 1) cap' s0 n0 kd0 I0 R0 n' kd' I' R' ∧ cap' = (if c + 1 ≤ cap then cap else N) := by
  have h3 := h
  obtain ⟨hx0, ⟨-, -, t2, t3⟩, -, -, -, -, ⟨-, i3⟩, -, -⟩ := h3
  obtain ⟨n', kd', I', R', cap', e1, h2, e2, e3⟩ := b_ensure h (m := c + 1) hN h160
  obtain ⟨hx, ⟨s0', s1, s2, s3⟩, b, r0, ⟨b1, b2, b3, b4⟩, ⟨c1, c2⟩, ⟨j1, j3⟩, ht, hy⟩ := h2
  have kn : zKdB n kd s0 28 = true := zKd_ok (by omega) t2 t3
  have k28 : zKdB n' kd' s0 28 = true := zKd_ok (by omega) s2 s3
  have k12 : zKdB n' kd' b 12 = true := zKd_ok (by omega) b2 (by rw [b4])
  have ev := zofn_i (m := v) (by omega)
  have il : fJ5_isLatin1_aae02j n' kd' I' s0 = some 1 := by
    unfold fJ5_isLatin1_aae02j
    rw [if_pos k28, j1, if_pos rfl, zb_some]
    rfl
  have e11 : Int32.ofNat (c + 1) + (-1 : Int32) = Int32.ofNat c := by
    have e := zofn_i (m := c + 1) (by omega)
    have en : (-1 : Int32).toInt = -1 := rfl
    rw [zeq_iff, zadd (by rw [e, en]; omega) (by rw [e, en]; omega), e, en, zofn_i (by omega)]
    omega
  have neg : (-Int32.ofNat v).toInt = -(v : Int) := by
    rw [Int32.toInt_neg]
    rw [ev]
    exact Int.bmod_eq_of_le (by omega) (by omega)
  have nn : - -Int32.ofNat v = Int32.ofNat v := Int32.neg_neg
  have dg : (zDo v).toInt8.toInt32 = Int32.ofNat (48 + v) := by
    have : zDo v = Int32.ofNat (48 + v) := by
      unfold zDo
      rw [Nat.mod_eq_of_lt (by omega)]
    rw [this]
    exact (zBy_all (48 + v) (by omega)).2.1
  have m100 : (-100 : Int32).toInt = -100 := rfl
  have m9 : (-9 : Int32).toInt = -9 := rfl
  have gc : fJ6_getChars_ba4f3j n' kd' (Int32.ofNat v) (Int32.ofNat (c + 1)) b I' = some (Int32.ofNat c, uI I' b c (Int32.ofNat (48 + v))) := by
    unfold fJ6_getChars_ba4f3j
    have hx0 : (if (0 : Int32) ≤ Int32.ofNat v then (0 : Int32) else 1) = 0 := if_pos (by rw [zle_iff, z0]; omega)
    rw [hx0, zl_eq, if_pos rfl]
    unfold zF
    rw [fJ6_getChars_ba4f3j_L22, if_pos (by rw [zlt_iff, neg, m100]; omega)]
    unfold fJ6_getChars_ba4f3j_B72 fJ6_getChars_ba4f3j_B104
    rw [nn, if_pos (zib_ok (by omega) (by omega)), if_pos k12, e11, b4, if_pos (zib_ok (by rw [zofn_i (by omega)]; omega) (by rw [zofn_i (by omega)]; omega)), zl_eq, zofn_n (by omega), zofn_n (by omega), dg, if_pos (by rw [zle_iff, neg, m9]; omega), if_pos rfl]
  refine ⟨n', kd', uI (uI I' b c (Int32.ofNat (48 + v))) s0 3 (Int32.ofNat (c + 1)), R', cap', ?_, ⟨zXt_I (zXt_I hx b1) s1, ⟨s0', s1, s2, s3⟩, b, r0, ⟨b1, b2, b3, b4⟩, ⟨e2, c2⟩, ⟨?_, ?_⟩, fun k hk => ?_, fun k hk => ?_⟩, e3⟩
  · unfold fJ4_append_bf812j fJ5_append_c97b9j
    rw [if_pos kn, if_pos kn, gJ_size v hv, zb_some, i3, show (1 : Int32) = Int32.ofNat 1 from rfl, zofadd, e1, zb_some]
    dsimp only
    rw [if_pos (zSh_B hx.1), if_pos k28, il, zb_some, if_neg (by decide), r0, zm_some, gc, zb_some, zl_eq, zb_some]
    dsimp only
    rw [if_pos (zSh_B hx.1)]
  · rw [uI_off (by decide), uI_ne (by omega)]
    exact j1
  · rw [uI_at]
  · rw [uI_ne b3]
    by_cases z : k = c
    · rw [z, uI_at, hT]
    · rw [uI_off z]
      exact ht k (by omega)
  · rw [uI_ne b3]
    by_cases z : k = c
    · rw [z, uI_at]
      exact (zBy_all (48 + v) (by omega)).1
    · rw [uI_off z]
      exact hy k hk
/-- the builder, empty -/
theorem b_sbInit (hS : zSh n kd) : ∃ n' kd' I' R', fJ4_init_da8c8j n (n + 1) (uK kd n (28, 0)) (uA I n (fun _ => 0)) (uRA R n) = some ((n', kd'), I', R') ∧ zSB T 0 16 n n kd I R n' kd' I' R' := by
  have hn := hS.1
  have hx := zXt_new (v := (12, 16)) (f := fun _ => 0) (zXt_new (v := (28, 0)) (f := fun _ => 0) (zXt_rfl (I := I) (R := R) hS))
  have ks : uK (uK kd n (28, 0)) (n + 1) (12, 16) n = (28, 0) := by rw [uK_ne (by omega), uK_at]
  have k28 : zKdB (n + 1 + 1) (uK (uK kd n (28, 0)) (n + 1) (12, 16)) n 28 = true := zKd_ok (by omega) (by omega) (by rw [ks])
  have hR : zXt n kd I R (n + 1 + 1) (uK (uK kd n (28, 0)) (n + 1) (12, 16)) (uI (uA (uA I n (fun _ => 0)) (n + 1) (fun _ => 0)) n 1 0) (uR (uRA (uRA R n) (n + 1)) n 0 (some (n + 1))) := zXt_R (zXt_I hx (Nat.le_refl _)) (Nat.le_refl _)
  refine ⟨_, _, _, _, ?_, hR, ⟨hn, Nat.le_refl _, by omega, by rw [ks]⟩, n + 1, uR_at, ⟨by omega, by omega, by omega, uK_at⟩, ⟨by omega, by omega⟩, ⟨uI_at, ?_⟩, fun k hk => by omega, fun k _ => ?_⟩
  · unfold fJ4_init_da8c8j fJ5_init_d00dfj
    rw [if_pos (by decide), show (16 : Int32).toNatClampNeg = 16 from rfl, zl_eq, zl_eq, zl_eq, if_pos (zSh_B hx.1), if_pos k28, zl_eq, zl_eq, zb_some]
    dsimp only
    rw [if_pos (zSh_B hx.1)]
  · rw [uI_off (by decide), uA_ne (by omega), uA_at]
    rfl
  · rw [uI_ne (by omega), uA_at]
    exact (zBy_all 0 (by decide)).1
end
