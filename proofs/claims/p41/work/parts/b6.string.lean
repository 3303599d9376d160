/-! pure part: the text itself, its letters -/
def zST (T : Nat → Int32) (c t : Nat) (n0 : Nat) (kd0 : zMK) (I0 : zMI) (R0 : zMR) (n : Nat) (kd : zMK) (I : zMI) (R : zMR) : Prop := zXt n0 kd0 I0 R0 n kd I R ∧ (114 ≤ n0 ∧ n0 ≤ t ∧ t < n ∧ (kd t).1 = 29) ∧ ∃ b, R t 0 = some b ∧ (n0 ≤ b ∧ b < n ∧ b ≠ t ∧ kd b = (12, c)) ∧ I t 1 = 0 ∧ ∀ k, k < c → I b k = T k
section
variable {T : Nat → Int32} {c cap s0 n0 : Nat} {kd0 : zMK} {I0 : zMI} {R0 : zMR} {n : Nat} {kd : zMK} {I : zMI} {R : zMR}
theorem zsub0 (x : Int32) : x - (0 : Int32) = x := Int32.sub_zero x
theorem b_toString (h : zSB T c cap s0 n0 kd0 I0 R0 n kd I R) (hc : c < cap) : ∃ t n' kd' I' R', fJ4_toString_0e30dj s0 n kd I R = some (t, (n', kd'), I', R') ∧ zST T c t n0 kd0 I0 R0 n' kd' I' R' := by
  obtain ⟨hx, ⟨s0', s1, s2, s3⟩, b, r0, ⟨b1, b2, b3, b4⟩, ⟨c1, c2⟩, ⟨i1, i3⟩, ht, hy⟩ := h
  have hn0 := hx.2.1
  have ec := zofn_i (m := c) (by omega)
  have ecap := zofn_i (m := cap) (by omega)
  have nc := zofn_n (m := c) (by omega)
  obtain ⟨D, hD⟩ : ∃ D, uK kd n (29, 0) = D := ⟨_, rfl⟩
  obtain ⟨J, hJ⟩ : ∃ J, uA I n (fun _ => 0) = J := ⟨_, rfl⟩
  obtain ⟨W, hW⟩ : ∃ W, uRA R n = W := ⟨_, rfl⟩
  have x1 : zXt n0 kd0 I0 R0 (n + 1) D J W := by rw [← hD, ← hJ, ← hW]; exact zXt_new hx
  have Ds : (D s0).1 = 28 := by rw [← hD, uK_ne (by omega)]; exact s3
  have Db : D b = (12, cap) := by rw [← hD, uK_ne (by omega)]; exact b4
  have Dn : D n = (29, 0) := by rw [← hD, uK_at]
  have Js1 : J s0 1 = 0 := by rw [← hJ, uA_ne (by omega)]; exact i1
  have Js3 : J s0 3 = Int32.ofNat c := by rw [← hJ, uA_ne (by omega)]; exact i3
  have Ws : W s0 0 = some b := by rw [← hW, uRA_ne (by omega)]; exact r0
  have Jb : ∀ k, J b k = I b k := fun k => by rw [← hJ, uA_ne (by omega)]
  have k28 : zKdB (n + 1) D s0 28 = true := zKd_ok (by omega) (by omega) Ds
  have k29 : zKdB (n + 1) D n 29 = true := zKd_ok (by omega) (by omega) (by rw [Dn])
  have k12 : zKdB (n + 1) D b 12 = true := zKd_ok (by omega) (by omega) (by rw [Db])
  obtain ⟨J2, hJ2⟩ : ∃ J2, uI J n 1 0 = J2 := ⟨_, rfl⟩
  have x2 : zXt n0 kd0 I0 R0 (n + 1) D J2 W := by rw [← hJ2]; exact zXt_I x1 (by omega)
  have J2b : ∀ k, J2 b k = I b k := fun k => by rw [← hJ2, uI_ne (by omega), Jb]
  have J2n : J2 n 1 = 0 := by rw [← hJ2, uI_at]
  obtain ⟨D3, hD3⟩ : ∃ D3, uK D (n + 1) (12, c) = D3 := ⟨_, rfl⟩
  obtain ⟨J3, hJ3⟩ : ∃ J3, uA J2 (n + 1) (fun _ => 0) = J3 := ⟨_, rfl⟩
  obtain ⟨W3, hW3⟩ : ∃ W3, uRA W (n + 1) = W3 := ⟨_, rfl⟩
  have x3 : zXt n0 kd0 I0 R0 (n + 1 + 1) D3 J3 W3 := by rw [← hD3, ← hJ3, ← hW3]; exact zXt_new x2
  have D3b : D3 b = (12, cap) := by rw [← hD3, uK_ne (by omega)]; exact Db
  have D3n : D3 n = (29, 0) := by rw [← hD3, uK_ne (by omega)]; exact Dn
  have D3m : D3 (n + 1) = (12, c) := by rw [← hD3, uK_at]
  have J3b : ∀ k, J3 b k = I b k := fun k => by rw [← hJ3, uA_ne (by omega)]; exact J2b k
  have J3n : J3 n 1 = 0 := by rw [← hJ3, uA_ne (by omega)]; exact J2n
  have h14 : (if Int32.ofNat c < Int32.ofNat cap then Int32.ofNat c else Int32.ofNat cap) = Int32.ofNat c := if_pos (by rw [zlt_iff, ec, ecap]; omega)
  have hcp : zcpB 0 0 (Int32.ofNat c) cap c = true := zcp_ok (dp := 0) (by omega) (by omega) (by omega) (by omega)
  have cr : fJ7_copyOfRangeByte_39247j b 0 (Int32.ofNat c) (n + 1) D J2 W = some (n + 1, (n + 1 + 1, D3), uA J3 (n + 1) (va_cpy (J3 b) (J3 (n + 1)) 0 0 c), W3) := by
    unfold fJ7_copyOfRangeByte_39247j fJ7_checkLength_df160j
    rw [if_pos (by rw [zle_iff, z0]; omega), zb_some, zsub0, if_pos (zib_ok (by omega) (by omega)), nc, zl_eq, zl_eq, zl_eq, hD3, hJ3, hW3, if_pos (zSh_B x3.1), if_pos (zKd_ok (by omega) (by omega) (by rw [D3b])), D3b, zsub0, h14, zl_eq, if_pos (zKd_ok (by omega) (by omega) (by rw [D3m])), D3m, if_pos hcp, nc, if_pos (zbf_ok fun i hi => by rw [show (0 : Int32).toNatClampNeg + i = i by rw [show (0 : Int32).toNatClampNeg = 0 from rfl]; omega, J3b]; exact hy i (by omega)), zl_eq]
    rfl
  have x4 : zXt n0 kd0 I0 R0 (n + 1 + 1) D3 (uA J3 (n + 1) (va_cpy (J3 b) (J3 (n + 1)) 0 0 c)) W3 := zXt_A x3 (by omega)
  refine ⟨n, n + 1 + 1, D3, uA J3 (n + 1) (va_cpy (J3 b) (J3 (n + 1)) 0 0 c), uR W3 n 0 (some (n + 1)), ?_, zXt_R x4 (by omega), ⟨s0', by omega, by omega, by rw [D3n]⟩, n + 1, uR_at, ⟨by omega, by omega, by omega, D3m⟩, ?_, fun k hk => ?_⟩
  · have cf : fJ7_copyOfRange_39247j b 0 (Int32.ofNat c) (n + 1) D J2 W = some (n + 1, (n + 1 + 1, D3), uA J3 (n + 1) (va_cpy (J3 b) (J3 (n + 1)) 0 0 c), W3) := by
      unfold fJ7_copyOfRange_39247j
      rw [if_pos rfl, if_pos k12, Db, if_neg (by rw [zeq_iff, ec, ecap]; omega), cr, zb_some]
      dsimp only
      rw [if_pos (zSh_B x3.1)]
    unfold fJ4_toString_0e30dj fJ0_init_81219j fJ0_init_db425j fJ5_getValue_6d5f1j fJ4_length_8abf5j fJ5_length_8abf5j fJ5_isLatin1_aae02j
    rw [zl_eq, zl_eq, zl_eq, hD, hJ, hW, if_pos (zSh_B x1.1)]
    simp only [k28, if_true, Ws, zm_some, zb_some, Js3, Js1, k29, zl_eq, hJ2]
    rw [if_pos (show zbB 1 = true by decide), zb_some, if_neg (by decide), cf, zb_some]
    dsimp only
    rw [if_pos (zSh_B x3.1), if_pos (zKd_ok (by omega) (by omega) (by rw [D3n])), zb_some]
    dsimp only
    rw [if_pos (zSh_B x3.1), zb_some]
    dsimp only
    rw [if_pos (zSh_B x3.1)]
  · rw [uA_ne (by omega)]
    exact J3n
  · rw [uA_at]
    unfold va_cpy
    rw [if_pos ⟨Nat.zero_le _, by omega⟩, Nat.zero_add, Nat.sub_zero, J3b]
    exact ht k hk
variable {t : Nat}
theorem b_len (hS : zSh n kd) {b : Nat} (ht : 114 ≤ t ∧ t < n ∧ (kd t).1 = 29) (r0 : R t 0 = some b) (hb : 114 ≤ b ∧ b < n ∧ kd b = (12, c)) (i1 : I t 1 = 0) : fJ0_length_8abf5D n kd I R t = some (Int32.ofNat c) := by
  unfold fJ0_length_8abf5D fJ0_coder_7d493D
  have k29 : zKdB n kd t 29 = true := zKd_ok (by omega) ht.2.1 ht.2.2
  rw [if_pos k29, r0, zm_some, if_pos (zKd_ok (by omega) hb.2.1 (by rw [hb.2.2])), if_pos k29, zb_some, i1, if_pos (by decide), zb_some, zsr0, hb.2.2]
theorem b_char (hS : zSh n kd) {b k v : Nat} (ht : 114 ≤ t ∧ t < n ∧ (kd t).1 = 29) (r0 : R t 0 = some b) (hb : 114 ≤ b ∧ b < n ∧ kd b = (12, c)) (i1 : I t 1 = 0) (hk : k < c) (hc : c < 1000) (hv : v < 128) (ik : I b k = Int32.ofNat v) : fJ0_charAt_5068eD n kd I R t (Int32.ofNat k) = some (Int32.ofNat v) := by
  unfold fJ0_charAt_5068eD fJ0_isLatin1_aae02D fJ1_charAt_3b067D
  have k29 : zKdB n kd t 29 = true := zKd_ok (by omega) ht.2.1 ht.2.2
  have ek := zofn_i (m := k) (by omega)
  have ec := zofn_i (m := c) (by omega)
  have ck : zckB (Int32.ofNat k) (Int32.ofNat c) = true := by
    unfold zckB
    simp only [Bool.and_eq_true, decide_eq_true_eq, zle_iff, zlt_iff, z0]
    omega
  rw [if_pos k29, if_pos k29, i1, if_pos rfl, zb_some, if_pos (by decide), zb_some, if_neg (by decide), r0, zm_some, if_pos (zKd_ok (by omega) hb.2.1 (by rw [hb.2.2])), hb.2.2, if_pos ck, if_pos (zib_ok (by omega) (by omega)), zofn_n (by omega), ik, (zBy_all v hv).2.2, zb_some, if_pos]
  unfold zchB
  have h1 : ∀ v, v < 128 → (Int32.ofNat v == ((Int32.ofNat v).toUInt32 % 65536).toInt32) = true := by decide +kernel
  exact h1 v hv
end
