/-! pure part: a text is put together -/
def zBy (x : Int32) : Prop := fits .byte (.int x) = true
theorem zBy_all : ∀ k, k < 128 → fits .byte (.int (Int32.ofNat k)) = true ∧ (Int32.ofNat k).toInt8.toInt32 = Int32.ofNat k ∧ (((Int32.ofNat k &&& (255 : Int32)).toUInt32 % 65536).toInt32) = Int32.ofNat k := by decide +kernel
theorem zbf_ok {f : Nat → Int32} {sp N : Nat} (h : ∀ i, i < N → zBy (f (sp + i))) : zbfB f sp N = true := List.all_eq_true.mpr fun i hi => h i (List.mem_range.mp hi)
/-- cells come, those that are there stay -/
def zXt (n : Nat) (kd : zMK) (I : zMI) (R : zMR) (n' : Nat) (kd' : zMK) (I' : zMI) (R' : zMR) : Prop := zSh n' kd' ∧ n ≤ n' ∧ ∀ a, a < n → kd' a = kd a ∧ I' a = I a ∧ R' a = R a
theorem zXt_rfl {n : Nat} {kd : zMK} {I : zMI} {R : zMR} (h : zSh n kd) : zXt n kd I R n kd I R := ⟨h, Nat.le_refl _, fun _ _ => ⟨rfl, rfl, rfl⟩⟩
theorem zC_ext {n n' : Nat} {kd kd' : zMK} {I J : zMI} {R R' : zMR} (hC : zC zT0 n kd I R) (hx : zXt n kd I R n' kd' J R') : zC zT0 n' kd' J R' := by
  obtain ⟨h1, h2, h3, h4, h5, h6, h7, hT⟩ := hC
  obtain ⟨hS, hn', hx⟩ := hx
  have hn := h1.1
  have eI : ∀ b, b < n → J b = I b := fun b hb => (hx b hb).2.1
  have eR : ∀ b, b < n → R' b = R b := fun b hb => (hx b hb).2.2
  have eK : ∀ b, b < n → kd' b = kd b := fun b hb => (hx b hb).1
  have e81 : J 81 = I 81 := eI 81 (by omega)
  refine ⟨hS, ?_, zCh_eq h3 (eI _ (by omega)) (eI _ (by omega)) (eI _ (by omega)) (eI _ (by omega)), zCt_eq h4 (by rw [e81]) (eI _ (by omega)) (eI _ (by omega)), zCs_eq h5 (fun a x y => eI _ (by omega)) (eI _ (by omega)) (eI _ (by omega)) (eI _ (by omega)), ?_, fun i hi => ?_, zT0_q n n' kd _ I J R R' h1 hn' eK (fun a ha _ _ => eI a ha) (fun h hh => by rw [eI _ (by omega)]) (by rw [e81]) (fun a ha _ => eR a ha) hT⟩
  · unfold zCn at h2 ⊢
    rw [eI 32 (by omega), eI 37 (by omega), e81]
    exact h2
  · unfold zCi at h6 ⊢
    rw [eI 32 (by omega), eI 64 (by omega), eI 65 (by omega), eI 66 (by omega), eI 90 (by omega), e81]
    exact h6
  · rw [e81] at hi
    obtain ⟨a, q1, q2, q3, q4⟩ := h7 i hi
    refine ⟨a, by rw [eR 35 (by omega)]; exact q1, q2, by omega, ?_⟩
    rw [eI a q3, eI 84 (by omega), eI 85 (by omega), eI 86 (by omega), eK a q3]
    exact q4
/-- the builder at s0 holds c letters of T, room for cap; nothing below n0 has changed -/
def zSB (T : Nat → Int32) (c cap s0 : Nat) (n0 : Nat) (kd0 : zMK) (I0 : zMI) (R0 : zMR) (n : Nat) (kd : zMK) (I : zMI) (R : zMR) : Prop := zXt n0 kd0 I0 R0 n kd I R ∧ (114 ≤ n0 ∧ n0 ≤ s0 ∧ s0 < n ∧ (kd s0).1 = 28) ∧ ∃ b, R s0 0 = some b ∧ (n0 ≤ b ∧ b < n ∧ b ≠ s0 ∧ kd b = (12, cap)) ∧ (c ≤ cap ∧ cap ≤ 160) ∧ (I s0 1 = 0 ∧ I s0 3 = Int32.ofNat c) ∧ (∀ k, k < c → I b k = T k) ∧ ∀ k, k < cap → zBy (I b k)
section
variable {T : Nat → Int32} {c cap s0 n0 : Nat} {kd0 : zMK} {I0 : zMI} {R0 : zMR} {n : Nat} {kd : zMK} {I : zMI} {R : zMR}
theorem zXt_new {v : Nat × Nat} {f : Nat → Int32} (h : zXt n0 kd0 I0 R0 n kd I R) : zXt n0 kd0 I0 R0 (n + 1) (uK kd n v) (uA I n f) (uRA R n) := ⟨zSh_new h.1 v, by have := h.2.1; omega, fun a ha => by
  have := h.2.1
  rw [uK_ne (by omega), uA_ne (by omega), uRA_ne (by omega)]
  exact h.2.2 a ha⟩
theorem zXt_I {b k : Nat} {x : Int32} (h : zXt n0 kd0 I0 R0 n kd I R) (hb : n0 ≤ b) : zXt n0 kd0 I0 R0 n kd (uI I b k x) R := ⟨h.1, h.2.1, fun a ha => by rw [uI_ne (by omega)]; exact h.2.2 a ha⟩
theorem zXt_A {b : Nat} {f : Nat → Int32} (h : zXt n0 kd0 I0 R0 n kd I R) (hb : n0 ≤ b) : zXt n0 kd0 I0 R0 n kd (uA I b f) R := ⟨h.1, h.2.1, fun a ha => by rw [uA_ne (by omega)]; exact h.2.2 a ha⟩
theorem zXt_R {b k : Nat} {x : Option Nat} (h : zXt n0 kd0 I0 R0 n kd I R) (hb : n0 ≤ b) : zXt n0 kd0 I0 R0 n kd I (uR R b k x) := ⟨h.1, h.2.1, fun a ha => by rw [uR_ne (by omega)]; exact h.2.2 a ha⟩
theorem zsr0 (x : Int32) : x >>> ((0 : Int32) &&& 31) = x := by
  rw [show ((0 : Int32) &&& 31) = 0 by decide]
  exact Int32.shiftRight_zero
theorem zsl0 (x : Int32) : x <<< ((0 : Int32) &&& 31) = x := by
  rw [show ((0 : Int32) &&& 31) = 0 by decide]
  exact Int32.shiftLeft_zero
theorem zofadd {a b : Nat} : Int32.ofNat a + Int32.ofNat b = Int32.ofNat (a + b) := (Int32.ofNat_add a b).symm
theorem zcp_ok {a : Nat} {N0 N1 : Nat} {dp : Nat} (ha : a < 1000000) (hd : dp < 1000000) (h0 : a ≤ N0) (h1 : dp + a ≤ N1) : zcpB 0 (Int32.ofNat dp) (Int32.ofNat a) N0 N1 = true := by
  have ea := zofn_i ha
  have ed := zofn_i hd
  unfold zcpB
  rw [zofn_n ha, zofn_n hd, show (0 : Int32).toNatClampNeg = 0 from rfl]
  simp only [Bool.and_eq_true, decide_eq_true_eq, zle_iff, z0]
  omega
/-- room for more -/
theorem b_ensure (h : zSB T c cap s0 n0 kd0 I0 R0 n kd I R) {m N : Nat} (hN : N = max m (2 * cap + 2)) (h160 : N ≤ 160) : ∃ n' kd' I' R' cap', fJ5_ensureCapacityInternal_d00dfj s0 (Int32.ofNat m) n kd I R = some ((n', kd'), I', R') ∧ zSB T c cap' s0 n0 kd0 I0 R0 n' kd' I' R' ∧ m ≤ cap' ∧ cap' = (if m ≤ cap then cap else N) := by
  obtain ⟨hx, ⟨s0', s1, s2, s3⟩, b, r0, ⟨b1, b2, b3, b4⟩, ⟨c1, c2⟩, ⟨i1, i3⟩, ht, hy⟩ := h
  have hS := hx.1
  have k28 : zKdB n kd s0 28 = true := zKd_ok (by omega) s2 s3
  have k12 : zKdB n kd b 12 = true := zKd_ok (by omega) b2 (by rw [b4])
  have em := zofn_i (m := m) (by omega)
  have ec := zofn_i (m := cap) (by omega)
  have es : (Int32.ofNat m - Int32.ofNat cap).toInt = (m : Int) - cap := by rw [zsub (by omega) (by omega), em, ec]
  unfold fJ5_ensureCapacityInternal_d00dfj
  rw [if_pos k28, r0, zm_some, if_pos k12, b4, i1, zsr0, zl_eq]
  by_cases q : m ≤ cap
  · rw [if_pos (by rw [zle_iff, z0, es]; omega)]
    exact ⟨n, kd, I, R, cap, rfl, ⟨hx, ⟨s0', s1, s2, s3⟩, b, r0, ⟨b1, b2, b3, b4⟩, ⟨c1, c2⟩, ⟨i1, i3⟩, ht, hy⟩, q, by rw [if_pos q]⟩
  · rw [if_neg (by rw [zle_iff, z0, es]; omega)]
    have e2 : (2 : Int32) = Int32.ofNat 2 := rfl
    have ec2 : (Int32.ofNat cap + (2 : Int32)) = Int32.ofNat (cap + 2) := zofadd
    have ex := zofn_i (m := cap + 2) (by omega)
    have eN := zofn_i (m := N) (by omega)
    have nN := zofn_n (m := N) (by omega)
    have z1' : (Int32.ofNat cap + (if (Int32.ofNat m - Int32.ofNat cap) < Int32.ofNat (cap + 2) then Int32.ofNat (cap + 2) else (Int32.ofNat m - Int32.ofNat cap))) = Int32.ofNat N := by
      by_cases z : (Int32.ofNat m - Int32.ofNat cap) < Int32.ofNat (cap + 2)
      · rw [if_pos z, zofadd]
        rw [zlt_iff, es, ex] at z
        rw [show cap + (cap + 2) = N by omega]
      · rw [if_neg z, zeq_iff, zadd (by rw [es]; omega) (by rw [es]; omega), es, ec, eN]
        rw [zlt_iff, es, ex] at z
        omega
    have nl : fJ8_newLength_cabccj (Int32.ofNat cap) (Int32.ofNat m - Int32.ofNat cap) (Int32.ofNat (cap + 2)) = some (Int32.ofNat N) := by
      unfold fJ8_newLength_cabccj
      rw [zl_eq, z1', if_neg (by rw [zle_iff, z0, eN]; omega), if_neg (by rw [zlt_iff, eN, show (2147483639 : Int32).toInt = 2147483639 from rfl]; omega)]
    have nc : fJ5_newCapacity_0f7a4j n kd I R s0 (Int32.ofNat m) = some (Int32.ofNat (N)) := by
      unfold fJ5_newCapacity_0f7a4j
      rw [if_pos k28, r0, zm_some, if_pos k12, b4, zl_eq, i1, zsl0, zl_eq, zsl0, ec2, nl, zb_some, if_neg (by rw [zeq_iff, eN, show (2147483647 : Int32).toInt = 2147483647 from rfl]; omega), zsr0]
    have hx2 := zXt_new (v := (12, N)) (f := fun _ => 0) hx
    have kb : uK kd n (12, N) b = (12, cap) := by rw [uK_ne (by omega), b4]
    have kn : uK kd n (12, N) n = (12, N) := uK_at
    have h14 : (if Int32.ofNat (N) < Int32.ofNat cap then Int32.ofNat (N) else Int32.ofNat cap) = Int32.ofNat cap := if_neg (by rw [zlt_iff, eN, ec]; omega)
    have hcp : zcpB 0 0 (Int32.ofNat cap) cap (N) = true := zcp_ok (dp := 0) (by omega) (by omega) (Nat.le_refl _) (by omega)
    have cp : fJ7_copyOf_9075bj b (Int32.ofNat (N)) n kd I R = some (n, (n + 1, uK kd n (12, N)), uA (uA I n (fun _ => 0)) n (va_cpy (I b) (fun _ => 0) 0 0 cap), uRA R n) := by
      unfold fJ7_copyOf_9075bj
      rw [if_pos k12, b4, if_neg (by rw [zeq_iff, eN, ec]; omega), if_pos (zib_ok (by omega) (by omega)), zl_eq, zl_eq, zl_eq, nN, if_pos (zSh_B hx2.1), if_pos (zKd_ok (by omega) (by omega) (by rw [kb])), kb, h14, zl_eq, if_pos (zKd_ok (by omega) (by omega) (by rw [kn])), kn, if_pos hcp, uA_ne (by omega), zofn_n (by omega), if_pos (zbf_ok fun i hi => by rw [show (0 : Int32).toNatClampNeg + i = i by rw [show (0 : Int32).toNatClampNeg = 0 from rfl]; omega]; exact hy i hi), zl_eq, uA_at]
      rfl
    rw [nc, zb_some, zsl0, cp, zb_some]
    dsimp only
    rw [if_pos (zSh_B hx2.1), if_pos (zKd_ok (by omega) (by omega) (by rw [uK_ne (by omega)]; exact s3)), zl_eq]
    have cy : ∀ k, va_cpy (I b) (fun _ => (0 : Int32)) 0 0 cap k = if k < cap then I b k else 0 := fun k => by
      unfold va_cpy
      by_cases z : k < cap
      · rw [if_pos z, if_pos ⟨Nat.zero_le _, by omega⟩, Nat.zero_add, Nat.sub_zero]
      · rw [if_neg z, if_neg (by omega)]
    refine ⟨_, _, _, _, N, rfl, ⟨zXt_R (zXt_A hx2 (by omega)) s1, ⟨s0', s1, by omega, by rw [uK_ne (by omega)]; exact s3⟩, n, by rw [uR_at], ⟨by omega, by omega, by omega, kn⟩, ⟨by omega, h160⟩, ?_, fun k hk => ?_, fun k hk => ?_⟩, by omega, by rw [if_neg q]⟩
    · rw [uA_ne (by omega), uA_ne (by omega)]
      exact ⟨i1, i3⟩
    · rw [uA_at, cy, if_pos (by omega)]
      exact ht k hk
    · rw [uA_at, cy]
      by_cases z : k < cap
      · rw [if_pos z]
        exact hy k z
      · rw [if_neg z]
        exact (zBy_all 0 (by decide)).1
end
