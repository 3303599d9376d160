/-! pure part: the class makes a law of what it read -/
theorem uA_at {I : zMI} {a : Nat} {f : Nat → Int32} : uA I a f a = f := if_pos rfl
theorem uK_at {kd : zMK} {a : Nat} {v : Nat × Nat} : uK kd a v a = v := if_pos rfl
theorem uK_ne {kd : zMK} {a b : Nat} {v : Nat × Nat} (h : b ≠ a) : uK kd a v b = kd b := if_neg h
theorem uRA_ne {R : zMR} {a b : Nat} (h : b ≠ a) : uRA R a b = R b := if_neg h
/-- what a part says that is but a number -/
def zln (f g : Nat → Int32) (p : Nat) : Int32 := if (f (p + 1)).toInt = (f p).toInt + 1 ∧ 0 ≤ (g (f p).toInt.toNat).toInt then zBd p (g (f p).toInt.toNat) else -1
theorem g3_loneL {l0 l1 l2 a n : Nat} {kd : zMK} {R : zMR} {f g : Nat → Int32} (hS : zSh n kd) (h0 : zKdB n kd l0 19 = true) (h4 : R l0 4 = some a) (ha : zKdB n kd a 0 = true) (ha3 : (kd a).2 = 3) (h2 : zKdB n kd l2 0 = true) (h24 : (kd l2).2 = 4) (h1 : zKdB n kd l1 0 = true) (h1n : (kd l1).2 ≤ 160) (n1 : l1 ≠ a) (n2 : l2 ≠ a) (hs : ∀ p, p < 3 → 0 ≤ (f p).toInt ∧ (f p).toInt < (f (p + 1)).toInt ∧ (f (p + 1)).toInt ≤ (kd l1).2) : ∀ (d q i : Nat) (I : zMI), i + d = 3 → d < q → (∀ p, p < 4 → I l2 p = f p) → (∀ j, j < (kd l1).2 → I l1 j = g j) →
    ∃ I', f3_init_L51 q l0 l1 l2 (Int32.ofNat i) n kd I R = some ((n, kd), I', R) ∧ (∀ b, b ≠ a → I' b = I b) ∧ (∀ p, p < i → I' a p = I a p) ∧ ∀ p, i ≤ p → p < 3 → I' a p = zln f g p := by
  intro d
  induction d with
  | zero =>
    intro q i I hi hq hf hg
    obtain ⟨q, rfl⟩ : ∃ x, q = x + 1 := ⟨q - 1, by omega⟩
    have ei := zofn_i (m := i) (by omega)
    refine ⟨I, ?_, fun _ _ => rfl, fun _ _ => rfl, fun p h1 h2 => by omega⟩
    rw [f3_init_L51]
    rw [if_pos (zSh_B hS), if_pos (by rw [zle_iff, zn3i]; omega)]
  | succ d ih =>
    intro q i I hi hq hf hg
    obtain ⟨q, rfl⟩ : ∃ x, q = x + 1 := ⟨q - 1, by omega⟩
    have ei := zofn_i (m := i) (by omega)
    have ni : (Int32.ofNat i).toNatClampNeg = i := zofn_n (by omega)
    have es : Int32.ofNat i + 1 = Int32.ofNat (i + 1) := zofs (by omega)
    have ei1 := zofn_i (m := i + 1) (by omega)
    have ni1 : (Int32.ofNat (i + 1)).toNatClampNeg = i + 1 := zofn_n (by omega)
    have e4 : (Int32.ofNat 4).toInt = 4 := rfl
    obtain ⟨s1, s2, s3⟩ := hs i (by omega)
    have elen := zofn_i (m := (kd l1).2) (by omega)
    obtain ⟨J, hJ⟩ : ∃ J, uI I a i (-1) = J := ⟨_, rfl⟩
    have Jn : ∀ b, b ≠ a → J b = I b := fun b hb => by rw [← hJ, uI_ne hb]
    have Jo : ∀ p, p ≠ i → J a p = I a p := fun p hp => by rw [← hJ, uI_off hp]
    have Ja : J a i = -1 := by rw [← hJ, uI_at]
    -- on, with what stands there
    have go : ∀ M : zMI, (∀ b, b ≠ a → M b = I b) → (∀ p, p ≠ i → M a p = I a p) → M a i = zln f g i → f3_init_L51 (q + 1) l0 l1 l2 (Int32.ofNat i) n kd I R = f3_init_B126 (f3_init_L51 q) l0 l1 l2 (Int32.ofNat i) n kd M R → ∃ I', f3_init_L51 (q + 1) l0 l1 l2 (Int32.ofNat i) n kd I R = some ((n, kd), I', R) ∧ (∀ b, b ≠ a → I' b = I b) ∧ (∀ p, p < i → I' a p = I a p) ∧ ∀ p, i ≤ p → p < 3 → I' a p = zln f g p := fun M m1 m2 m3 e => by
      obtain ⟨I', u1, u2, u3, u4⟩ := ih q (i + 1) M (by omega) (by omega) (fun p hp => by rw [m1 l2 n2]; exact hf p hp) (fun j hj => by rw [m1 l1 n1]; exact hg j hj)
      refine ⟨I', ?_, fun b hb => by rw [u2 b hb, m1 b hb], fun p hp => by rw [u3 p (by omega), m2 p (by omega)], fun p h1 h2 => ?_⟩
      · rw [e]
        unfold f3_init_B126
        rw [if_pos (zSh_B hS), es]
        exact u1
      · by_cases y : p = i
        · rw [y, u3 i (by omega), m3]
        · exact u4 p (by omega) h2
    have F : f3_init_L51 (q + 1) l0 l1 l2 (Int32.ofNat i) n kd I R = if f (i + 1) = f i + 1 then (if (g (f i).toInt.toNat) < (0 : Int32) then f3_init_B124 (f3_init_L51 q) l0 l1 l2 (Int32.ofNat i) a (Int32.ofNat i) n kd J R else f3_init_B125 (f3_init_L51 q) l0 l1 l2 (Int32.ofNat i) a (Int32.ofNat i) (zBd i (g (f i).toInt.toNat)) n kd J R) else f3_init_B126 (f3_init_L51 q) l0 l1 l2 (Int32.ofNat i) n kd J R := by
      have nx : (f i).toNatClampNeg = (f i).toInt.toNat := zcl_iff _
      rw [f3_init_L51]
      rw [if_pos (zSh_B hS), if_neg (by rw [zle_iff, zn3i]; omega), if_pos h0, h4, zm_some, if_pos ha, ha3, if_pos (zib_ok (by omega) (by omega)), zl_eq, ni, hJ, if_pos h2, h24, es, if_neg (by rw [zle_iff]; omega), if_pos (zib_ok (by omega) (by omega)), if_pos (zib_ok (by omega) (by omega)), ni1, Jn l2 n2, hf _ (by omega), hf _ (by omega)]
      by_cases c : f (i + 1) = f i + 1
      · rw [if_pos c, if_pos c, zl_eq, zm_some, if_neg (by rw [zlt_iff, z0]; omega), if_pos h1, if_neg (by rw [zle_iff]; omega), if_pos (zib_ok (by omega) (by omega)), nx, Jn l1 n1, hg _ (by omega)]
        by_cases c2 : g (f i).toInt.toNat < 0
        · rw [if_pos c2, if_pos c2]
        · rw [if_neg c2, if_neg c2, g3_bounded _ _ (by omega), zb_some, ni]
      · rw [if_neg c, if_neg c]
    have hr := zrange (f (i + 1))
    have c1 : f (i + 1) = f i + 1 ↔ (f (i + 1)).toInt = (f i).toInt + 1 := by rw [zeq_iff, zadd (by rw [z1]; omega) (by rw [z1]; omega), z1]
    by_cases c : f (i + 1) = f i + 1
    · rw [if_pos c] at F
      by_cases c2 : g (f i).toInt.toNat < 0
      · rw [if_pos c2] at F
        refine go (uI J a i (-1)) (fun b hb => by rw [uI_ne hb, Jn b hb]) (fun p hp => by rw [uI_off hp, Jo p hp]) ?_ ?_
        · unfold zln
          rw [uI_at, if_neg (fun y => by rw [zlt_iff, z0] at c2; omega)]
        · rw [F]
          unfold f3_init_B124 f3_init_B125
          rw [if_pos (zSh_B hS), if_pos (zSh_B hS), if_pos ha, ha3, if_pos (zib_ok (by omega) (by omega)), zl_eq, ni]
      · rw [if_neg c2] at F
        refine go (uI J a i (zBd i (g (f i).toInt.toNat))) (fun b hb => by rw [uI_ne hb, Jn b hb]) (fun p hp => by rw [uI_off hp, Jo p hp]) ?_ ?_
        · unfold zln
          rw [uI_at, if_pos ⟨c1.mp c, by rw [zlt_iff, z0] at c2; omega⟩]
        · rw [F]
          unfold f3_init_B125
          rw [if_pos (zSh_B hS), if_pos ha, ha3, if_pos (zib_ok (by omega) (by omega)), zl_eq, ni]
    · rw [if_neg c] at F
      refine go J Jn Jo ?_ F
      unfold zln
      rw [Ja, if_neg (fun y => c (c1.mpr y.1))]
/-- the five rows of a law -/
theorem g3_init {l0 l1 n : Nat} {kd : zMK} {I : zMI} {R : zMR} {f g : Nat → Int32} (hS : zSh n kd) (h0 : 114 ≤ l0 ∧ l0 < n ∧ (kd l0).1 = 19) (h1 : 114 ≤ l1 ∧ l1 < n ∧ (kd l1).1 = 0 ∧ (kd l1).2 ≤ 160) (hs : ∀ p, p < 3 → 0 ≤ (f p).toInt ∧ (f p).toInt < (f (p + 1)).toInt ∧ (f (p + 1)).toInt ≤ (kd l1).2) (hf : ∀ p, p < 4 → I 40 p = f p) (hg : ∀ j, j < (kd l1).2 → I l1 j = g j) :
    ∃ kd' I' R', f3_init l0 l1 40 n kd I R = some ((n + 5, kd'), I', R') ∧ zSh (n + 5) kd' ∧ (∀ a, a < n → kd' a = kd a) ∧ kd' n = (0, 40) ∧ kd' (n + 1) = (0, 6) ∧ kd' (n + 2) = (0, 3) ∧ kd' (n + 3) = (0, (kd l1).2) ∧ kd' (n + 4) = (0, 4) ∧ (∀ b, b < n → I' b = I b) ∧ I' (n + 3) = I l1 ∧ I' (n + 4) = I 40 ∧ (∀ p, p < 3 → I' (n + 2) p = zln f g p) ∧ (R' l0 2 = some n ∧ R' l0 3 = some (n + 1) ∧ R' l0 4 = some (n + 2) ∧ R' l0 0 = some (n + 3) ∧ R' l0 1 = some (n + 4)) ∧ ∀ a, a < n → a ≠ l0 → R' a = R a := by
  have hn := hS.1
  have k40 : kd 40 = (0, 4) := hS.2 40 (by decide) (by decide)
  obtain ⟨D1, hD1⟩ : ∃ D, uK kd n (0, 40) = D := ⟨_, rfl⟩
  obtain ⟨D2, hD2⟩ : ∃ D, uK D1 (n + 1) (0, 6) = D := ⟨_, rfl⟩
  obtain ⟨D3, hD3⟩ : ∃ D, uK D2 (n + 1 + 1) (0, 3) = D := ⟨_, rfl⟩
  have e3 : ∀ a, a < n → D3 a = kd a := fun a h => by rw [← hD3, uK_ne (by omega), ← hD2, uK_ne (by omega), ← hD1, uK_ne (by omega)]
  have e1 : ∀ a, a < n → D1 a = kd a := fun a h => by rw [← hD1, uK_ne (by omega)]
  have e2 : ∀ a, a < n → D2 a = kd a := fun a h => by rw [← hD2, uK_ne (by omega), e1 a h]
  obtain ⟨D4, hD4⟩ : ∃ D, uK D3 (n + 1 + 1 + 1) (0, (kd l1).2) = D := ⟨_, rfl⟩
  have e4 : ∀ a, a < n → D4 a = kd a := fun a h => by rw [← hD4, uK_ne (by omega), e3 a h]
  obtain ⟨D5, hD5⟩ : ∃ D, uK D4 (n + 1 + 1 + 1 + 1) (0, 4) = D := ⟨_, rfl⟩
  have e5 : ∀ a, a < n → D5 a = kd a := fun a h => by rw [← hD5, uK_ne (by omega), e4 a h]
  have S1 : zSh (n + 1) D1 := by rw [← hD1]; exact zSh_new hS _
  have S2 : zSh (n + 1 + 1) D2 := by rw [← hD2]; exact zSh_new S1 _
  have S3 : zSh (n + 1 + 1 + 1) D3 := by rw [← hD3]; exact zSh_new S2 _
  have S4 : zSh (n + 1 + 1 + 1 + 1) D4 := by rw [← hD4]; exact zSh_new S3 _
  have S5 : zSh (n + 1 + 1 + 1 + 1 + 1) D5 := by rw [← hD5]; exact zSh_new S4 _
  have K1 : zKdB (n + 1) D1 l0 19 = true := zKd_ok (by omega) (by omega) (by rw [e1 l0 h0.2.1]; exact h0.2.2)
  have K2 : zKdB (n + 1 + 1) D2 l0 19 = true := zKd_ok (by omega) (by omega) (by rw [e2 l0 h0.2.1]; exact h0.2.2)
  have K3 : zKdB (n + 1 + 1 + 1) D3 l0 19 = true := zKd_ok (by omega) (by omega) (by rw [e3 l0 h0.2.1]; exact h0.2.2)
  have K4 : zKdB (n + 1 + 1 + 1 + 1) D4 l0 19 = true := zKd_ok (by omega) (by omega) (by rw [e4 l0 h0.2.1]; exact h0.2.2)
  have K5 : zKdB (n + 1 + 1 + 1 + 1 + 1) D5 l0 19 = true := zKd_ok (by omega) (by omega) (by rw [e5 l0 h0.2.1]; exact h0.2.2)
  have L3 : zKdB (n + 1 + 1 + 1) D3 l1 0 = true := zKd_ok (by omega) (by omega) (by rw [e3 l1 h1.2.1]; exact h1.2.2.1)
  have L3n : (D3 l1).2 = (kd l1).2 := by rw [e3 l1 h1.2.1]
  have M4 : zKdB (n + 1 + 1 + 1 + 1) D4 (n + 1 + 1 + 1) 0 = true := zKd_ok (by omega) (by omega) (by rw [← hD4, uK_at])
  have L4 : zKdB (n + 1 + 1 + 1 + 1) D4 40 0 = true := zKd_ok (by omega) (by omega) (by rw [e4 40 (by omega), k40])
  have L4n : (D4 40).2 = 4 := by rw [e4 40 (by omega), k40]
  have M5 : zKdB (n + 1 + 1 + 1 + 1 + 1) D5 (n + 1 + 1 + 1 + 1) 0 = true := zKd_ok (by omega) (by omega) (by rw [← hD5, uK_at])
  -- rows
  obtain ⟨I3, hI3⟩ : ∃ J, uA (uA (uA I n (fun _ => 0)) (n + 1) (fun _ => 0)) (n + 1 + 1) (fun _ => 0) = J := ⟨_, rfl⟩
  have i3 : ∀ a, a < n → I3 a = I a := fun a h => by rw [← hI3, uA_ne (by omega), uA_ne (by omega), uA_ne (by omega)]
  obtain ⟨I5, hI5⟩ : ∃ J, uA (uA I3 (n + 1 + 1 + 1) (I l1)) (n + 1 + 1 + 1 + 1) (I 40) = J := ⟨_, rfl⟩
  have i5 : ∀ a, a < n → I5 a = I a := fun a h => by rw [← hI5, uA_ne (by omega), uA_ne (by omega), i3 a h]
  have i4a : uA I3 (n + 1 + 1 + 1) (I l1) 40 = I 40 := by rw [uA_ne (by omega), i3 40 (by omega)]
  -- references
  obtain ⟨T1, hT1⟩ : ∃ T, uR (uRA R n) l0 2 (some n) = T := ⟨_, rfl⟩
  obtain ⟨T2, hT2⟩ : ∃ T, uR (uRA T1 (n + 1)) l0 3 (some (n + 1)) = T := ⟨_, rfl⟩
  obtain ⟨T3, hT3⟩ : ∃ T, uR (uRA T2 (n + 1 + 1)) l0 4 (some (n + 1 + 1)) = T := ⟨_, rfl⟩
  obtain ⟨T4, hT4⟩ : ∃ T, uR (uRA T3 (n + 1 + 1 + 1)) l0 0 (some (n + 1 + 1 + 1)) = T := ⟨_, rfl⟩
  obtain ⟨T5, hT5⟩ : ∃ T, uR (uRA T4 (n + 1 + 1 + 1 + 1)) l0 1 (some (n + 1 + 1 + 1 + 1)) = T := ⟨_, rfl⟩
  have t2 : T5 l0 2 = some n := by rw [← hT5, uR_off (by decide), uRA_ne (by omega), ← hT4, uR_off (by decide), uRA_ne (by omega), ← hT3, uR_off (by decide), uRA_ne (by omega), ← hT2, uR_off (by decide), uRA_ne (by omega), ← hT1, uR_at]
  have t3 : T5 l0 3 = some (n + 1) := by rw [← hT5, uR_off (by decide), uRA_ne (by omega), ← hT4, uR_off (by decide), uRA_ne (by omega), ← hT3, uR_off (by decide), uRA_ne (by omega), ← hT2, uR_at]
  have t4 : T5 l0 4 = some (n + 1 + 1) := by rw [← hT5, uR_off (by decide), uRA_ne (by omega), ← hT4, uR_off (by decide), uRA_ne (by omega), ← hT3, uR_at]
  have t0 : T5 l0 0 = some (n + 1 + 1 + 1) := by rw [← hT5, uR_off (by decide), uRA_ne (by omega), ← hT4, uR_at]
  have t1 : T5 l0 1 = some (n + 1 + 1 + 1 + 1) := by rw [← hT5, uR_at]
  have to : ∀ a, a < n → a ≠ l0 → T5 a = R a := fun a h h' => by rw [← hT5, uR_ne h', uRA_ne (by omega), ← hT4, uR_ne h', uRA_ne (by omega), ← hT3, uR_ne h', uRA_ne (by omega), ← hT2, uR_ne h', uRA_ne (by omega), ← hT1, uR_ne h', uRA_ne (by omega)]
  have d2 : D5 (n + 1 + 1) = (0, 3) := by rw [← hD5, uK_ne (by omega), ← hD4, uK_ne (by omega), ← hD3, uK_at]
  obtain ⟨I', u1, u2, u3, u4⟩ := g3_loneL (l0 := l0) (l1 := l1) (l2 := 40) (a := n + 1 + 1) (f := f) (g := g) S5 K5 t4 (zKd_ok (by omega) (by omega) (by rw [d2])) (by rw [d2]) (zKd_ok (by omega) (by omega) (by rw [e5 40 (by omega), k40])) (by rw [e5 40 (by omega), k40]) (zKd_ok (by omega) (by omega) (by rw [e5 l1 h1.2.1]; exact h1.2.2.1)) (by rw [e5 l1 h1.2.1]; exact h1.2.2.2) (by omega) (by omega) (by rw [e5 l1 h1.2.1]; exact hs) 3 zF 0 I5 rfl (by unfold zF; omega) (fun p hp => by rw [i5 40 (by omega)]; exact hf p hp) (fun j hj => by rw [e5 l1 h1.2.1] at hj; rw [i5 l1 h1.2.1]; exact hg j hj)
  refine ⟨D5, I', T5, ?_, S5, e5, ?_, ?_, d2, ?_, ?_, fun b hb => by rw [u2 b (by omega), i5 b hb], ?_, ?_, fun p hp => u4 p (Nat.zero_le _) hp, ⟨t2, t3, t4, t0, t1⟩, to⟩
  · unfold f3_init
    rw [zl_eq, zl_eq, zl_eq, hD1, if_pos (zSh_B S1), if_pos K1, zl_eq, hT1, zl_eq, hD2, zl_eq, zl_eq, if_pos (zSh_B S2), if_pos K2, zl_eq, hT2, zl_eq, hD3, zl_eq, zl_eq, if_pos (zSh_B S3), if_pos K3, zl_eq, hT3, if_pos L3, L3n, if_pos (decide_eq_true h1.2.2.2), zl_eq, hD4, hI3, zl_eq, i3 l1 h1.2.1, zl_eq, if_pos (zSh_B S4), if_pos M4, if_pos K4, zl_eq, hT4, if_pos L4, L4n, if_pos (by decide), zl_eq, hD5, zl_eq, i4a, hI5, zl_eq, if_pos (zSh_B S5), if_pos M5, if_pos K5, zl_eq, hT5]
    exact u1
  · rw [← hD5, uK_ne (by omega), ← hD4, uK_ne (by omega), ← hD3, uK_ne (by omega), ← hD2, uK_ne (by omega), ← hD1, uK_at]
  · rw [← hD5, uK_ne (by omega), ← hD4, uK_ne (by omega), ← hD3, uK_ne (by omega), ← hD2, uK_at]
  · rw [show n + 3 = n + 1 + 1 + 1 from rfl, ← hD5, uK_ne (by omega), ← hD4, uK_at]
  · rw [show n + 4 = n + 1 + 1 + 1 + 1 from rfl, ← hD5, uK_at]
  · rw [show n + 3 = n + 1 + 1 + 1 from rfl, u2 _ (by omega), ← hI5, uA_ne (by omega), uA_at]
  · rw [show n + 4 = n + 1 + 1 + 1 + 1 from rfl, u2 _ (by omega), ← hI5, uA_at]
/-- words copied -/
theorem gJ7_copyOf {n c : Nat} {kd : zMK} {I : zMI} {R : zMR} (hS : zSh n kd) (hc : c ≤ 160) : ∃ I', fJ7_copyOf_59c91 39 (Int32.ofNat c) n kd I R = some (n, (n + 1, uK kd n (0, c)), I', uRA R n) ∧ (∀ b, b ≠ n → I' b = I b) ∧ ∀ j, j < c → I' n j = I 39 j := by
  have hn := hS.1
  have k39 : kd 39 = (0, 160) := hS.2 39 (by decide) (by decide)
  have ec := zofn_i (m := c) (by omega)
  have K39 : zKdB n kd 39 0 = true := zKd_ok (by omega) (by omega) (by rw [k39])
  unfold fJ7_copyOf_59c91
  rw [if_pos K39, k39]
  by_cases c160 : c = 160
  · rw [if_pos (by rw [c160]), if_pos (by decide), zl_eq, zl_eq, zl_eq, if_pos (zSh_B (zSh_new hS _)), if_pos (zKd_ok (by omega) (by omega) (by rw [uK_at])), c160]
    exact ⟨_, rfl, fun b hb => uA_ne hb, fun j _ => by rw [uA_at]⟩
  · have k39' : uK kd n (0, c) 39 = (0, 160) := by rw [uK_ne (by omega), k39]
    have e160 : (Int32.ofNat 160).toInt = 160 := rfl
    rw [if_neg (by rw [zeq_iff, ec, e160]; omega), if_pos (zib_ok (by omega) (by omega)), zofn_n (by omega), zl_eq, zl_eq, zl_eq, if_pos (zSh_B (zSh_new hS _)), if_pos (zKd_ok (by omega) (by omega) (by rw [k39'])), k39']
    have hx : (if Int32.ofNat c < Int32.ofNat 160 then Int32.ofNat c else Int32.ofNat 160) = Int32.ofNat c := if_pos (by rw [zlt_iff, ec, e160]; omega)
    have cp : zcpB 0 0 (Int32.ofNat c) 160 (uK kd n (0, c) n).2 = true := by
      unfold zcpB
      rw [uK_at, zofn_n (by omega)]
      simp [zle_iff, ec]
      omega
    rw [hx, zl_eq, if_pos (zKd_ok (by omega) (by omega) (by rw [uK_at])), if_pos cp, zl_eq, zofn_n (by omega)]
    refine ⟨_, rfl, fun b hb => by rw [uA_ne hb, uA_ne hb], fun j hj => ?_⟩
    rw [uA_at]
    unfold va_cpy
    rw [if_pos ⟨by show 0 ≤ j; omega, by show j < 0 + c; omega⟩, uA_ne (by omega)]
    show I 39 (0 + (j - 0)) = I 39 j
    rw [Nat.zero_add, Nat.sub_zero]
