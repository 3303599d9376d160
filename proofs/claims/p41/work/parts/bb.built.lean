/-! pure part: the object as the script wants it -/
section
variable {sl : Nat} {sf : Nat → Int32}
/-- the digits in the text -/
def sDg (sl : Nat) (sf : Nat → Int32) (s m : Int32) : Int32 := (sA sl sf 0 >>> (s &&& 31)) &&& m
theorem sDg_ok (s : Int32) {c : Nat} (hc : c < 2147483648) : sDg sl sf s (Int32.ofNat c) = Int32.ofNat (sDg sl sf s (Int32.ofNat c)).toInt.toNat ∧ (sDg sl sf s (Int32.ofNat c)).toInt.toNat < c + 1 := by
  have h := zand_ (a := sA sl sf 0 >>> (s &&& 31)) hc
  have e : sDg sl sf s (Int32.ofNat c) = (sA sl sf 0 >>> (s &&& 31)) &&& Int32.ofNat c := rfl
  rw [e]
  exact ⟨(zofn h.1).symm, by omega⟩
def sTa (sl : Nat) (sf : Nat → Int32) : Nat := (sDg sl sf 6 1).toInt.toNat
def sTb (sl : Nat) (sf : Nat → Int32) : Nat := (sDg sl sf 7 3).toInt.toNat
def sTc (sl : Nat) (sf : Nat → Int32) : Nat := (sDg sl sf 9 3).toInt.toNat
theorem sTa_ok : ((sA sl sf 0 >>> ((6 : Int32) &&& 31)) &&& (1 : Int32)) = Int32.ofNat (sTa sl sf) ∧ sTa sl sf < 2 := sDg_ok 6 (c := 1) (by decide)
theorem sTb_ok : ((sA sl sf 0 >>> ((7 : Int32) &&& 31)) &&& (3 : Int32)) = Int32.ofNat (sTb sl sf) ∧ sTb sl sf < 4 := sDg_ok 7 (c := 3) (by decide)
theorem sTc_ok : ((sA sl sf 0 >>> ((9 : Int32) &&& 31)) &&& (3 : Int32)) = Int32.ofNat (sTc sl sf) ∧ sTc sl sf < 4 := sDg_ok 9 (c := 3) (by decide)
/-- what the law in force says -/
def zTold (sl : Nat) (sf : Nat → Int32) (I : zMI) : Prop := if sPl sl sf = true then I 81 12 = 0 ∧ (I 88 0 = 100002 ∧ I 88 1 = 100001 ∧ I 88 2 = 100001) ∧ (I 89 0 = 0 ∧ I 89 1 = 1 ∧ I 89 2 = 2 ∧ I 89 3 = 3)
  else I 81 12 = 1 ∧ (∀ k, k < 19 → I 88 (200 + k) = (zTk (sTa sl sf) (sTb sl sf) (sTc sl sf)).getD k 0) ∧ (I 89 4 = 0 ∧ I 89 5 = 7 ∧ I 89 6 = 14 ∧ I 89 7 = 19)
/-- what the reference would hold: as the script says -/
def zDef (sl : Nat) (sf : Nat → Int32) (I : zMI) : Prop := (∀ h, h < 9 → I 82 h = sHigh sl sf h ∧ I 83 h = sStick sl sf h) ∧ I 81 2 = sWant sl sf ∧ zWs_ok sl sf I (sMany sl sf).toInt.toNat ∧ zTold sl sf I
/-- from the walkers to the end -/
theorem b_end (hL : sl ≤ 260) {n : Nat} {kd : zMK} {I : zMI} {R : zMR} (hC : zC zT0 n kd I R) (hh : ∀ h, h < 9 → I 82 h = sHigh sl sf h ∧ I 83 h = sStick sl sf h) (hw : I 81 2 = sWant sl sf) (hs : zWs_ok sl sf I (sMany sl sf).toInt.toNat) (h8 : I 81 8 = 0) (h11 : I 81 11 = 1) (h12 : I 81 12 = 0) (h88 : I 88 0 = 100002 ∧ I 88 1 = 100001 ∧ I 88 2 = 100001) (h89 : I 89 0 = 0 ∧ I 89 1 = 1 ∧ I 89 2 = 2 ∧ I 89 3 = 3) (h95 : ∀ j, j < 96 → I 95 j = zTw j) :
    ∃ n' kd' J R', fL_build_B93 sl sf n kd I R = some (32, (n', kd'), J, R') ∧ zC zT0 n' kd' J R' ∧ zDef sl sf J := by
  by_cases hp : sPl sl sf = true
  · refine ⟨n, kd, I, R, ?_, hC, hh, hw, hs, ?_⟩
    · unfold fL_build_B93
      rw [if_pos (zSh_B hC.1), s_plain hL, zb_some, if_pos hp, if_neg (by decide)]
    · unfold zTold
      rw [if_pos hp]
      exact ⟨h12, h88, h89⟩
  obtain ⟨A, hA⟩ : ∃ A, sTa sl sf = A := ⟨_, rfl⟩
  obtain ⟨B, hB⟩ : ∃ B, sTb sl sf = B := ⟨_, rfl⟩
  obtain ⟨C, hCc⟩ : ∃ C, sTc sl sf = C := ⟨_, rfl⟩
  have tA := sTa_ok (sl := sl) (sf := sf)
  have tB := sTb_ok (sl := sl) (sf := sf)
  have tC := sTc_ok (sl := sl) (sf := sf)
  rw [hA] at tA
  rw [hB] at tB
  rw [hCc] at tC
  obtain ⟨⟨x0, x1, x2, x3, x4, x5, x6⟩, x7⟩ := zTx_ok tA.2 tB.2 tC.2
  have hn := hC.1.1
  have at0 : fL_at sl sf 0 = some (sA sl sf 0) := s_at hL (k := 0) rfl (by decide)
  obtain ⟨n0, k0, I0, R0, a0, b0⟩ := b_sbInit (T := zTx A B C) (I := I) (R := R) hC.1
  obtain ⟨n1, k1, I1, R1, c1, a1, b1, e1⟩ := b_appS b0 (l := 0) (len := 13) (N := 34) (by decide) rfl (by decide) (by decide) x0 (fun j hj => zSb_by 0 (by decide) j hj)
  rw [if_pos (by decide)] at e1
  subst e1
  obtain ⟨n2, k2, I2, R2, c2, a2, b2, e2⟩ := b_appI b1 (v := A) (N := 34) (by omega) (by decide) (by decide) x1
  rw [if_pos (by decide)] at e2
  subst e2
  obtain ⟨n3, k3, I3, R3, c3, a3, b3, e3⟩ := b_appS b2 (l := 1) (len := 24) (N := 38) (by decide) rfl (by decide) (by decide) x2 (fun j hj => zSb_by 1 (by decide) j hj)
  rw [if_neg (by decide)] at e3
  subst e3
  obtain ⟨n4, k4, I4, R4, c4, a4, b4, e4⟩ := b_appI b3 (v := B) (N := 78) (by omega) (by decide) (by decide) x3
  rw [if_neg (by decide)] at e4
  subst e4
  obtain ⟨n5, k5, I5, R5, c5, a5, b5, e5⟩ := b_appS b4 (l := 2) (len := 22) (N := 158) (by decide) rfl (by decide) (by decide) x4 (fun j hj => zSb_by 2 (by decide) j hj)
  rw [if_pos (by decide)] at e5
  subst e5
  obtain ⟨n6, k6, I6, R6, c6, a6, b6, e6⟩ := b_appI b5 (v := C) (N := 158) (by omega) (by decide) (by decide) x5
  rw [if_pos (by decide)] at e6
  subst e6
  obtain ⟨n7, k7, I7, R7, c7, a7, b7, e7⟩ := b_appS b6 (l := 3) (len := 1) (N := 158) (by decide) rfl (by decide) (by decide) x6 (fun j hj => zSb_by 3 (by decide) j hj)
  rw [if_pos (by decide)] at e7
  subst e7
  obtain ⟨t, n8, k8, I8, R8, a8, b8⟩ := b_toString b7 (by decide)
  obtain ⟨hx, ⟨-, ht1, ht2, ht3⟩, bb, r0, ⟨hb1, hb2, hb3, hb4⟩, hi1, hib⟩ := b8
  have C8 : zC zT0 n8 k8 I8 R8 := zC_ext hC hx
  have i8 : ∀ b, b < n → I8 b = I b := fun b hb => (hx.2.2 b hb).2.1
  have e81 : I8 81 = I 81 := i8 81 (by omega)
  obtain ⟨J, f1, f2, f3, f4, f5, f6⟩ := b_feedL (sl := sl) (sf := sf) (T := zTx A B C) (c := 63) (t := t) (b := bb) ⟨by omega, ht2, ht3⟩ r0 ⟨by omega, hb2, hb4⟩ (by decide) (fun k hk => ⟨_, (x7 k hk).2, (x7 k hk).1⟩) (I0 := I8) hi1 hib 63 zF 0 I8 rfl (by unfold zF; omega) C8 (by rw [e81, h8]; rfl) (fun _ _ _ => rfl) (fun _ _ => rfl) (fun j hj => absurd hj (Nat.not_lt_zero j))
  have J81 : ∀ j, j ≠ 8 → J 81 j = I 81 j := fun j hj => by rw [f5 j hj, e81]
  have Jr : ∀ b, 81 < b → b < 114 → b ≠ 87 → J b = I b := fun b y1 y2 y3 => by rw [f4 b y1 y3, i8 b (by omega)]
  obtain ⟨p, p1, p2, p3, w, w1, w2, w3⟩ := zH4x f2
  have rb : zRb (zTx A B C) 63 1 p.2.2.1 := ⟨by
      rw [p3 81 (by decide) (by decide), zeq_iff, f3]
      rfl, fun k hk => by rw [p3 87 (by decide) (by decide), f6 k hk], fun j hj => by rw [p3 95 (by decide) (by decide), Jr 95 (by decide) (by decide) (by decide), h95 j hj], by
      rw [p3 81 (by decide) (by decide), J81 11 (by decide), h11]
      rfl⟩
  obtain ⟨K, v1, v2, v3, v4, v5, v6⟩ := b_tokens tA.2 tB.2 tC.2 rb
  rw [v1] at w1
  have hw1 := (Option.some.inj w1).symm
  have w1' : w.1 = 1 := by rw [hw1]
  have w2' : w.2 = K := by rw [hw1]
  have p1' : p.1 = 1 := by rw [w2, w1']
  rw [w2'] at w3
  have gK : zGE p.2.2.1 K := fun b hb => v6.1 b (by omega) (by omega) (by omega) (by omega)
  have Kr : ∀ b, 81 < b → b < 114 → b ≠ 87 → b ≠ 88 → b ≠ 89 → b ≠ 96 → K b = I b := fun b y1 y2 y3 y4 y5 y6 => by rw [v6.1 b (by omega) y4 y5 y6, p3 b (by omega) y2, Jr b y1 y2 y3]
  have K81 : ∀ j, j ≠ 8 → j ≠ 11 → j < 22 → K 81 j = I 81 j := fun j y1 y2 y3 => by rw [v6.2.1 j y1 y2 y3, p3 81 (by decide) (by decide), J81 j y1]
  -- in force
  obtain ⟨g, g1, u, u1, -, u3⟩ := zH5_ok zT0_q p.2.1.1 p.2.1.2 K p.2.2.2 1 w3
  have k326 : K 32 6 = 2 := by
    have := w3.2.1.2.2.1
    rw [this, v5]
  have g1' := g1
  unfold f11_force at g1'
  rw [if_neg (by decide), k326, if_pos (by decide), zl_eq] at g1'
  have hg : g.2 = uI K 32 7 1 := by rw [← Option.some.inj g1']
  have u1' := u1
  unfold f12_force at u1'
  have g81 : g.2 81 = K 81 := by rw [hg, uI_ne (by decide)]
  rw [g81, v5, g12_in, zb_some, zB, if_neg (by decide), zl_eq] at u1'
  have hu : u.2 = uI g.2 81 12 1 := by rw [← Option.some.inj u1']
  have gU : zGE g.2 u.2 := fun b hb => by rw [hu, uI_ne (by omega)]
  have Ur : ∀ b, 81 < b → u.2 b = K b := fun b y => by rw [hu, uI_ne (by omega), hg, uI_ne (by omega)]
  have U81 : ∀ j, j ≠ 12 → u.2 81 j = K 81 j := fun j y => by rw [hu, uI_off y, g81]
  refine ⟨p.2.1.1, p.2.1.2, u.2, p.2.2.2, ?_, u3, fun h hh' => ?_, ?_, ⟨?_, fun w' hw' => ?_⟩, ?_⟩
  · have z1' : zKdB n0 k0 n 28 = true := zKd_ok (by have := b0.2.1; omega) b0.2.1.2.2.1 b0.2.1.2.2.2
    have z2' : zKdB n1 k1 n 28 = true := zKd_ok (by have := b0.2.1; omega) b1.2.1.2.2.1 b1.2.1.2.2.2
    have z3' : zKdB n2 k2 n 28 = true := zKd_ok (by have := b0.2.1; omega) b2.2.1.2.2.1 b2.2.1.2.2.2
    have z4' : zKdB n3 k3 n 28 = true := zKd_ok (by have := b0.2.1; omega) b3.2.1.2.2.1 b3.2.1.2.2.2
    have z5' : zKdB n4 k4 n 28 = true := zKd_ok (by have := b0.2.1; omega) b4.2.1.2.2.1 b4.2.1.2.2.2
    have z6' : zKdB n5 k5 n 28 = true := zKd_ok (by have := b0.2.1; omega) b5.2.1.2.2.1 b5.2.1.2.2.2
    have z7' : zKdB n6 k6 n 28 = true := zKd_ok (by have := b0.2.1; omega) b6.2.1.2.2.1 b6.2.1.2.2.2
    have z8' : zKdB n7 k7 n 28 = true := zKd_ok (by have := b0.2.1; omega) b7.2.1.2.2.1 b7.2.1.2.2.2
    unfold fL_build_B93 fL_text
    rw [if_pos (zSh_B hC.1), s_plain hL, zb_some, if_neg hp, if_pos rfl, zl_eq, zl_eq, zl_eq, if_pos (zSh_B (zSh_new hC.1 _)), a0, zb_some]
    dsimp only
    rw [if_pos (zSh_B b0.1.1), if_pos z1', a1, zb_some]
    dsimp only
    rw [if_pos (zSh_B b1.1.1), at0, zb_some, if_pos z2', tA.1, a2, zb_some]
    dsimp only
    rw [if_pos (zSh_B b2.1.1), if_pos z3', a3, zb_some]
    dsimp only
    rw [if_pos (zSh_B b3.1.1), zb_some, if_pos z4', tB.1, a4, zb_some]
    dsimp only
    rw [if_pos (zSh_B b4.1.1), if_pos z5', a5, zb_some]
    dsimp only
    rw [if_pos (zSh_B b5.1.1), zb_some, if_pos z6', tC.1, a6, zb_some]
    dsimp only
    rw [if_pos (zSh_B b6.1.1), if_pos z7', a7, zb_some]
    dsimp only
    rw [if_pos (zSh_B b7.1.1), if_pos z8', a8, zb_some]
    dsimp only
    rw [if_pos (zSh_B hx.1), show (0 : Int32) = Int32.ofNat 0 from rfl, f1, zb_some, p1, zb_some, if_pos p2, v1, zb_some, zgp_i gK, p1', g1, zb_some, u1, zb_some, zgp_i gU]
  · rw [Ur 82 (by decide), Ur 83 (by decide), Kr 82 (by decide) (by decide) (by decide) (by decide) (by decide) (by decide), Kr 83 (by decide) (by decide) (by decide) (by decide) (by decide) (by decide)]
    exact hh h hh'
  · rw [U81 2 (by decide), K81 2 (by decide) (by decide) (by decide), hw]
  · rw [U81 3 (by decide), K81 3 (by decide) (by decide) (by decide)]
    exact hs.1
  · rw [Ur 84 (by decide), Ur 85 (by decide), Ur 86 (by decide), Kr 84 (by decide) (by decide) (by decide) (by decide) (by decide) (by decide), Kr 85 (by decide) (by decide) (by decide) (by decide) (by decide) (by decide), Kr 86 (by decide) (by decide) (by decide) (by decide) (by decide) (by decide)]
    exact hs.2 w' hw'
  · unfold zTold
    rw [if_neg hp, Ur 88 (by decide), Ur 89 (by decide), hA, hB, hCc]
    exact ⟨by rw [hu, uI_at], v2, v3⟩
theorem b_all (hL : sl ≤ 260) : ∃ n kd I R, fL_build sl sf 114 zB1k (zB1I zJ0) zB1R = some (32, (n, kd), I, R) ∧ zC zT0 n kd I R ∧ zDef sl sf I := by
  have hm := s_many (sf := sf) hL
  have hw := s_want (sf := sf) hL
  have C0 := zC_begin
  have hi : ∀ a, 81 ≤ a → zB1I zJ0 a = zJ0 a := fun a ha => by unfold zB1I; rw [if_neg (by omega)]
  obtain ⟨J, j1, j2, j3, j4⟩ := b_heapsL (sl := sl) (sf := sf) hL (k := fL_build_B46 sl sf) (I0 := zB1I zJ0) 9 zF 0 (zB1I zJ0) rfl (by unfold zF; omega) C0 (fun _ _ _ _ => rfl) (fun h hh => absurd hh (Nat.not_lt_zero h))
  obtain ⟨p, p1, q, q1, q2, q3, q4, q5, q6⟩ := b_set2 j2 (v := sWant sl sf) (by omega)
  have q81 : ∀ k, k ≠ 2 → q.2 81 k = zJ0 81 k := fun k hk => by rw [q5 k hk, j3 81 (by decide) (by decide) (by decide), hi 81 (by decide)]
  have qr : ∀ b, 83 < b → q.2 b = zJ0 b := fun b hb => by rw [q4 b (by omega), j3 b (by omega) (by omega) (by omega), hi b (by omega)]
  obtain ⟨n, kd, I, R, x1, x2, x3, x4, x5⟩ := b_walkersL (sl := sl) (sf := sf) hL (k := fL_build_B93 sl sf) (I0 := q.2) (sMany sl sf).toInt.toNat 5 0 114 zB1k q.2 zB1R (by omega) (by omega) q3 (fun _ _ _ _ _ _ => rfl) (fun _ _ => rfl) ⟨by rw [q81 3 (by decide)]; rfl, fun w hw => absurd hw (Nat.not_lt_zero w)⟩
  have I81 : ∀ j, j ≠ 3 → j ≠ 2 → I 81 j = zJ0 81 j := fun j h1 h2 => by rw [x4 j h1, q81 j h2]
  have Ir : ∀ b, 83 < b → b < 114 → b ≠ 84 → b ≠ 85 → b ≠ 86 → I b = zJ0 b := fun b y1 y2 y3 y4 y5 => by rw [x3 b (by omega) y2 y3 y4 y5, qr b y1]
  obtain ⟨n', kd', K, R', k1, k2, k3⟩ := b_end (sl := sl) (sf := sf) hL x2 (fun h hh => by
    rw [x3 82 (by decide) (by decide) (by decide) (by decide) (by decide), x3 83 (by decide) (by decide) (by decide) (by decide) (by decide), q4 82 (by decide), q4 83 (by decide)]
    exact j4 h hh) (by rw [x4 2 (by decide), q6]) x5 (by rw [I81 8 (by decide) (by decide)]; rfl) (by rw [I81 11 (by decide) (by decide)]; rfl) (by rw [I81 12 (by decide) (by decide)]; rfl) (by rw [Ir 88 (by decide) (by decide) (by decide) (by decide) (by decide)]; decide) (by rw [Ir 89 (by decide) (by decide) (by decide) (by decide) (by decide)]; decide) (fun j hj => by rw [Ir 95 (by decide) (by decide) (by decide) (by decide) (by decide)]; rfl)
  refine ⟨n', kd', K, R', ?_, k2, k3⟩
  unfold fL_build
  rw [show (0 : Int32) = Int32.ofNat 0 from rfl, j1]
  unfold fL_build_B46
  rw [if_pos (zSh_B j2.1), hw.1, zb_some, p1, zb_some, q1, zb_some, zgp_i q2, show (0 : Int32) = Int32.ofNat 0 from rfl, x1]
  exact k1
end
