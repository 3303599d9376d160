/-! pure part: the class reads: where it stands, and in vain -/
def zFC (I I' : zMI) : Prop := (∀ b, b ≠ 37 → b ≠ 39 → I' b = I b) ∧ ∀ j, j ≠ 2 → j ≠ 3 → j ≠ 4 → j ≠ 5 → j ≠ 6 → j ≠ 8 → I' 37 j = I 37 j
theorem zFC_rfl {I : zMI} : zFC I I := ⟨fun _ _ _ => rfl, fun _ _ _ _ _ _ _ => rfl⟩
theorem zFC_tr {I I' I'' : zMI} (h : zFC I I') (h' : zFC I' I'') : zFC I I'' := ⟨fun b x y => by rw [h'.1 b x y, h.1 b x y], fun j x1 x2 x3 x4 x5 x6 => by rw [h'.2 j x1 x2 x3 x4 x5 x6, h.2 j x1 x2 x3 x4 x5 x6]⟩
/-- the token at p is at hand, W are the words (the last first), no fault -/
def zCS (T : Nat → Int32) (z : Nat) (I : zMI) (p : Nat) (W : List Int32) : Prop := I 37 1 = Int32.ofNat z ∧ (∀ k, k < z → I 38 k = T k) ∧ I 37 2 = Int32.ofNat (zKe T z p) ∧ I 37 3 = zKk T z p ∧ I 37 4 = Int32.ofNat (zKb T z p) ∧ (zKk T z p = 2 ∨ zKk T z p = 3 → I 37 5 = zKw T z p) ∧ I 37 6 = -1 ∧ I 37 8 = Int32.ofNat W.length ∧ zhs (I 39) 0 W ∧ p ≤ z ∧ z ≤ 160 ∧ ∀ k, k < z → 0 ≤ (T k).toInt
/-- behind a fault at b -/
def zVS (T : Nat → Int32) (z b : Nat) (I : zMI) : Prop := I 37 1 = Int32.ofNat z ∧ (∀ k, k < z → I 38 k = T k) ∧ (∃ p, p ≤ z ∧ I 37 2 = Int32.ofNat p) ∧ I 37 6 = Int32.ofNat b ∧ b ≤ z ∧ z ≤ 160 ∧ ∀ k, k < z → 0 ≤ (T k).toInt
def zVF (T : Nat → Int32) (z b : Nat) (f : zMI → Option zMI) : Prop := ∀ I, zVS T z b I → ∃ I', f I = some I' ∧ zVS T z b I' ∧ zFC I I'
/-- words' stack -/
def zds : List Int32 → Nat → Option Nat
  | [], d => some d
  | x :: N, d => (zds N d).bind fun d' => if zne x ≤ d' ∧ d' < 40 then some (d' - zne x + 1) else none
theorem zds_app : ∀ (M N : List Int32) (d : Nat), zds (M ++ N) d = (zds N d).bind (zds M) := by
  intro M
  induction M with
  | nil =>
    intro N d
    show zds N d = _
    cases zds N d <;> rfl
  | cons x M ih =>
    intro N d
    show (zds (M ++ N) d).bind _ = _
    rw [ih]
    cases zds N d <;> rfl
section
variable {T : Nat → Int32} {z b p : Nat} {I : zMI} {W : List Int32}
theorem zVS_n1 (h : zVS T z b I) : ¬ I 37 6 = -1 := by
  obtain ⟨h1, h2, h3, h4, h5, h6, h7⟩ := h
  rw [h4, zeq_iff, zofn_i (by omega), znm1]
  omega
theorem zCS_next (h : zCS T z I p W) : ∃ I', f7_nextToken I = some I' ∧ zCS T z I' (zKe T z p) W ∧ zFC I I' := by
  obtain ⟨h1, h2, h3, h4, h5, h6, h7, h8, h9, h10, h11, h12⟩ := h
  have re := zKe_r (T := T) h10
  obtain ⟨I', u1, u2, u3, u4, u5, u6, u7⟩ := g7_next h11 re.2.1 h12 h1 h2 h3
  refine ⟨I', u1, ⟨?_, fun k hk => ?_, u2, u3, u4, u5, ?_, ?_, ?_, re.2.1, h11, h12⟩, fun b x _ => u7 b x, fun j x1 x2 x3 x4 _ _ => u6 j x1 x2 x3 x4⟩
  · rw [u6 1 (by decide) (by decide) (by decide) (by decide)]; exact h1
  · rw [u7 38 (by decide)]; exact h2 k hk
  · rw [u6 6 (by decide) (by decide) (by decide) (by decide)]; exact h7
  · rw [u6 8 (by decide) (by decide) (by decide) (by decide)]; exact h8
  · rw [u7 39 (by decide)]; exact h9
theorem zCS_put {x : Int32} (h : zCS T z I p W) (hW : W.length < 160) : ∃ I', f7_put x I = some I' ∧ zCS T z I' p (x :: W) ∧ zFC I I' := by
  obtain ⟨h1, h2, h3, h4, h5, h6, h7, h8, h9, h10, h11, h12⟩ := h
  have z160 : (160 : Int32).toInt = 160 := rfl
  have ew := zofn_i (m := W.length) (by omega)
  refine ⟨uI (uI I 39 W.length x) 37 8 (I 37 8 + 1), ?_, ⟨?_, fun k hk => ?_, ?_, ?_, ?_, fun q => ?_, ?_, ?_, ?_, h10, h11, h12⟩, fun b x y => by rw [uI_ne x, uI_ne y], fun j _ _ _ _ _ x6 => by rw [uI_off x6, uI_ne (by decide)]⟩
  · unfold f7_put
    rw [h8, if_neg (by rw [zlt_iff, z0]; omega), if_neg (by rw [zle_iff, z160]; omega), if_pos (zib_ok (by omega) (by omega)), zl_eq, zl_eq, zofn_n (by omega), uI_ne (show (37 : Nat) ≠ 39 by decide), h8]
  · rw [uI_off (by decide), uI_ne (by decide)]; exact h1
  · rw [uI_ne (by decide), uI_ne (by decide)]; exact h2 k hk
  · rw [uI_off (by decide), uI_ne (by decide)]; exact h3
  · rw [uI_off (by decide), uI_ne (by decide)]; exact h4
  · rw [uI_off (by decide), uI_ne (by decide)]; exact h5
  · rw [uI_off (by decide), uI_ne (by decide)]; exact h6 q
  · rw [uI_off (by decide), uI_ne (by decide)]; exact h7
  · rw [uI_at, h8, zofs (by omega)]; rfl
  · rw [uI_ne (by decide)]
    have := zhs_push (x := x) h9
    rw [Nat.zero_add] at this
    exact this
theorem zCS_fail (h : zCS T z I p W) : ∃ I', f7_fail I = some I' ∧ zVS T z (zKb T z p) I' ∧ zFC I I' ∧ I' 37 3 = zKk T z p := by
  obtain ⟨h1, h2, h3, h4, h5, h6, h7, h8, h9, h10, h11, h12⟩ := h
  have rb := zKb_r (T := T) h10
  have re := zKe_r (T := T) h10
  refine ⟨uI I 37 6 (I 37 4), ?_, ⟨?_, fun k hk => ?_, ⟨zKe T z p, re.2.1, ?_⟩, ?_, rb.2, h11, h12⟩, ⟨fun b x _ => uI_ne x, fun j _ _ _ _ x5 _ => uI_off x5⟩, by rw [uI_off (by decide)]; exact h4⟩
  · unfold f7_fail
    rw [if_pos h7, zl_eq]
  · rw [uI_off (by decide)]; exact h1
  · rw [uI_ne (by decide)]; exact h2 k hk
  · rw [uI_off (by decide)]; exact h3
  · rw [uI_at, h5]
theorem zV_next : zVF T z b f7_nextToken := fun I h => by
  obtain ⟨h1, h2, ⟨p, p1, p2⟩, h4, h5, h6, h7⟩ := h
  obtain ⟨I', u1, u2, u3, u4, u5, u6, u7⟩ := g7_next h6 p1 h7 h1 h2 p2
  exact ⟨I', u1, ⟨by rw [u6 1 (by decide) (by decide) (by decide) (by decide)]; exact h1, fun k hk => by rw [u7 38 (by decide)]; exact h2 k hk, ⟨_, (zKe_r (T := T) p1).2.1, u2⟩, by rw [u6 6 (by decide) (by decide) (by decide) (by decide)]; exact h4, h5, h6, h7⟩, fun b x _ => u7 b x, fun j x1 x2 x3 x4 _ _ => u6 j x1 x2 x3 x4⟩
theorem zV_fail : zVF T z b f7_fail := fun I h => by
  refine ⟨I, ?_, h, zFC_rfl⟩
  unfold f7_fail
  rw [if_neg (zVS_n1 h)]
theorem zV_put {x : Int32} : zVF T z b (f7_put x) := fun I h => by
  unfold f7_put
  by_cases c : I 37 8 < 0
  · rw [if_pos c]
    exact ⟨I, rfl, h, zFC_rfl⟩
  rw [if_neg c]
  by_cases c2 : (160 : Int32) ≤ I 37 8
  · rw [if_pos c2]
    exact ⟨I, rfl, h, zFC_rfl⟩
  have z160 : (160 : Int32).toInt = 160 := rfl
  have hz : zib (I 37 8) 160 = true := by
    rw [zlt_iff, z0] at c
    rw [zle_iff, z160] at c2
    exact zib_ok (by omega) (by omega)
  rw [if_neg c2, if_pos hz, zl_eq, zl_eq]
  obtain ⟨h1, h2, ⟨p, p1, p2⟩, h4, h5, h6, h7⟩ := h
  exact ⟨_, rfl, ⟨by rw [uI_off (by decide), uI_ne (by decide)]; exact h1, fun k hk => by rw [uI_ne (by decide), uI_ne (by decide)]; exact h2 k hk, ⟨p, p1, by rw [uI_off (by decide), uI_ne (by decide)]; exact p2⟩, by rw [uI_off (by decide), uI_ne (by decide)]; exact h4, h5, h6, h7⟩, fun b x y => by rw [uI_ne x, uI_ne y], fun j _ _ _ _ _ x6 => by rw [uI_off x6, uI_ne (by decide)]⟩
theorem zV_expect {x : Int32} : zVF T z b (f7_expect x) := fun I h => by
  unfold f7_expect
  by_cases c : I 37 3 = x
  · obtain ⟨I', u1, u2, u3⟩ := zV_next I h
    rw [if_pos c, u1, zb_some]
    exact ⟨I', rfl, u2, u3⟩
  · obtain ⟨I', u1, u2, u3⟩ := zV_fail I h
    rw [if_neg c, u1, zb_some]
    exact ⟨I', rfl, u2, u3⟩
theorem zV_may {o : Int32} (h : zVS T z b I) : f7_mayOpen o I = some (0, I) := by
  have n1 := zVS_n1 h
  have B : f7_mayOpen_B9 I = some (0, I) := by
    unfold f7_mayOpen_B9
    rw [if_neg n1, zl_eq, if_pos (by decide)]
  unfold f7_mayOpen
  by_cases c : o < 5
  · rw [if_pos c, B]
  · rw [if_neg c]
    unfold f7_fail
    rw [if_neg n1, zb_some, B]
theorem zV_bind {f g : zMI → Option zMI} (hf : zVF T z b f) (hg : zVF T z b g) : zVF T z b (fun I => zb (f I) g) := fun I h => by
  obtain ⟨I1, u1, u2, u3⟩ := hf I h
  obtain ⟨I2, v1, v2, v3⟩ := hg I1 u2
  exact ⟨I2, by show zb (f I) g = some I2; rw [u1, zb_some]; exact v1, v2, zFC_tr u3 v3⟩
theorem zV_One {rc : Nat → Int32 → zMI → Option zMI} {o : Int32} : zVF T z b (f7_readOne rc o) := fun I h => by
  have B68 : ∃ I', f7_readOne_B68 rc o I = some I' ∧ zVS T z b I' ∧ zFC I I' := by
    obtain ⟨I', u1, u2, u3⟩ := zV_fail I h
    refine ⟨I', ?_, u2, u3⟩
    unfold f7_readOne_B68
    by_cases c : I 37 3 = 40
    · rw [if_pos c, zV_may h, zb_some]
      dsimp only
      rw [if_pos rfl, u1, zb_some]
    · rw [if_neg c, u1, zb_some]
  have B16 : ∃ I', f7_readOne_B16 rc I = some I' ∧ zVS T z b I' ∧ zFC I I' := by
    obtain ⟨I1, u1, u2, u3⟩ := zV_put (x := I 37 5) I h
    obtain ⟨I2, v1, v2, v3⟩ := zV_next I1 u2
    refine ⟨I2, ?_, v2, zFC_tr u3 v3⟩
    unfold f7_readOne_B16
    rw [u1, zb_some, v1, zb_some]
  unfold f7_readOne
  by_cases c : I 37 3 = 2
  · rw [if_pos c]
    exact B16
  rw [if_neg c]
  by_cases c : I 37 3 = 3
  · rw [if_pos c]
    exact B16
  rw [if_neg c]
  by_cases c : I 37 3 = 45
  · rw [if_pos c, zV_may h, zb_some]
    dsimp only
    rw [if_pos rfl]
    exact B68
  rw [if_neg c]
  exact B68
theorem zV_Term {rc : Nat → Int32 → zMI → Option zMI} {o : Int32} (h2 : zVF T z b (rc 2 o)) : zVF T z b (f7_readTerm rc o) := fun I h => by
  obtain ⟨I1, u1, u2, u3⟩ := h2 I h
  refine ⟨I1, ?_, u2, u3⟩
  obtain ⟨q, hq⟩ : ∃ q, zF = q + 1 := ⟨zF - 1, by unfold zF; omega⟩
  unfold f7_readTerm
  rw [u1, zb_some, hq, f7_readTerm_L7, if_neg (by decide)]
  by_cases c : I1 37 3 = 42
  · rw [if_pos c, if_neg (zVS_n1 u2)]
  · rw [if_neg c]
theorem zV_Sum {rc : Nat → Int32 → zMI → Option zMI} {o : Int32} (h2 : zVF T z b (rc 2 o)) : zVF T z b (f7_readSum rc o) := fun I h => by
  obtain ⟨I1, u1, u2, u3⟩ := zV_Term h2 I h
  refine ⟨I1, ?_, u2, u3⟩
  obtain ⟨q, hq⟩ : ∃ q, zF = q + 1 := ⟨zF - 1, by unfold zF; omega⟩
  have B : ∀ k7, f7_readSum_B32 rc k7 o 0 I1 = some I1 := fun k7 => by
    unfold f7_readSum_B32
    rw [if_neg (zVS_n1 u2)]
  unfold f7_readSum
  rw [u1, zb_some, hq, f7_readSum_L7, if_neg (by decide), B]
  by_cases c : I1 37 3 = 43
  · rw [if_pos c]
  · rw [if_neg c]
    by_cases c : I1 37 3 = 45
    · rw [if_pos c]
    · rw [if_neg c]
theorem zV_Not {rc : Nat → Int32 → zMI → Option zMI} {o : Int32} (h2 : zVF T z b (rc 2 o)) : zVF T z b (f7_readNot rc o) := fun I h => by
  unfold f7_readNot
  by_cases c : I 37 3 = 9
  · rw [if_pos c, zV_may h, zb_some]
    exact ⟨I, rfl, h, zFC_rfl⟩
  rw [if_neg c]
  obtain ⟨I1, u1, u2, u3⟩ := zV_Sum h2 I h
  rw [u1, zb_some]
  have B : ∃ I', f7_readNot_B58 rc o I1 = some I' ∧ zVS T z b I' ∧ zFC I I' := by
    obtain ⟨I2, v1, v2, v3⟩ := zV_next I1 u2
    obtain ⟨I3, w1, w2, w3⟩ := zV_Sum h2 I2 v2
    obtain ⟨I4, x1, x2, x3⟩ := zV_put (x := if I1 37 3 = (60 : Int32) then (-13 : Int32) else -14) I3 w2
    refine ⟨I4, ?_, x2, zFC_tr (zFC_tr u3 v3) (zFC_tr w3 x3)⟩
    unfold f7_readNot_B58
    rw [zl_eq, v1, zb_some, w1, zb_some, x1, zb_some]
  by_cases c1 : I1 37 3 = 60
  · rw [if_pos c1]
    exact B
  rw [if_neg c1]
  by_cases c1 : I1 37 3 = 61
  · rw [if_pos c1]
    exact B
  rw [if_neg c1]
  exact ⟨I1, rfl, u2, u3⟩
theorem zV_And {rc : Nat → Int32 → zMI → Option zMI} {o : Int32} (h1 : zVF T z b (rc 1 o)) : zVF T z b (f7_readAnd rc o) := fun I h => by
  obtain ⟨I1, u1, u2, u3⟩ := h1 I h
  refine ⟨I1, ?_, u2, u3⟩
  obtain ⟨q, hq⟩ : ∃ q, zF = q + 1 := ⟨zF - 1, by unfold zF; omega⟩
  unfold f7_readAnd
  rw [u1, zb_some, hq, f7_readAnd_L7, if_neg (by decide)]
  by_cases c : I1 37 3 = 8
  · rw [if_pos c, if_neg (zVS_n1 u2)]
  · rw [if_neg c]
theorem zV_Or {rc : Nat → Int32 → zMI → Option zMI} {o : Int32} (h1 : zVF T z b (rc 1 o)) : zVF T z b (f7_readOr rc o) := fun I h => by
  obtain ⟨I1, u1, u2, u3⟩ := zV_And h1 I h
  refine ⟨I1, ?_, u2, u3⟩
  obtain ⟨q, hq⟩ : ∃ q, zF = q + 1 := ⟨zF - 1, by unfold zF; omega⟩
  unfold f7_readOr
  rw [u1, zb_some, hq, f7_readOr_L7, if_neg (by decide)]
  by_cases c : I1 37 3 = 7
  · rw [if_pos c, if_neg (zVS_n1 u2)]
  · rw [if_neg c]
/-- with fuel enough -/
theorem zV_P1 {k : Nat} {o : Int32} : zVF T z b (fP (k + 1) 2 o) := zV_One (rc := fP k)
theorem zV_P2 {k : Nat} {o : Int32} : zVF T z b (fP (k + 2) 1 o) := zV_Not (rc := fP (k + 1)) zV_P1
theorem zV_P3 {k : Nat} {o : Int32} : zVF T z b (f7_readOr (fP (k + 2)) o) := zV_Or zV_P2
end
