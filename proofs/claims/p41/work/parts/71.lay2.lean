/-! pure part: a going is laid, the class's side -/
def zhl (I : zMI) (h : Nat) (x y : Int32) : Prop := I (46 + h) 1 = x ∧ I (46 + h) 2 = y ∧ I (46 + h) 3 = 0 ∧ I (46 + h) 4 = 0 ∧ I (46 + h) 5 = -1 ∧ I (46 + h) 6 = 0
theorem g2_begin {h : Nat} {x y : Int32} {I : zMI} (hh : h < 9) : ∃ J, f2_beginGoing (46 + h) x y I = some J ∧ zhl J h x y ∧ J (46 + h) 0 = I (46 + h) 0 ∧ ∀ b, b ≠ 46 + h → J b = I b := by
  refine ⟨uI (uI (uI (uI (uI (uI I (46 + h) 1 x) (46 + h) 2 y) (46 + h) 3 0) (46 + h) 4 0) (46 + h) 5 (-1)) (46 + h) 6 0, ?_, ?_, ?_, fun b hb => ?_⟩
  · unfold f2_beginGoing
    rw [if_pos (zHp_ok hh)]
    rfl
  · unfold zhl
    simp (disch := omega) only [uI_off, uI_at, and_self]
  · simp (disch := omega) only [uI_off]
  · rw [uI_ne hb, uI_ne hb, uI_ne hb, uI_ne hb, uI_ne hb, uI_ne hb]
theorem g0_layL3 {n : Nat} {kd : zMK} {R : zMR} (hS : zSh n kd) (k : Option Nat → Int32 → Int32 → zMI → zMR → Option (zMI × zMR)) (l3 : Option Nat) (l4 l5 : Int32) : ∀ (d q : Nat) (i : Int32) (I : zMI), i.toInt + d = 9 → 0 ≤ i.toInt → d < q →
    ∃ J, f0_lay_L3 n kd k q 33 34 l3 l4 l5 i I R = k l3 l4 l5 J R ∧ (∀ h, i.toInt.toNat ≤ h → h < 9 → zhl J h (I 33 h) (I 34 h)) ∧ (∀ h, h < i.toInt.toNat → J (46 + h) = I (46 + h)) ∧ (∀ h, h < 9 → J (46 + h) 0 = I (46 + h) 0) ∧ ∀ b, b < 46 ∨ 54 < b → J b = I b := by
  have k3 : zKdB n kd 33 0 = true := by
    unfold zKdB
    rw [hS.2 33 (by decide) (by decide)]
    simp [zK0, zKL]
    have := hS.1
    omega
  have k4 : zKdB n kd 34 0 = true := by
    unfold zKdB
    rw [hS.2 34 (by decide) (by decide)]
    simp [zK0, zKL]
    have := hS.1
    omega
  have l33 : (kd 33).2 = 9 := hS.len 33 (by decide) (by decide) rfl
  have l34 : (kd 34).2 = 9 := hS.len 34 (by decide) (by decide) rfl
  have e9 : (Int32.ofNat 9).toInt = 9 := rfl
  intro d
  induction d with
  | zero =>
    intro q i I e h0 hq
    obtain ⟨q, rfl⟩ : ∃ p, q = p + 1 := ⟨q - 1, by omega⟩
    refine ⟨I, ?_, fun w x y => by omega, fun _ _ => rfl, fun _ _ => rfl, fun _ _ => rfl⟩
    unfold f0_lay_L3
    rw [if_pos (by rw [zle_iff, z9]; omega)]
  | succ d ih =>
    intro q i I e h0 hq
    obtain ⟨q, rfl⟩ : ∃ p, q = p + 1 := ⟨q - 1, by omega⟩
    have e1 := zsucc (N := 9) (i := i) (d := d) (by rw [z9]; omega)
    have hz : zib i 9 = true := zib_ok h0 (by omega)
    have t1 : ¬ (9 : Int32) ≤ i := by rw [zle_iff, z9]; omega
    have t2 : ¬ Int32.ofNat 9 ≤ i := by rw [zle_iff, e9]; omega
    have hi9 : i.toInt.toNat < 9 := by omega
    obtain ⟨K, k1, k2, k5, k6⟩ := g2_begin (x := I 33 i.toInt.toNat) (y := I 34 i.toInt.toNat) (I := I) hi9
    obtain ⟨J, j1, j2, j3, j4, j5⟩ := ih q (i + 1) K (by omega) (by omega) (by omega)
    refine ⟨J, ?_, fun h x y => ?_, fun h x => by rw [j3 h (by omega), k6 _ (by omega)], fun h x => ?_, fun b hb => by rw [j5 b hb, k6 b (by omega)]⟩
    · unfold f0_lay_L3
      rw [if_neg t1, if_pos k3, l33, if_neg t2, if_pos k4, l34, if_neg t2, if_pos hz, if_pos hz, if_pos hz, zcl_iff, k1, zb_some]
      exact j1
    · by_cases c : h = i.toInt.toNat
      · subst c
        unfold zhl at k2 ⊢
        rw [j3 _ (by omega)]
        exact k2
      · have := j2 h (by omega) y
        rw [k6 33 (by omega), k6 34 (by omega)] at this
        exact this
    · rw [j4 h x]
      by_cases c : h = i.toInt.toNat
      · rw [c, k5]
      · rw [k6 _ (by omega)]
theorem g0_lay {n : Nat} {kd : zMK} {R : zMR} {I : zMI} (hS : zSh n kd) (l3 : Option Nat) (l4 l5 : Int32) : ∃ J, f0_lay n kd 33 34 l3 l4 l5 I R = some (J, uR R 42 7 l3) ∧ (∀ h, h < 9 → zhl J h (I 33 h) (I 34 h)) ∧ (∀ h, h < 9 → J (46 + h) 0 = I (46 + h) 0) ∧ (J 42 2 = 0 ∧ J 42 3 = l5 ∧ J 42 4 = l4 ∧ J 42 5 = 0 ∧ J 42 8 = 0 ∧ J 42 9 = 0 ∧ J 42 10 = 0 ∧ J 42 11 = 0 ∧ J 42 12 = -1) ∧ ∀ b, b ≠ 42 → (b < 46 ∨ 54 < b) → J b = I b := by
  obtain ⟨K, k1, k2, k3, k4, k5⟩ := g0_layL3 (R := R) hS (f0_lay_B48 n kd) l3 l4 l5 9 zF 0 I (by rw [z0]; rfl) (by rw [z0]; omega) (by unfold zF; omega)
  obtain ⟨J, hJ⟩ : ∃ J, uI (uI (uI (uI (uI (uI (uI (uI (uI K 42 4 l4) 42 3 l5) 42 2 0) 42 5 0) 42 8 0) 42 9 0) 42 10 0) 42 11 0) 42 12 (-1) = J := ⟨_, rfl⟩
  have J_ne : ∀ b, b ≠ 42 → J b = K b := fun b hb => by rw [← hJ, uI_ne hb, uI_ne hb, uI_ne hb, uI_ne hb, uI_ne hb, uI_ne hb, uI_ne hb, uI_ne hb, uI_ne hb]
  refine ⟨J, ?_, fun h hh => ?_, fun h hh => by rw [J_ne _ (by omega), k4 h hh], ?_, fun b x y => by rw [J_ne b x, k5 b y]⟩
  · unfold f0_lay
    rw [k1]
    unfold f0_lay_B48
    rw [zl_eq, zl_eq, zl_eq, zl_eq, zl_eq, zl_eq, zl_eq, zl_eq, zl_eq, zl_eq, hJ]
  · have := k2 h (by rw [z0]; omega) hh
    unfold zhl at this ⊢
    rw [J_ne _ (by omega)]
    exact this
  · rw [← hJ]
    simp (disch := omega) only [uI_off, uI_at, and_self]
def zbegun (I : zMI) (a : Nat) (x : Int32) : Prop := I a 3 = x ∧ I a 4 = 1 ∧ I a 5 = 0 ∧ I a 6 = 0 ∧ I a 7 = 0 ∧ I a 8 = 0 ∧ I a 9 = 0 ∧ I a 10 = 0
theorem zwkB_c {n : Nat} {kd : zMK} {a : Nat} (h : zWkB n kd a = true) : (kd a).1 = 17 ∨ (kd a).1 = 20 ∨ (kd a).1 = 21 ∨ (kd a).1 = 24 ∨ (kd a).1 = 25 ∨ (kd a).1 = 26 := by
  unfold zWkB zwB at h
  simp only [Bool.and_eq_true, Bool.or_eq_true, beq_iff_eq] at h
  omega
/-- one joins -/
theorem g0_join {n : Nat} {kd : zMK} {R : zMR} {I : zMI} {a : Nat} (hW : zWkB n kd a = true) (ha : a ≠ 42) (hg : 0 ≤ (I 42 2).toInt ∧ (I 42 2).toInt ≤ 4) : ∃ J, f0_join n kd (some a) I R = some (J, uR R 44 (I 42 2).toInt.toNat (some a)) ∧ zbegun J a (I a 2) ∧ (∀ j, j < 3 → J a j = I a j) ∧ J 42 2 = I 42 2 + 1 ∧ (∀ j, j ≠ 2 → J 42 j = I 42 j) ∧ ∀ b, b ≠ a → b ≠ 42 → J b = I b := by
  obtain ⟨K, hK⟩ : ∃ K, uI (uI (uI (uI (uI (uI (uI (uI I a 3 (I a 2)) a 4 1) a 5 0) a 6 0) a 7 0) a 8 0) a 9 0) a 10 0 = K := ⟨_, rfl⟩
  have b0 : f10_beginGoing n kd a I = some K := by
    unfold f10_beginGoing
    rw [if_pos hW, ← hK]
    rfl
  have bv : fv_beginGoing n kd I a = some K := by
    unfold fv_beginGoing
    rw [b0]
    rcases zwkB_c hW with c | c | c | c | c | c <;> rw [c] <;> rfl
  have K_ne : ∀ b, b ≠ a → K b = I b := fun b hb => by rw [← hK, uI_ne hb, uI_ne hb, uI_ne hb, uI_ne hb, uI_ne hb, uI_ne hb, uI_ne hb, uI_ne hb]
  have K42 : K 42 = I 42 := K_ne 42 ha.symm
  refine ⟨uI K 42 2 (I 42 2 + 1), ?_, ?_, fun j hj => ?_, uI_at, fun j hj => by rw [uI_off hj, K42], fun b x y => by rw [uI_ne y, K_ne b x]⟩
  · unfold f0_join
    rw [zm_some, if_neg (by rw [zlt_iff, z0]; omega), if_neg (by rw [zle_iff, zn5i]; omega), if_pos hW, bv, zb_some, K42, if_pos (zib_ok hg.1 (by omega)), zcl_iff, zl_eq, zl_eq]
  · unfold zbegun
    rw [uI_ne ha, ← hK]
    simp (disch := omega) only [uI_off, uI_at, and_self]
  · rw [uI_ne ha, ← hK]
    simp (disch := omega) only [uI_off]
/-- g have joined -/
def zXJ (A : Nat → Nat) (ord : Nat → Nat) (fr : Nat → Int32) (g : Nat) (I : zMI) (R : zMR) : Prop := (I 42 2).toInt = (g : Int) ∧ ∀ k, k < g → R 44 k = some (A (ord k)) ∧ zbegun I (A (ord k)) (fr (ord k))
theorem zXJ_step {n : Nat} {kd : zMK} {A : Nat → Nat} {ord : Nat → Nat} {fr : Nat → Int32} {g : Nat} {I : zMI} {R : zMR} (h : zXJ A ord fr g I R) (hg : g ≤ 4) (hW : zWkB n kd (A (ord g)) = true) (h42 : A (ord g) ≠ 42) (hne : ∀ k, k < g → A (ord k) ≠ A (ord g)) (hf : I (A (ord g)) 2 = fr (ord g)) (h42' : ∀ k, k < g → A (ord k) ≠ 42) :
    ∃ J R', f0_join n kd (some (A (ord g))) I R = some (J, R') ∧ zXJ A ord fr (g + 1) J R' ∧ (∀ j, j < 3 → J (A (ord g)) j = I (A (ord g)) j) ∧ (∀ j, j ≠ 2 → J 42 j = I 42 j) ∧ (∀ b, b ≠ A (ord g) → b ≠ 42 → J b = I b) ∧ ∀ b, b ≠ 44 → R' b = R b := by
  obtain ⟨h1, h2⟩ := h
  obtain ⟨J, j1, j2, j3, j4, j5, j6⟩ := g0_join (R := R) (I := I) hW h42 ⟨by omega, by omega⟩
  refine ⟨J, _, j1, ⟨?_, fun k hk => ?_⟩, j3, j5, j6, fun b hb => uR_ne hb⟩
  · rw [j4, zadd (by rw [z1]; omega) (by rw [z1]; omega), z1, h1]
    omega
  · have en : (I 42 2).toInt.toNat = g := by omega
    by_cases c : k = g
    · subst c
      rw [en, uR_at]
      rw [hf] at j2
      exact ⟨rfl, j2⟩
    · obtain ⟨u1, u2⟩ := h2 k (by omega)
      rw [en, uR_off c]
      refine ⟨u1, ?_⟩
      unfold zbegun at u2 ⊢
      rw [j6 _ (hne k (by omega)) (h42' k (by omega))]
      exact u2
