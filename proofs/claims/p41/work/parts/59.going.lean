/-! pure part: a going as the class has it (I) and as the reference has it (J) -/
/-- w goes -/
def zgo (J : zMI) (w : Nat) : Prop := ∃ k : Nat, (k : Int) < (J 81 34).toInt ∧ (J 99 k).toInt = (w : Int)
/-- the order -/
def zGo (R : zMR) (A : Nat → Nat) (J : zMI) : Prop := (0 ≤ (J 81 34).toInt ∧ (J 81 34).toInt ≤ 5) ∧ (∀ k : Nat, (k : Int) < (J 81 34).toInt → 0 ≤ (J 99 k).toInt ∧ (J 99 k).toInt < 5 ∧ R 44 k = some (A (J 99 k).toInt.toNat)) ∧ ∀ k k' : Nat, (k : Int) < (J 81 34).toInt → (k' : Int) < (J 81 34).toInt → (J 99 k).toInt = (J 99 k').toInt → k = k'
/-- the law, how many, how many are wanted -/
def zGl (n : Nat) (kd : zMK) (R : zMR) (L s t : Nat) (I J : zMI) : Prop := R 42 7 = some L ∧ zLw n kd R L s I J t ∧ (J 81 12).toInt = (t : Int) ∧ t < 6 ∧ I 42 3 = J 81 3 ∧ I 42 4 = J 81 2 ∧ I 42 2 = J 81 34 ∧ (1 ≤ (J 81 2).toInt ∧ (J 81 2).toInt ≤ 200)
/-- one who goes -/
def zGw (I J : zMI) (a w : Nat) : Prop := I a 3 = J 100 w ∧ I a 4 = J 101 w ∧ I a 5 = J 102 w ∧ I a 6 = J 104 w ∧ I a 7 = J 105 w ∧ I a 8 = J 103 w ∧ ((J 106 w = 0 ∧ I a 9 = 0 ∧ I a 10 = 0) ∨ (J 106 w = 1 ∧ I a 9 = 1 ∧ I a 10 = 0) ∨ (J 106 w = 2 ∧ I a 10 = 1)) ∧
  (0 ≤ (J 100 w).toInt ∧ (J 100 w).toInt ≤ 8) ∧ ((J 101 w = 1 ∧ J 102 w = 0) ∨ (J 101 w = 0 ∧ 1 ≤ (J 102 w).toInt ∧ (J 102 w).toInt ≤ 40) ∨ (J 101 w = 2 ∧ 1 ≤ (J 102 w).toInt ∧ (J 102 w).toInt ≤ 40)) ∧ (0 ≤ (J 103 w).toInt ∧ (J 103 w).toInt ≤ 8)
def zGa (n : Nat) (kd : zMK) (A : Nat → Nat) (I J : zMI) : Prop := ∀ w, w < 5 → (zgo J w → zwl n kd I J (A w) (Int32.ofNat w) ∧ zGw I J (A w) w) ∧ (¬ zgo J w → J 101 w = 1 ∧ J 103 w = 0)
/-- a heap -/
def zGhq (I J : zMI) (h : Nat) : Prop := I (46 + h) 0 = Int32.ofNat h ∧ I (46 + h) 1 = J 107 h ∧ I (46 + h) 2 = J 83 h ∧ I (46 + h) 3 = J 108 h ∧ I (46 + h) 5 = J 109 h ∧ ((I (46 + h) 6 = 0 ∧ (J 81 45).toInt.toNat.testBit h = false) ∨ (I (46 + h) 6 = 1 ∧ (J 81 45).toInt.toNat.testBit h = true)) ∧ (0 ≤ (J 107 h).toInt ∧ (J 107 h).toInt ≤ 200) ∧ (0 ≤ (J 83 h).toInt ∧ (J 83 h).toInt ≤ 9)
/-- how many take at a heap -/
def ztk (J : zMI) (h w : Nat) : Int := if J 101 w = 2 ∧ (J 100 w).toInt = (h : Int) then 1 else 0
def ztks (J : zMI) (h : Nat) : Int := ztk J h 0 + ztk J h 1 + ztk J h 2 + ztk J h 3 + ztk J h 4
def zGk (I J : zMI) : Prop := ∀ h, h < 9 → (I (46 + h) 4).toInt = ztks J h
/-- how many of the first p are v; how many are not 0 -/
def zcnt (f : Nat → Int32) (v : Int32) : Nat → Nat
  | 0 => 0
  | p + 1 => zcnt f v p + if f p = v then 1 else 0
def zcnz (f : Nat → Int32) : Nat → Nat
  | 0 => 0
  | p + 1 => zcnz f p + if f p = 0 then 0 else 1
/-- programmes; c: a bound for all that was lifted; tm: the second -/
def zGp (I J : zMI) (c tm : Int) : Prop := (I 42 5).toInt = tm ∧ I 42 9 = J 81 47 ∧ I 42 12 = J 81 48 ∧ (0 ≤ (J 81 47).toInt ∧ 9 * (J 81 47).toInt + ((J 103 0).toInt + (J 103 1).toInt + (J 103 2).toInt + (J 103 3).toInt + (J 103 4).toInt) ≤ c) ∧ (I 42 10).toInt = (zcnt (J 110) 1 (J 81 47).toInt.toNat : Nat) ∧ (I 42 11).toInt = (zcnt (J 110) 2 (J 81 47).toInt.toNat : Nat) ∧
  (I 42 8).toInt = (min 40 (zcnz (J 110) (J 81 47).toInt.toNat) : Nat) ∧ (∀ k, k < (J 81 47).toInt.toNat → J 110 k ≠ 0 → zcnz (J 110) k < 40 → (I 45 (zcnz (J 110) k)).toInt = (k : Int)) ∧ (∀ k, k < (J 81 47).toInt.toNat → J 110 k = 0 ∨ J 110 k = 1 ∨ J 110 k = 2) ∧
  ((J 81 48 = -1 ∧ (J 81 47).toInt < (J 81 2).toInt) ∨ (0 ≤ (J 81 48).toInt ∧ (J 81 48).toInt ≤ tm ∧ (J 81 2).toInt ≤ (J 81 47).toInt)) ∧ (0 ≤ (J 81 45).toInt ∧ (J 81 45).toInt < 512)
def zG (n : Nat) (kd : zMK) (R : zMR) (L s t : Nat) (A : Nat → Nat) (I J : zMI) (c tm : Int) : Prop := zGl n kd R L s t I J ∧ zGo R A J ∧ zGa n kd A I J ∧ (∀ h, h < 9 → zGhq I J h) ∧ zGk I J ∧ zGp I J c tm
/-- what a going leaves alone -/
def zFI (A : Nat → Nat) (s : Nat) (I I' : zMI) : Prop := (∀ b, b ≠ 42 → b ≠ 45 → (b < 46 ∨ 54 < b) → (∀ w, w < 5 → b ≠ A w) → b ≠ s → b ≠ s + 1 → I' b = I b) ∧ (∀ w j, w < 5 → j < 3 → I' (A w) j = I (A w) j) ∧ (∀ j, 2 ≤ j → j ≤ 4 → I' 42 j = I 42 j) ∧ ∀ h, h < 9 → I' (46 + h) 0 = I (46 + h) 0 ∧ I' (46 + h) 2 = I (46 + h) 2
def zFJ (J J' : zMI) : Prop := (∀ b, b ≠ 81 → (b ≤ 96 ∨ 111 ≤ b ∨ b = 99) → J' b = J b) ∧ ∀ j, j ≤ 44 → J' 81 j = J 81 j
theorem zFI_rfl {A : Nat → Nat} {s : Nat} {I : zMI} : zFI A s I I := ⟨fun _ _ _ _ _ _ _ => rfl, fun _ _ _ _ => rfl, fun _ _ _ => rfl, fun _ _ => ⟨rfl, rfl⟩⟩
theorem zFJ_rfl {J : zMI} : zFJ J J := ⟨fun _ _ _ => rfl, fun _ _ => rfl⟩
theorem zFI_tr {A : Nat → Nat} {s : Nat} {I I' I'' : zMI} (h1 : zFI A s I I') (h2 : zFI A s I' I'') : zFI A s I I'' := by
  obtain ⟨a1, a2, a3, a4⟩ := h1
  obtain ⟨b1, b2, b3, b4⟩ := h2
  refine ⟨fun b x1 x2 x3 x4 x5 x6 => by rw [b1 b x1 x2 x3 x4 x5 x6, a1 b x1 x2 x3 x4 x5 x6], fun w j x y => by rw [b2 w j x y, a2 w j x y], fun j x y => by rw [b3 j x y, a3 j x y], fun h x => ?_⟩
  obtain ⟨c1, c2⟩ := a4 h x
  obtain ⟨d1, d2⟩ := b4 h x
  exact ⟨by rw [d1, c1], by rw [d2, c2]⟩
theorem zFJ_tr {J J' J'' : zMI} (h1 : zFJ J J') (h2 : zFJ J' J'') : zFJ J J'' := ⟨fun b x y => by rw [h2.1 b x y, h1.1 b x y], fun j x => by rw [h2.2 j x, h1.2 j x]⟩
theorem zofn {x : Int32} (h : 0 ≤ x.toInt) : Int32.ofNat x.toInt.toNat = x := by
  have hr := zrange x
  rw [zeq_iff, show (Int32.ofNat x.toInt.toNat).toInt = (x.toInt.toNat : Int) from nI_toInt (by omega)]
  omega
theorem zofn_i {m : Nat} (h : m < 1000000) : (Int32.ofNat m).toInt = (m : Int) := nI_toInt (by omega)
theorem zofn_n {m : Nat} (h : m < 1000000) : (Int32.ofNat m).toNatClampNeg = m := by
  rw [zcl_iff, zofn_i h]
  omega
theorem zcnt_le (f : Nat → Int32) (v : Int32) : ∀ p, zcnt f v p ≤ p
  | 0 => Nat.le_refl _
  | p + 1 => by
    have := zcnt_le f v p
    unfold zcnt
    split <;> omega
theorem zcnz_le (f : Nat → Int32) : ∀ p, zcnz f p ≤ p
  | 0 => Nat.le_refl _
  | p + 1 => by
    have := zcnz_le f p
    unfold zcnz
    split <;> omega
theorem zcnt_eq {f g : Nat → Int32} (v : Int32) : ∀ p, (∀ k, k < p → g k = f k) → zcnt g v p = zcnt f v p
  | 0, _ => rfl
  | p + 1, h => by
    unfold zcnt
    rw [zcnt_eq v p (fun k hk => h k (by omega)), h p (by omega)]
theorem zcnz_eq {f g : Nat → Int32} : ∀ p, (∀ k, k < p → g k = f k) → zcnz g p = zcnz f p
  | 0, _ => rfl
  | p + 1, h => by
    unfold zcnz
    rw [zcnz_eq p (fun k hk => h k (by omega)), h p (by omega)]
/-- addresses of the parts lie apart -/
theorem zwl_big {n : Nat} {kd : zMK} {I J : zMI} {a : Nat} {w : Int32} (hS : zSh n kd) (h : zwl n kd I J a w) : 114 ≤ a := by
  by_cases c : 114 ≤ a
  · exact c
  exfalso
  have h1 := h.1
  have h2 := h.2.1
  have e := (zWkB_has h1).choose_spec.2.1
  rw [hS.2 a e (by omega)] at h2
  have hb : ∀ j, j < 82 → ∀ c, c < 11 → ¬ (zK0 (32 + j)).1 = 16 + c ∨ c = 0 ∨ c = 2 ∨ c = 3 ∨ c = 6 ∨ c = 7 := by decide +kernel
  have hk := hb (a - 32) (by omega) (zkc (J 84 w.toNatClampNeg)) (by unfold zkc; repeat' split
                                                                     all_goals decide)
  rw [show 32 + (a - 32) = a by omega] at hk
  have hk2 : zkc (J 84 w.toNatClampNeg) ≠ 0 ∧ zkc (J 84 w.toNatClampNeg) ≠ 2 ∧ zkc (J 84 w.toNatClampNeg) ≠ 3 ∧ zkc (J 84 w.toNatClampNeg) ≠ 6 ∧ zkc (J 84 w.toNatClampNeg) ≠ 7 := by
    unfold zkc
    repeat' split
    all_goals decide
  omega
