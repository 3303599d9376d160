/-! pure part: what the script says -/
theorem zand_ {a : Int32} {c : Nat} (hc : c < 2147483648) : 0 ≤ (a &&& Int32.ofNat c).toInt ∧ (a &&& Int32.ofNat c).toInt ≤ (c : Int) := by
  have h1 : (a &&& Int32.ofNat c).toBitVec.toNat ≤ c := by
    have : (a &&& Int32.ofNat c).toBitVec = a.toBitVec &&& BitVec.ofNat 32 c := rfl
    rw [this, BitVec.toNat_and, BitVec.toNat_ofNat, Nat.mod_eq_of_lt (by omega)]
    exact Nat.and_le_right
  have h2 : (a &&& Int32.ofNat c).toInt = ((a &&& Int32.ofNat c).toBitVec.toNat : Int) := by
    show (a &&& Int32.ofNat c).toBitVec.toInt = _
    rw [BitVec.toInt_eq_toNat_of_lt (by omega)]
  omega
/-- the script at k, 0 behind its end -/
def sA (sl : Nat) (sf : Nat → Int32) (k : Nat) : Int32 := if sl ≤ k then 0 else sf k
section
variable {sl : Nat} {sf : Nat → Int32}
theorem s_at (hL : sl ≤ 260) {x : Int32} {k : Nat} (hx : x.toInt = (k : Int)) (hk : k < 1000) : fL_at sl sf x = some (sA sl sf k) := by
  have eS : (Int32.ofNat sl).toInt = sl := nI_toInt (by omega)
  unfold fL_at sA
  by_cases c : sl ≤ k
  · rw [if_pos (by rw [zle_iff]; omega), if_pos c]
    rfl
  · rw [if_neg (by rw [zle_iff]; omega), if_neg c, if_pos (zib_ok (by omega) (by omega)), zcl_iff, show x.toInt.toNat = k by omega]
    rfl
/-- a plain one -/
def sPl (sl : Nat) (sf : Nat → Int32) : Bool := decide (((sA sl sf 0 >>> ((11 : Int32) &&& 31)) &&& (1 : Int32)) = (0 : Int32))
theorem s_plain (hL : sl ≤ 260) : fL_plain sl sf = some (if sPl sl sf = true then 1 else 0) := by
  unfold fL_plain sPl
  rw [s_at hL (k := 0) rfl (by decide), zb_some, zl_eq]
  by_cases c : ((sA sl sf 0 >>> ((11 : Int32) &&& 31)) &&& (1 : Int32)) = (0 : Int32)
  · rw [if_pos c, if_pos (by decide), if_pos (decide_eq_true c)]
  · rw [if_neg c, if_pos (by decide), if_neg (by rw [decide_eq_true_eq]; exact c)]
def sMany (sl : Nat) (sf : Nat → Int32) : Int32 := (fL_many sl sf).getD 0
def sWant (sl : Nat) (sf : Nat → Int32) : Int32 := (fL_want sl sf).getD 0
def sHigh (sl : Nat) (sf : Nat → Int32) (h : Nat) : Int32 := (fL_high sl sf (Int32.ofNat h)).getD 0
def sStick (sl : Nat) (sf : Nat → Int32) (h : Nat) : Int32 := (fL_stick sl sf (Int32.ofNat h)).getD 0
def sKind (sl : Nat) (sf : Nat → Int32) (w : Nat) : Int32 := (fL_kind sl sf (Int32.ofNat w)).getD 0
def sMore (sl : Nat) (sf : Nat → Int32) (w : Nat) : Int32 := (fL_more sl sf (Int32.ofNat w)).getD 0
def sFrom (sl : Nat) (sf : Nat → Int32) (w : Nat) : Int32 := (fL_from sl sf (Int32.ofNat w)).getD 0
theorem zmod_r {a m : Int32} (ha : 0 ≤ a.toInt) (hm : 0 < m.toInt) : 0 ≤ (a - a / m * m).toInt ∧ (a - a / m * m).toInt < m.toInt := by
  rw [zmod_of ha hm]
  exact ⟨Int.emod_nonneg _ (by omega), Int.emod_lt_of_pos _ hm⟩
theorem s_many (hL : sl ≤ 260) : fL_many sl sf = some (sMany sl sf) ∧ 1 ≤ (sMany sl sf).toInt ∧ (sMany sl sf).toInt ≤ 3 := by
  have h : fL_many sl sf = some (((1 : Int32) + ((sA sl sf 0 &&& (3 : Int32)) - (sA sl sf 0 &&& (3 : Int32)) / (3 : Int32) * (3 : Int32)))) := by
    unfold fL_many
    rw [s_at hL (k := 0) rfl (by decide), zb_some]
  have hr := zmod_r (a := sA sl sf 0 &&& (3 : Int32)) (m := 3) (zand_ (c := 3) (by decide)).1 (by decide)
  have e3 : (3 : Int32).toInt = 3 := rfl
  unfold sMany
  rw [h]
  refine ⟨rfl, ?_⟩
  show 1 ≤ ((1 : Int32) + _).toInt ∧ ((1 : Int32) + _).toInt ≤ 3
  rw [zadd (by rw [z1]; omega) (by rw [z1]; omega), z1]
  omega
theorem s_want (hL : sl ≤ 260) : fL_want sl sf = some (sWant sl sf) ∧ 1 ≤ (sWant sl sf).toInt ∧ (sWant sl sf).toInt ≤ 16 := by
  have h : fL_want sl sf = some (((1 : Int32) + ((sA sl sf 0 >>> ((2 : Int32) &&& 31)) &&& (15 : Int32)))) := by
    unfold fL_want
    rw [s_at hL (k := 0) rfl (by decide), zb_some]
  have hr := zand_ (a := sA sl sf 0 >>> ((2 : Int32) &&& 31)) (c := 15) (by decide)
  have hr' : 0 ≤ ((sA sl sf 0 >>> ((2 : Int32) &&& 31)) &&& (15 : Int32)).toInt ∧ ((sA sl sf 0 >>> ((2 : Int32) &&& 31)) &&& (15 : Int32)).toInt ≤ 15 := hr
  unfold sWant
  rw [h]
  refine ⟨rfl, ?_⟩
  show 1 ≤ ((1 : Int32) + _).toInt ∧ ((1 : Int32) + _).toInt ≤ 16
  rw [zadd (by rw [z1]; omega) (by rw [z1]; omega), z1]
  omega
theorem s_kind (hL : sl ≤ 260) (w : Nat) : fL_kind sl sf (Int32.ofNat w) = some (sKind sl sf w) ∧ 0 ≤ (sKind sl sf w).toInt ∧ (sKind sl sf w).toInt ≤ 5 := by
  unfold sKind fL_kind
  rw [s_at hL (k := 6) rfl (by decide), zb_some]
  obtain ⟨x, hx⟩ : ∃ x, sA sl sf 6 >>> (((10 : Int32) * Int32.ofNat w) &&& 31) = x := ⟨_, rfl⟩
  rw [hx]
  have hr := zmod_r (a := x &&& (7 : Int32)) (m := 6) (zand_ (c := 7) (by decide)).1 (by decide)
  have e6 : (6 : Int32).toInt = 6 := rfl
  refine ⟨rfl, hr.1, ?_⟩
  exact Int.le_of_lt_add_one (show _ < (5 : Int) + 1 from hr.2)
theorem s_more (hL : sl ≤ 260) (w : Nat) : fL_more sl sf (Int32.ofNat w) = some (sMore sl sf w) ∧ 0 ≤ (sMore sl sf w).toInt ∧ (sMore sl sf w).toInt ≤ 9 := by
  unfold sMore fL_more
  rw [s_at hL (k := 6) rfl (by decide), zb_some]
  obtain ⟨x, hx⟩ : ∃ x, sA sl sf 6 >>> ((((10 : Int32) * Int32.ofNat w) + (3 : Int32)) &&& 31) = x := ⟨_, rfl⟩
  rw [hx]
  have hr := zmod_r (a := x &&& (15 : Int32)) (m := 10) (zand_ (c := 15) (by decide)).1 (by decide)
  have e6 : (10 : Int32).toInt = 10 := rfl
  refine ⟨rfl, hr.1, ?_⟩
  exact Int.le_of_lt_add_one (show _ < (9 : Int) + 1 from hr.2)
theorem s_from (hL : sl ≤ 260) (w : Nat) : fL_from sl sf (Int32.ofNat w) = some (sFrom sl sf w) ∧ 0 ≤ (sFrom sl sf w).toInt ∧ (sFrom sl sf w).toInt ≤ 8 := by
  unfold sFrom fL_from
  rw [s_at hL (k := 7) rfl (by decide), zb_some]
  obtain ⟨x, hx⟩ : ∃ x, sA sl sf 7 >>> (((4 : Int32) * Int32.ofNat w) &&& 31) = x := ⟨_, rfl⟩
  rw [hx]
  have hr := zmod_r (a := x &&& (15 : Int32)) (m := 9) (zand_ (c := 15) (by decide)).1 (by decide)
  refine ⟨rfl, hr.1, ?_⟩
  exact Int.le_of_lt_add_one (show _ < (8 : Int) + 1 from hr.2)
theorem s_stick (hL : sl ≤ 260) {h : Nat} (hh : h < 9) : fL_stick sl sf (Int32.ofNat h) = some (sStick sl sf h) ∧ 0 ≤ (sStick sl sf h).toInt ∧ (sStick sl sf h).toInt ≤ 9 := by
  have eh := zofn_i (m := h) (by omega)
  have e5 : (5 : Int32).toInt = 5 := rfl
  have e4 : (4 : Int32).toInt = 4 := rfl
  have hd := zdiv (a := Int32.ofNat h) (b := 5) (by omega) (by decide)
  have hi : ((4 : Int32) + (Int32.ofNat h / (5 : Int32))).toInt = ((4 + h / 5 : Nat) : Int) := by
    rw [zadd (by rw [e4, hd, e5]; omega) (by rw [e4, hd, e5]; omega), e4, hd, eh, e5]
    omega
  unfold sStick fL_stick
  rw [s_at hL hi (by omega), zb_some]
  obtain ⟨x, hx⟩ : ∃ x, sA sl sf (4 + h / 5) >>> (((4 : Int32) * (Int32.ofNat h - Int32.ofNat h / (5 : Int32) * (5 : Int32))) &&& 31) = x := ⟨_, rfl⟩
  rw [hx]
  have hr := zmod_r (a := x &&& (15 : Int32)) (m := 10) (zand_ (c := 15) (by decide)).1 (by decide)
  have e6 : (10 : Int32).toInt = 10 := rfl
  refine ⟨rfl, hr.1, ?_⟩
  exact Int.le_of_lt_add_one (show _ < (9 : Int) + 1 from hr.2)
theorem s_high (hL : sl ≤ 260) {h : Nat} (hh : h < 9) : fL_high sl sf (Int32.ofNat h) = some (sHigh sl sf h) ∧ 0 ≤ (sHigh sl sf h).toInt ∧ (sHigh sl sf h).toInt ≤ 100 := by
  have eh := zofn_i (m := h) (by omega)
  have e3 : (3 : Int32).toInt = 3 := rfl
  have hd := zdiv (a := Int32.ofNat h) (b := 3) (by omega) (by decide)
  have hi : ((1 : Int32) + (Int32.ofNat h / (3 : Int32))).toInt = ((1 + h / 3 : Nat) : Int) := by
    rw [zadd (by rw [z1, hd, e3]; omega) (by rw [z1, hd, e3]; omega), z1, hd, eh, e3]
    omega
  unfold sHigh fL_high
  rw [s_at hL hi (by omega), zb_some, s_at hL (k := 0) rfl (by decide), zb_some, zl_eq]
  obtain ⟨x, hx⟩ : ∃ x, sA sl sf (1 + h / 3) >>> (((7 : Int32) * (Int32.ofNat h - Int32.ofNat h / (3 : Int32) * (3 : Int32))) &&& 31) = x := ⟨_, rfl⟩
  rw [hx]
  obtain ⟨m, hm⟩ : ∃ m : Int32, (if ((sA sl sf 0 >>> ((12 : Int32) &&& 31)) &&& (1 : Int32)) = (0 : Int32) then ((25 : Int32)) else ((101 : Int32))) = m := ⟨_, rfl⟩
  have hm2 : 0 < m.toInt ∧ m.toInt ≤ 101 := by
    rw [← hm]
    split <;> decide
  rw [hm]
  have hr := zmod_r (a := x &&& (127 : Int32)) (m := m) (zand_ (c := 127) (by decide)).1 hm2.1
  rw [if_pos (fun z => by rw [z] at hm2; exact absurd hm2.1 (by decide))]
  refine ⟨rfl, hr.1, ?_⟩
  exact Int.le_of_lt_add_one (Int.lt_of_lt_of_le hr.2 hm2.2)
end
