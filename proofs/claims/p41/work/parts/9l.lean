/-! pure part: orders as numbers -/
/-- a number's digits, and whether they are an order -/
def zpd (c N k : Nat) : Nat := N / c ^ (c - 1 - k) % c
def zsn (c : Nat) : Nat → Nat → Int32 → Int32
  | 0, _, x => x
  | k + 1, m, x => zsn c k (m / c) (x ||| ((1 : Int32) <<< (Int32.ofNat (m % c) &&& 31)))
def zpb (c N : Nat) : Bool := zsn c c N 0 == ((1 : Int32) <<< (Int32.ofNat c &&& 31)) - 1
def zprq (c N k : Nat) : Int32 := if k < c then Int32.ofNat (zpd c N k) else Int32.ofNat k
/-- the next order of the last d numbers; how many there are -/
def znp (c : Nat) : Nat → Option Nat
  | 0 => none
  | d + 1 => if zpb c (c ^ c - (d + 1)) = true then some (c ^ c - (d + 1)) else znp c d
def zcp (c : Nat) : Nat → Nat
  | 0 => 0
  | d + 1 => (if zpb c (c ^ c - (d + 1)) = true then 1 else 0) + zcp c d
/-- a whole stretch of numbers, tried -/
def zall (p : Nat → Bool) : Nat → Nat → Bool
  | 0, a => p a
  | d + 1, a => zall p d a && zall p d (a + 2 ^ d)
theorem zall_ok {p : Nat → Bool} : ∀ d a, zall p d a = true → ∀ x, a ≤ x → x < a + 2 ^ d → p x = true := by
  intro d
  induction d with
  | zero =>
    intro a h x h1 h2
    rw [zall] at h
    rw [show x = a by omega]
    exact h
  | succ d ih =>
    intro a h x h1 h2
    rw [zall, Bool.and_eq_true] at h
    have e : 2 ^ (d + 1) = 2 ^ d + 2 ^ d := by rw [Nat.pow_succ]; omega
    by_cases c : x < a + 2 ^ d
    · exact ih a h.1 x h1 c
    · exact ih (a + 2 ^ d) h.2 x (by omega) (by omega)
/-- their digits lie apart -/
def zpa (c N : Nat) : Bool := !zpb c N || (List.range c).all (fun i => (List.range c).all (fun j => !(zpd c N i == zpd c N j) || i == j))
theorem zpa_all : zall (zpa 0) 0 0 = true ∧ zall (zpa 1) 0 0 = true ∧ zall (zpa 2) 2 0 = true ∧ zall (zpa 3) 5 0 = true ∧ zall (zpa 4) 8 0 = true ∧ zall (zpa 5) 12 0 = true := by decide +kernel
theorem zpa_ok {c N : Nat} (hc : c ≤ 5) (hN : N < c ^ c) : zpa c N = true := by
  obtain ⟨h0, h1, h2, h3, h4, h5⟩ := zpa_all
  rcases (show c = 0 ∨ c = 1 ∨ c = 2 ∨ c = 3 ∨ c = 4 ∨ c = 5 by omega) with q | q | q | q | q | q <;> subst q
  · exact zall_ok 0 0 h0 N (Nat.zero_le _) (by omega)
  · exact zall_ok 0 0 h1 N (Nat.zero_le _) (by omega)
  · exact zall_ok 2 0 h2 N (Nat.zero_le _) (by omega)
  · exact zall_ok 5 0 h3 N (Nat.zero_le _) (by omega)
  · exact zall_ok 8 0 h4 N (Nat.zero_le _) (by omega)
  · exact zall_ok 12 0 h5 N (Nat.zero_le _) (by omega)
theorem zpd_inj {c N i j : Nat} (hc : c ≤ 5) (hN : N < c ^ c) (h : zpb c N = true) (hi : i < c) (hj : j < c) (e : zpd c N i = zpd c N j) : i = j := by
  have := zpa_ok hc hN
  unfold zpa at this
  rw [h] at this
  simp only [Bool.not_true, Bool.false_or, List.all_eq_true, List.mem_range, Bool.or_eq_true, Bool.not_eq_true', beq_iff_eq] at this
  rcases this i hi j hj with q | q
  · rw [e] at q
    simp at q
  · exact q
theorem zpd_lt {c N k : Nat} (hk : k < c) : zpd c N k < c := Nat.mod_lt _ (by omega)
theorem zcc {c : Nat} (hc : c ≤ 5) : c ^ c ≤ 3125 ∧ 1 ≤ c ^ c := by
  rcases (show c = 0 ∨ c = 1 ∨ c = 2 ∨ c = 3 ∨ c = 4 ∨ c = 5 by omega) with q | q | q | q | q | q <;> subst q <;> decide
theorem g12_powerOf_all : ∀ c, c < 6 → f12_powerOf (Int32.ofNat c) = some (Int32.ofNat (c ^ c)) := by decide +kernel
theorem zcp_all : zcp 0 (0 ^ 0) ≤ 120 ∧ zcp 1 (1 ^ 1) ≤ 120 ∧ zcp 2 (2 ^ 2) ≤ 120 ∧ zcp 3 (3 ^ 3) ≤ 120 ∧ zcp 4 (4 ^ 4) ≤ 120 ∧ zcp 5 (5 ^ 5) ≤ 120 := by decide +kernel
theorem zcp_le {c : Nat} (hc : c ≤ 5) : zcp c (c ^ c) ≤ 120 := by
  obtain ⟨h0, h1, h2, h3, h4, h5⟩ := zcp_all
  rcases (show c = 0 ∨ c = 1 ∨ c = 2 ∨ c = 3 ∨ c = 4 ∨ c = 5 by omega) with q | q | q | q | q | q <;> subst q
  · exact h0
  · exact h1
  · exact h2
  · exact h3
  · exact h4
  · exact h5
/-- the first order -/
def zfs (c : Nat) : Bool := match znp c (c ^ c) with
  | none => false
  | some P => (List.range 5).all (fun k => zprq c P k == Int32.ofNat k)
theorem zfs_all : ∀ c, c < 6 → zfs c = true := by decide +kernel
theorem znp_first {c : Nat} (hc : c ≤ 5) : ∃ P, znp c (c ^ c) = some P ∧ ∀ k, k < 5 → zprq c P k = Int32.ofNat k := by
  have h := zfs_all c (by omega)
  unfold zfs at h
  split at h
  · cases h
  · next P e =>
    refine ⟨P, e, fun k hk => ?_⟩
    simp only [List.all_eq_true, List.mem_range, beq_iff_eq] at h
    exact h k hk
/-- the reference reads an order off a number -/
theorem g12_tellsL {k73 : Int32 → zMI → Option (Int32 × zMI)} {c : Nat} (hc5 : c ≤ 5) : ∀ (k q : Nat) (m : Nat) (l2 l3 l4 : Int32) (J : zMI), k ≤ c → (J 81 3).toInt = (c : Int) → l4.toInt = (k : Int) - 1 → l2.toInt = (m : Int) → k < q →
    ∃ J', f12_tells_L20 k73 q l2 l3 l4 J = k73 (zsn c k m l3) J' ∧ (∀ i, i < k → J' 99 i = Int32.ofNat (m / c ^ (k - 1 - i) % c)) ∧ (∀ i, k ≤ i → J' 99 i = J 99 i) ∧ ∀ b, b ≠ 99 → J' b = J b := by
  intro k
  induction k with
  | zero =>
    intro q m l2 l3 l4 J hk h3 e4 e2 hq
    obtain ⟨q, rfl⟩ : ∃ p, q = p + 1 := ⟨q - 1, by omega⟩
    refine ⟨J, ?_, fun i hi => absurd hi (Nat.not_lt_zero i), fun _ _ => rfl, fun _ _ => rfl⟩
    unfold f12_tells_L20
    rw [if_pos (by rw [zlt_iff, z0]; omega)]
    rfl
  | succ k ih =>
    intro q m l2 l3 l4 J hk h3 e4 e2 hq
    obtain ⟨q, rfl⟩ : ∃ p, q = p + 1 := ⟨q - 1, by omega⟩
    have n4 : l4.toNatClampNeg = k := by rw [zcl_iff]; omega
    have wi : f12_within (J 81 3) 1 5 = some (J 81 3) := by
      unfold f12_within
      rw [zl_eq, if_pos (by rw [zle_iff, z1]; omega), if_pos (by rw [zle_iff, zn5i]; omega)]
    have nz : ¬ J 81 3 = 0 := by
      rw [zeq_iff, z0]
      omega
    have hr := zrange l2
    have d1 : (l2 / J 81 3).toInt = ((m / c : Nat) : Int) := by rw [zdiv (by omega) (by omega), e2, h3]; exact Int.natCast_ediv m c
    have d3 : (l2 - l2 / J 81 3 * J 81 3).toInt = ((m % c : Nat) : Int) := by rw [zmod_of (by omega) (by omega), e2, h3]; exact Int.natCast_emod m c
    have ml : m % c < c := Nat.mod_lt _ (by omega)
    obtain ⟨r, er⟩ : ∃ r, l2 - l2 / J 81 3 * J 81 3 = r := ⟨_, rfl⟩
    obtain ⟨v, ev⟩ : ∃ v, l2 / J 81 3 = v := ⟨_, rfl⟩
    rw [er] at d3
    rw [ev] at d1 er
    have rr : r = Int32.ofNat (m % c) := by rw [zeq_iff, d3, zofn_i (by omega)]
    obtain ⟨y, hy⟩ : ∃ y, l4 + (-1) = y := ⟨_, rfl⟩
    have ed : y.toInt = (k : Int) - 1 := by
      rw [← hy, zadd (by rw [znm1]; omega) (by rw [znm1]; omega), znm1, e4]
      omega
    have u3 : uI J 99 k r 81 3 = J 81 3 := by rw [uI_ne (by decide)]
    obtain ⟨J', u1, u2, u4, u5⟩ := ih q (m / c) v (l3 ||| ((1 : Int32) <<< (r &&& 31))) y (uI J 99 k r) (by omega) (by rw [u3]; exact h3) ed d1 (by omega)
    refine ⟨J', ?_, fun i hi => ?_, fun i hi => by rw [u4 i (by omega), uI_off (by omega)], fun b hb => by rw [u5 b hb, uI_ne hb]⟩
    · rw [f12_tells_L20]
      rw [if_neg (by rw [zlt_iff, z0]; omega), wi, zb_some, if_pos nz, if_pos (zib_ok (by omega) (by omega)), ev, er, n4, zl_eq, u3, wi, zb_some, if_pos nz, zl_eq, uI_at, hy, ev, u1, rr]
      rfl
    · by_cases x : i = k
      · rw [u4 i (by omega), x, uI_at, rr, show k + 1 - 1 - k = 0 by omega, Nat.pow_zero, Nat.div_one]
      · rw [u2 i (by omega), show k + 1 - 1 - i = (k - 1 - i) + 1 by omega, Nat.pow_succ, Nat.mul_comm, Nat.div_div_eq_div_mul]
theorem g12_tells {c N : Nat} {l : Int32} {J : zMI} (hc5 : c ≤ 5) (h3 : (J 81 3).toInt = (c : Int)) (e : l.toInt = (N : Int)) : ∃ J', f12_tells l J = some (if zpb c N = true then 1 else 0, J') ∧ J' 81 34 = J 81 3 ∧ (∀ k, k < c → J' 99 k = Int32.ofNat (zpd c N k)) ∧ (∀ j, j ≠ 34 → J' 81 j = J 81 j) ∧ ∀ b, b ≠ 81 → b ≠ 99 → J' b = J b := by
  have e3 : uI J 81 34 (J 81 3) 81 3 = J 81 3 := uI_off (by decide)
  obtain ⟨J', u1, u2, u3, u4⟩ := g12_tellsL (k73 := f12_tells_B73) hc5 c zF N l 0 (J 81 3 - 1) (uI J 81 34 (J 81 3)) (Nat.le_refl _) (by rw [e3]; exact h3) (by rw [zsub (by rw [z1]; omega) (by rw [z1]; omega), z1]; omega) e (by unfold zF; omega)
  have J81 : J' 81 = uI J 81 34 (J 81 3) 81 := u4 81 (by decide)
  have ec : J 81 3 = Int32.ofNat c := by rw [zeq_iff, h3, zofn_i (by omega)]
  refine ⟨J', ?_, by rw [J81, uI_at], u2, fun j hj => by rw [J81, uI_off hj], fun b x y => by rw [u4 b y, uI_ne x]⟩
  unfold f12_tells
  rw [zl_eq, zl_eq, e3, u1]
  unfold f12_tells_B73
  rw [J81, e3, zl_eq, ec]
  by_cases k : zsn c c N 0 = ((1 : Int32) <<< (Int32.ofNat c &&& 31)) - 1
  · have kb : zpb c N = true := by unfold zpb; rw [k]; exact beq_self_eq_true _
    rw [if_pos k, if_pos kb, if_pos (by decide)]
  · have kb : ¬ zpb c N = true := by
      unfold zpb
      rw [beq_iff_eq]
      exact k
    rw [if_neg k, if_neg kb, if_pos (by decide)]
