/-! pure part: the next token -/
/-- blanks passed over; a run of bytes; digits' value -/
def zKsk (T : Nat → Int32) : Nat → Nat → Nat
  | 0, p => p
  | d + 1, p => if T p = 32 ∨ T p = 10 then zKsk T d (p + 1) else p
def zKrl (T : Nat → Int32) (lo hi : Int) : Nat → Nat → Nat
  | 0, p => p
  | d + 1, p => if lo ≤ (T p).toInt ∧ (T p).toInt ≤ hi then zKrl T lo hi d (p + 1) else p
def zKvl (T : Nat → Int32) : Nat → Nat → Int32 → Int32
  | 0, _, v => v
  | k + 1, p, v => zKvl T k (p + 1) (v * 10 + T p - 48)
/-- word i stands at b up to e -/
def zKm (T : Nat → Int32) (b e i : Nat) : Bool := e - b == zSlen.getD i 0 && (List.range (zSlen.getD i 0)).all (fun c => T (b + c) == (zSbyt.getD i []).getD c 0)
def zKi (T : Nat → Int32) (b e : Nat) : Nat := ((List.range 12).find? (fun i => zKm T b e i)).getD 12
def zKb (T : Nat → Int32) (z p : Nat) : Nat := zKsk T (z - p) p
abbrev zKlt (c : Int32) : Prop := 97 ≤ c.toInt ∧ c.toInt ≤ 122
abbrev zKdg (c : Int32) : Prop := 48 ≤ c.toInt ∧ c.toInt ≤ 57
abbrev zKsg (c : Int32) : Prop := c = 40 ∨ c = 41 ∨ c = 59 ∨ c = 43 ∨ c = 45 ∨ c = 42 ∨ c = 60 ∨ c = 61
def zKc (i : Nat) : Int32 := if i < 6 then Int32.ofNat (4 + i) else if i < 12 then 3 else 1
def zKe (T : Nat → Int32) (z p : Nat) : Nat := if z ≤ zKb T z p then zKb T z p else if zKlt (T (zKb T z p)) then zKrl T 97 122 (z - zKb T z p) (zKb T z p) else if zKdg (T (zKb T z p)) then zKrl T 48 57 (z - zKb T z p) (zKb T z p) else zKb T z p + 1
def zKk (T : Nat → Int32) (z p : Nat) : Int32 := if z ≤ zKb T z p then 0 else if zKlt (T (zKb T z p)) then zKc (zKi T (zKb T z p) (zKe T z p)) else if zKdg (T (zKb T z p)) then (if zKe T z p - zKb T z p ≤ 4 then 2 else 1) else if zKsg (T (zKb T z p)) then T (zKb T z p) else 1
def zKw (T : Nat → Int32) (z p : Nat) : Int32 := if zKlt (T (zKb T z p)) then 5 - Int32.ofNat (zKi T (zKb T z p) (zKe T z p)) else zKvl T (zKe T z p - zKb T z p) (zKb T z p) 0
theorem zKsk_r {T : Nat → Int32} : ∀ d p, p ≤ zKsk T d p ∧ zKsk T d p ≤ p + d := by
  intro d
  induction d with
  | zero => intro p; exact ⟨Nat.le_refl _, Nat.le_refl _⟩
  | succ d ih =>
    intro p
    have := ih (p + 1)
    rw [zKsk]
    split <;> omega
theorem zKrl_r {T : Nat → Int32} {lo hi : Int} : ∀ d p, p ≤ zKrl T lo hi d p ∧ zKrl T lo hi d p ≤ p + d := by
  intro d
  induction d with
  | zero => intro p; exact ⟨Nat.le_refl _, Nat.le_refl _⟩
  | succ d ih =>
    intro p
    have := ih (p + 1)
    rw [zKrl]
    split <;> omega
theorem zKrl_in {T : Nat → Int32} {lo hi : Int} : ∀ d p i, p ≤ i → i < zKrl T lo hi d p → lo ≤ (T i).toInt ∧ (T i).toInt ≤ hi := by
  intro d
  induction d with
  | zero => intro p i h1 h2; rw [zKrl] at h2; omega
  | succ d ih =>
    intro p i h1 h2
    rw [zKrl] at h2
    by_cases c : lo ≤ (T p).toInt ∧ (T p).toInt ≤ hi
    · rw [if_pos c] at h2
      by_cases q : i = p
      · rw [q]; exact c
      · exact ih (p + 1) i (by omega) h2
    · rw [if_neg c] at h2
      omega
theorem zKrl_1 {T : Nat → Int32} {lo hi : Int} {d p : Nat} (hd : 0 < d) (h : lo ≤ (T p).toInt ∧ (T p).toInt ≤ hi) : p + 1 ≤ zKrl T lo hi d p := by
  obtain ⟨d, rfl⟩ : ∃ e, d = e + 1 := ⟨d - 1, by omega⟩
  rw [zKrl, if_pos h]
  exact (zKrl_r d (p + 1)).1
/-- where a token lies -/
theorem zKb_r {T : Nat → Int32} {z p : Nat} (hp : p ≤ z) : p ≤ zKb T z p ∧ zKb T z p ≤ z := by
  have := zKsk_r (T := T) (z - p) p
  unfold zKb
  omega
theorem zKe_r {T : Nat → Int32} {z p : Nat} (hp : p ≤ z) : zKb T z p ≤ zKe T z p ∧ zKe T z p ≤ z ∧ (zKb T z p < z → zKb T z p < zKe T z p) := by
  have h := zKb_r (T := T) hp
  unfold zKe
  by_cases c : z ≤ zKb T z p
  · rw [if_pos c]; omega
  · rw [if_neg c]
    by_cases c1 : zKlt (T (zKb T z p))
    · rw [if_pos c1]
      have h1 := zKrl_r (T := T) (lo := 97) (hi := 122) (z - zKb T z p) (zKb T z p)
      have h2 := zKrl_1 (T := T) (lo := 97) (hi := 122) (d := z - zKb T z p) (p := zKb T z p) (by omega) c1
      omega
    · rw [if_neg c1]
      by_cases c2 : zKdg (T (zKb T z p))
      · rw [if_pos c2]
        have h1 := zKrl_r (T := T) (lo := 48) (hi := 57) (z - zKb T z p) (zKb T z p)
        have h2 := zKrl_1 (T := T) (lo := 48) (hi := 57) (d := z - zKb T z p) (p := zKb T z p) (by omega) c2
        omega
      · rw [if_neg c2]; omega
/-- words told apart -/
theorem zKm_iff {T : Nat → Int32} {b e i : Nat} : zKm T b e i = true ↔ (e - b = zSlen.getD i 0 ∧ ∀ c, c < zSlen.getD i 0 → T (b + c) = (zSbyt.getD i []).getD c 0) := by
  unfold zKm
  simp only [Bool.and_eq_true, beq_iff_eq, List.all_eq_true, List.mem_range]
theorem zKdf : ∀ i, i < 12 → ∀ j, j < 12 → i ≠ j → zSlen.getD i 0 ≠ zSlen.getD j 0 ∨ ∃ c, c < zSlen.getD i 0 ∧ (zSbyt.getD i []).getD c 0 ≠ (zSbyt.getD j []).getD c 0 := by
  have h : ∀ i, i < 12 → ∀ j, j < 12 → i ≠ j → zSlen.getD i 0 ≠ zSlen.getD j 0 ∨ (List.range (zSlen.getD i 0)).any (fun c => (zSbyt.getD i []).getD c 0 != (zSbyt.getD j []).getD c 0) = true := by decide +kernel
  intro i hi j hj e
  rcases h i hi j hj e with q | q
  · exact Or.inl q
  · simp only [List.any_eq_true, List.mem_range, bne_iff_ne] at q
    exact Or.inr q
theorem zKm_1 {T : Nat → Int32} {b e i j : Nat} (hi : i < 12) (hj : j < 12) (h : zKm T b e i = true) (h' : zKm T b e j = true) : i = j := by
  by_cases c : i = j
  · exact c
  · exfalso
    obtain ⟨a1, a2⟩ := zKm_iff.mp h
    obtain ⟨b1, b2⟩ := zKm_iff.mp h'
    rcases zKdf i hi j hj c with q | ⟨k, k1, k2⟩
    · omega
    · exact k2 (by rw [← a2 k k1, ← b2 k (by omega)])
theorem zKi_le {T : Nat → Int32} {b e : Nat} : zKi T b e ≤ 12 := by
  unfold zKi
  cases h : (List.range 12).find? (fun i => zKm T b e i) with
  | none => exact Nat.le_refl _
  | some i =>
    have := List.mem_of_find?_eq_some h
    rw [List.mem_range] at this
    show i ≤ 12
    omega
theorem zKi_iff {T : Nat → Int32} {b e i : Nat} (hi : i < 12) : zKm T b e i = true ↔ zKi T b e = i := by
  unfold zKi
  cases h : (List.range 12).find? (fun i => zKm T b e i) with
  | none =>
    rw [List.find?_eq_none] at h
    constructor
    · intro q
      exact absurd q (h i (List.mem_range.mpr hi))
    · intro q
      exfalso
      have : (12 : Nat) = i := q
      omega
  | some j =>
    have h1 := List.find?_some h
    have h2 := List.mem_of_find?_eq_some h
    rw [List.mem_range] at h2
    constructor
    · intro q
      exact zKm_1 h2 hi h1 q
    · intro q
      have : j = i := q
      rw [← this]
      exact h1
theorem zofs {p : Nat} (h : p < 1000000) : Int32.ofNat p + 1 = Int32.ofNat (p + 1) := by
  have := zofn_i (m := p) h
  rw [zeq_iff, zadd (by rw [z1]; omega) (by rw [z1]; omega), z1, this, show (Int32.ofNat (p + 1)).toInt = ((p + 1 : Nat) : Int) from nI_toInt (by omega)]
  omega
/-! the class -/
section
variable {T : Nat → Int32} {z : Nat} {I : zMI}
theorem g7_byte {q : Nat} (hz : z ≤ 160) (h1 : I 37 1 = Int32.ofNat z) (hT : ∀ k, k < z → I 38 k = T k) (hq : q ≤ 200) : f7_byteAt I (Int32.ofNat q) = some (if q < z then T q else -1) := by
  have eq := zofn_i (m := q) (by omega)
  have ez := zofn_i (m := z) (by omega)
  have z160 : (160 : Int32).toInt = 160 := rfl
  unfold f7_byteAt
  rw [if_neg (by rw [zlt_iff, z0]; omega), h1]
  by_cases c : q < z
  · rw [if_neg (by rw [zle_iff]; omega), if_neg (by rw [zle_iff, z160]; omega), if_pos (zib_ok (by omega) (by omega)), zb_some, if_pos c, zofn_n (by omega), hT q c]
  · rw [if_pos (by rw [zle_iff]; omega), zb_some, if_neg c]
theorem g7_isLetter (c : Int32) : f7_isLetter c = some (zB (zKlt c)) := by
  have a : (97 : Int32).toInt = 97 := rfl
  have b : (122 : Int32).toInt = 122 := rfl
  have e : (if c < (97 : Int32) then (0 : Int32) else if (122 : Int32) < c then 0 else 1) = zB (zKlt c) := by
    simp only [zlt_iff, a, b]
    unfold zB
    split
    · rw [if_neg (by unfold zKlt; omega)]
    · split
      · rw [if_neg (by unfold zKlt; omega)]
      · rw [if_pos (by unfold zKlt; omega)]
  unfold f7_isLetter
  rw [zl_eq, e, if_pos (zB_bB _)]
theorem g7_isDigit (c : Int32) : f7_isDigit c = some (zB (zKdg c)) := by
  have a : (48 : Int32).toInt = 48 := rfl
  have b : (57 : Int32).toInt = 57 := rfl
  have e : (if c < (48 : Int32) then (0 : Int32) else if (57 : Int32) < c then 0 else 1) = zB (zKdg c) := by
    simp only [zlt_iff, a, b]
    unfold zB
    split
    · rw [if_neg (by unfold zKdg; omega)]
    · split
      · rw [if_neg (by unfold zKdg; omega)]
      · rw [if_pos (by unfold zKdg; omega)]
  unfold f7_isDigit
  rw [zl_eq, e, if_pos (zB_bB _)]
theorem zKsg_e (c : Int32) : (if c = (40 : Int32) then (1 : Int32) else if c = (41 : Int32) then (1 : Int32) else if c = (59 : Int32) then (1 : Int32) else if c = (43 : Int32) then (1 : Int32) else if c = (45 : Int32) then (1 : Int32) else if c = (42 : Int32) then (1 : Int32) else if c = (60 : Int32) then (1 : Int32) else if c = (61 : Int32) then (1 : Int32) else (0 : Int32)) = zB (zKsg c) := by
  unfold zB
  by_cases h : zKsg c
  · rw [if_pos h]
    rcases h with h | h | h | h | h | h | h | h <;> rw [h] <;> decide
  · rw [if_neg h]
    unfold zKsg at h
    rw [if_neg (fun q => h (Or.inl q)), if_neg (fun q => h (Or.inr (Or.inl q))), if_neg (fun q => h (Or.inr (Or.inr (Or.inl q)))), if_neg (fun q => h (Or.inr (Or.inr (Or.inr (Or.inl q))))), if_neg (fun q => h (Or.inr (Or.inr (Or.inr (Or.inr (Or.inl q)))))), if_neg (fun q => h (Or.inr (Or.inr (Or.inr (Or.inr (Or.inr (Or.inl q))))))), if_neg (fun q => h (Or.inr (Or.inr (Or.inr (Or.inr (Or.inr (Or.inr (Or.inl q)))))))), if_neg (fun q => h (Or.inr (Or.inr (Or.inr (Or.inr (Or.inr (Or.inr (Or.inr q))))))))]
theorem g7_isSign (c : Int32) : f7_isSign c = some (zB (zKsg c)) := by
  unfold f7_isSign
  rw [zl_eq, zKsg_e, if_pos (zB_bB _)]
theorem g7_skip {k51 : zMI → Option zMI} (hz : z ≤ 160) : ∀ (d q p : Nat) (l1 : Int32) (I : zMI), z - p = d → p ≤ z → 0 ≤ l1.toInt → l1.toInt ≤ p → d < q → I 37 1 = Int32.ofNat z → (∀ k, k < z → I 38 k = T k) → I 37 2 = Int32.ofNat p →
    ∃ I', f7_nextToken_L2 k51 q l1 I = k51 I' ∧ I' 37 2 = Int32.ofNat (zKsk T d p) ∧ (∀ j, j ≠ 2 → I' 37 j = I 37 j) ∧ ∀ b, b ≠ 37 → I' b = I b := by
  have z160 : (160 : Int32).toInt = 160 := rfl
  intro d
  induction d with
  | zero =>
    intro q p l1 I hd hp h0 hl hq h1 hT h2
    obtain ⟨q, rfl⟩ : ∃ x, q = x + 1 := ⟨q - 1, by omega⟩
    refine ⟨I, ?_, h2, fun _ _ => rfl, fun _ _ => rfl⟩
    rw [f7_nextToken_L2]
    by_cases c : (160 : Int32) ≤ l1
    · rw [if_pos c]
    · rw [if_neg c, h2, g7_byte hz h1 hT (by omega), if_neg (by omega), zb_some, if_neg (by decide), zb_some, if_neg (by decide)]
  | succ d ih =>
    intro q p l1 I hd hp h0 hl hq h1 hT h2
    obtain ⟨q, rfl⟩ : ∃ x, q = x + 1 := ⟨q - 1, by omega⟩
    have hpz : p < z := by omega
    have es : (l1 + 1).toInt = l1.toInt + 1 := by rw [zadd (by rw [z1]; omega) (by rw [z1]; omega), z1]
    rw [f7_nextToken_L2, zKsk]
    rw [if_neg (by rw [zle_iff, z160]; omega), h2, g7_byte hz h1 hT (by omega), if_pos hpz, zb_some, zb_some]
    have step : ∃ I', f7_nextToken_B35 (f7_nextToken_L2 k51 q) l1 I = k51 I' ∧ I' 37 2 = Int32.ofNat (zKsk T d (p + 1)) ∧ (∀ j, j ≠ 2 → I' 37 j = I 37 j) ∧ ∀ b, b ≠ 37 → I' b = I b := by
      obtain ⟨I', u1, u2, u3, u4⟩ := ih q (p + 1) (l1 + 1) (uI I 37 2 (I 37 2 + 1)) (by omega) (by omega) (by omega) (by omega) (by omega) (by rw [uI_off (by decide)]; exact h1) (fun k hk => by rw [uI_ne (by decide)]; exact hT k hk) (by rw [uI_at, h2, zofs (by omega)])
      refine ⟨I', ?_, u2, fun j hj => by rw [u3 j hj, uI_off hj], fun b hb => by rw [u4 b hb, uI_ne hb]⟩
      unfold f7_nextToken_B35
      rw [zl_eq]
      exact u1
    by_cases c : T p = 32
    · rw [if_pos c, if_pos (Or.inl c)]
      exact step
    · rw [if_neg c]
      by_cases c2 : T p = 10
      · rw [if_pos c2, if_pos (Or.inr c2)]
        exact step
      · rw [if_neg c2, if_neg (fun q => q.elim c c2)]
        exact ⟨I, rfl, h2, fun _ _ => rfl, fun _ _ => rfl⟩
theorem g7_word {k39 : zMI → Option zMI} (hz : z ≤ 160) : ∀ (d q p : Nat) (l1 : Int32) (I : zMI), z - p = d → p ≤ z → 0 ≤ l1.toInt → l1.toInt ≤ p → d < q → I 37 1 = Int32.ofNat z → (∀ k, k < z → I 38 k = T k) → I 37 2 = Int32.ofNat p →
    ∃ I', f7_takeWord_L2 k39 q l1 I = k39 I' ∧ I' 37 2 = Int32.ofNat (zKrl T 97 122 d p) ∧ (∀ j, j ≠ 2 → I' 37 j = I 37 j) ∧ ∀ b, b ≠ 37 → I' b = I b := by
  have z160 : (160 : Int32).toInt = 160 := rfl
  intro d
  induction d with
  | zero =>
    intro q p l1 I hd hp h0 hl hq h1 hT h2
    obtain ⟨q, rfl⟩ : ∃ x, q = x + 1 := ⟨q - 1, by omega⟩
    refine ⟨I, ?_, h2, fun _ _ => rfl, fun _ _ => rfl⟩
    rw [f7_takeWord_L2]
    by_cases c : (160 : Int32) ≤ l1
    · rw [if_pos c]
    · rw [if_neg c, h2, g7_byte hz h1 hT (by omega), if_neg (by omega), zb_some, g7_isLetter, zb_some, if_pos (by decide)]
  | succ d ih =>
    intro q p l1 I hd hp h0 hl hq h1 hT h2
    obtain ⟨q, rfl⟩ : ∃ x, q = x + 1 := ⟨q - 1, by omega⟩
    have hpz : p < z := by omega
    have es : (l1 + 1).toInt = l1.toInt + 1 := by rw [zadd (by rw [z1]; omega) (by rw [z1]; omega), z1]
    rw [f7_takeWord_L2, zKrl]
    rw [if_neg (by rw [zle_iff, z160]; omega), h2, g7_byte hz h1 hT (by omega), if_pos hpz, zb_some, g7_isLetter, zb_some]
    simp only [zB_0]
    by_cases c : zKlt (T p)
    · rw [if_neg (not_not_intro c), if_pos c, zl_eq]
      obtain ⟨I', u1, u2, u3, u4⟩ := ih q (p + 1) (l1 + 1) (uI I 37 2 (I 37 2 + 1)) (by omega) (by omega) (by omega) (by omega) (by omega) (by rw [uI_off (by decide)]; exact h1) (fun k hk => by rw [uI_ne (by decide)]; exact hT k hk) (by rw [uI_at, h2, zofs (by omega)])
      rw [h2] at u1
      exact ⟨I', u1, u2, fun j hj => by rw [u3 j hj, uI_off hj], fun b hb => by rw [u4 b hb, uI_ne hb]⟩
    · rw [if_pos c, if_neg c]
      exact ⟨I, rfl, h2, fun _ _ => rfl, fun _ _ => rfl⟩
theorem g7_digits {k58 : Int32 → zMI → Option zMI} (hz : z ≤ 160) : ∀ (d q p : Nat) (v l2 : Int32) (I : zMI), z - p = d → p ≤ z → 0 ≤ l2.toInt → l2.toInt ≤ p → d < q → I 37 1 = Int32.ofNat z → (∀ k, k < z → I 38 k = T k) → I 37 2 = Int32.ofNat p →
    ∃ I', f7_takeNumber_L4 k58 q v l2 I = k58 (zKvl T (zKrl T 48 57 d p - p) p v) I' ∧ I' 37 2 = Int32.ofNat (zKrl T 48 57 d p) ∧ (∀ j, j ≠ 2 → I' 37 j = I 37 j) ∧ ∀ b, b ≠ 37 → I' b = I b := by
  have z160 : (160 : Int32).toInt = 160 := rfl
  intro d
  induction d with
  | zero =>
    intro q p v l2 I hd hp h0 hl hq h1 hT h2
    obtain ⟨q, rfl⟩ : ∃ x, q = x + 1 := ⟨q - 1, by omega⟩
    refine ⟨I, ?_, h2, fun _ _ => rfl, fun _ _ => rfl⟩
    rw [f7_takeNumber_L4, zKrl, Nat.sub_self, zKvl]
    by_cases c : (160 : Int32) ≤ l2
    · rw [if_pos c]
    · rw [if_neg c, h2, g7_byte hz h1 hT (by omega), if_neg (by omega), zb_some, g7_isDigit, zb_some, if_pos (by decide)]
  | succ d ih =>
    intro q p v l2 I hd hp h0 hl hq h1 hT h2
    obtain ⟨q, rfl⟩ : ∃ x, q = x + 1 := ⟨q - 1, by omega⟩
    have hpz : p < z := by omega
    have es : (l2 + 1).toInt = l2.toInt + 1 := by rw [zadd (by rw [z1]; omega) (by rw [z1]; omega), z1]
    rw [f7_takeNumber_L4, zKrl]
    rw [if_neg (by rw [zle_iff, z160]; omega), h2, g7_byte hz h1 hT (by omega), if_pos hpz, zb_some, g7_isDigit, zb_some]
    simp only [zB_0]
    by_cases c : zKdg (T p)
    · rw [if_neg (not_not_intro c), if_pos c, zb_some, zl_eq, zl_eq]
      obtain ⟨I', u1, u2, u3, u4⟩ := ih q (p + 1) (v * 10 + T p - 48) (l2 + 1) (uI I 37 2 (I 37 2 + 1)) (by omega) (by omega) (by omega) (by omega) (by omega) (by rw [uI_off (by decide)]; exact h1) (fun k hk => by rw [uI_ne (by decide)]; exact hT k hk) (by rw [uI_at, h2, zofs (by omega)])
      rw [h2] at u1
      refine ⟨I', ?_, u2, fun j hj => by rw [u3 j hj, uI_off hj], fun b hb => by rw [u4 b hb, uI_ne hb]⟩
      have r := (zKrl_r (T := T) (lo := 48) (hi := 57) d (p + 1)).1
      rw [u1, show zKrl T 48 57 d (p + 1) - p = (zKrl T 48 57 d (p + 1) - (p + 1)) + 1 by omega, zKvl]
    · rw [if_pos c, if_neg c, Nat.sub_self, zKvl]
      exact ⟨I, rfl, h2, fun _ _ => rfl, fun _ _ => rfl⟩
theorem zSl_all : ∀ i, i < 12 → fJ0_length_8abf5 i = some (Int32.ofNat (zSlen.getD i 0)) ∧ 2 ≤ zSlen.getD i 0 ∧ zSlen.getD i 0 ≤ 6 := by decide +kernel
theorem zSc_all : ∀ i, i < 12 → ∀ c, c < 6 → c < zSlen.getD i 0 → fJ0_charAt_5068e i (Int32.ofNat c) = some ((zSbyt.getD i []).getD c 0) ∧ 97 ≤ ((zSbyt.getD i []).getD c 0).toInt ∧ ((zSbyt.getD i []).getD c 0).toInt ≤ 122 := by decide +kernel
theorem g7_spellL {b e i : Nat} (hz : z ≤ 160) (hT : ∀ k, k < z → I 38 k = T k) (h4 : I 37 4 = Int32.ofNat b) (he : e ≤ z) (hi : i < 12) (hl : e - b = zSlen.getD i 0) (hbe : b ≤ e) : ∀ (d q c : Nat), c + d = zSlen.getD i 0 → d < q →
    (f7_spells_L20 I q i (Int32.ofNat c) = some 1 ∧ ∀ x, c ≤ x → x < zSlen.getD i 0 → T (b + x) = (zSbyt.getD i []).getD x 0) ∨ (f7_spells_L20 I q i (Int32.ofNat c) = some 0 ∧ ∃ x, x < zSlen.getD i 0 ∧ T (b + x) ≠ (zSbyt.getD i []).getD x 0) := by
  have z160 : (160 : Int32).toInt = 160 := rfl
  obtain ⟨s1, s2, s3⟩ := zSl_all i hi
  have el := zofn_i (m := zSlen.getD i 0) (by omega)
  have eb := zofn_i (m := b) (by omega)
  intro d
  induction d with
  | zero =>
    intro q c hd hq
    obtain ⟨q, rfl⟩ : ∃ x, q = x + 1 := ⟨q - 1, by omega⟩
    have ec := zofn_i (m := c) (by omega)
    refine Or.inl ⟨?_, fun x h1 h2 => by omega⟩
    rw [f7_spells_L20]
    rw [if_pos (decide_eq_true hi), s1, zb_some, if_pos (by rw [zle_iff]; omega)]
  | succ d ih =>
    intro q c hd hq
    obtain ⟨q, rfl⟩ : ∃ x, q = x + 1 := ⟨q - 1, by omega⟩
    have ec := zofn_i (m := c) (by omega)
    have es : (Int32.ofNat b + Int32.ofNat c).toInt = ((b + c : Nat) : Int) := by rw [zadd (by omega) (by omega)]; omega
    have en : (Int32.ofNat b + Int32.ofNat c).toNatClampNeg = b + c := by rw [zcl_iff, es]; omega
    obtain ⟨c1, -, -⟩ := zSc_all i hi c (by omega) (by omega)
    have F : f7_spells_L20 I (q + 1) i (Int32.ofNat c) = if T (b + c) = (zSbyt.getD i []).getD c 0 then f7_spells_L20 I q i (Int32.ofNat (c + 1)) else some 0 := by
      rw [f7_spells_L20]
      rw [if_pos (decide_eq_true hi), s1, zb_some, if_neg (by rw [zle_iff]; omega), h4, if_neg (by rw [zlt_iff, z0]; omega), if_neg (by rw [zle_iff, z160]; omega), if_pos (zib_ok (by omega) (by omega)), c1, zb_some, en, hT _ (by omega), zofs (by omega)]
    rw [F]
    by_cases k : T (b + c) = (zSbyt.getD i []).getD c 0
    · rw [if_pos k]
      rcases ih q (c + 1) (by omega) (by omega) with ⟨u1, u2⟩ | ⟨u1, u2⟩
      · refine Or.inl ⟨u1, fun x h1 h2 => ?_⟩
        by_cases y : x = c
        · rw [y]; exact k
        · exact u2 x (by omega) h2
      · exact Or.inr ⟨u1, u2⟩
    · rw [if_neg k]
      exact Or.inr ⟨rfl, c, by omega, k⟩
theorem g7_spells {b e i : Nat} (hz : z ≤ 160) (hT : ∀ k, k < z → I 38 k = T k) (h4 : I 37 4 = Int32.ofNat b) (h2 : I 37 2 = Int32.ofNat e) (he : e ≤ z) (hi : i < 12) (hbe : b ≤ e) : f7_spells I i = some (if zKi T b e = i then 1 else 0) := by
  obtain ⟨s1, s2, s3⟩ := zSl_all i hi
  have el := zofn_i (m := zSlen.getD i 0) (by omega)
  have eb := zofn_i (m := b) (by omega)
  have ee := zofn_i (m := e) (by omega)
  have ed : (Int32.ofNat e - Int32.ofNat b).toInt = ((e - b : Nat) : Int) := by rw [zsub (by omega) (by omega)]; omega
  unfold f7_spells
  rw [if_pos (decide_eq_true hi), s1, zb_some, h2, h4]
  by_cases c : e - b = zSlen.getD i 0
  · rw [if_pos (by rw [zeq_iff]; omega)]
    rcases g7_spellL hz hT h4 he hi c hbe (zSlen.getD i 0) zF 0 (by omega) (by unfold zF; omega) with ⟨u1, u2⟩ | ⟨u1, x, u2, u3⟩
    · rw [show (0 : Int32) = Int32.ofNat 0 from rfl, u1, if_pos ((zKi_iff hi).mp (zKm_iff.mpr ⟨c, fun x hx => u2 x (Nat.zero_le _) hx⟩))]
    · rw [show (0 : Int32) = Int32.ofNat 0 from rfl, u1, if_neg (fun q => u3 ((zKm_iff.mp ((zKi_iff hi).mpr q)).2 x u2))]
      rfl
  · rw [if_neg (by rw [zeq_iff]; omega), if_neg (fun q => c (zKm_iff.mp ((zKi_iff hi).mpr q)).1)]
theorem g7_takeWord39 {b e : Nat} (hz : z ≤ 160) (hT : ∀ k, k < z → I 38 k = T k) (h4 : I 37 4 = Int32.ofNat b) (h2 : I 37 2 = Int32.ofNat e) (he : e ≤ z) (hbe : b ≤ e) : ∃ I', f7_takeWord_B39 I = some I' ∧ I' 37 3 = zKc (zKi T b e) ∧ (zKc (zKi T b e) = 3 → I' 37 5 = 5 - Int32.ofNat (zKi T b e)) ∧ (∀ j, j ≠ 3 → j ≠ 5 → I' 37 j = I 37 j) ∧ ∀ b, b ≠ 37 → I' b = I b := by
  have s0 : ∀ i, i < 12 → f7_spells I i = some (if zKi T b e = i then 1 else 0) := fun i hi => g7_spells hz hT h4 h2 he hi hbe
  have s1 : ∀ i s, i < 12 → f7_spells (uI I 37 3 s) i = some (if zKi T b e = i then 1 else 0) := fun i s hi => g7_spells hz (fun k hk => by rw [uI_ne (by decide)]; exact hT k hk) (by rw [uI_off (by decide)]; exact h4) (by rw [uI_off (by decide)]; exact h2) he hi hbe
  have hle := zKi_le (T := T) (b := b) (e := e)
  have key : ∀ v : Int32, (zKi T b e < 6 ∨ zKi T b e = 12) → ∃ I', f7_takeWord_B123 v I = some I' ∧ I' 37 3 = v ∧ (∀ j, j ≠ 3 → j ≠ 5 → I' 37 j = I 37 j) ∧ ∀ b, b ≠ 37 → I' b = I b := fun v h => by
    refine ⟨uI I 37 3 v, ?_, uI_at, fun j h1 _ => uI_off h1, fun b hb => uI_ne hb⟩
    unfold f7_takeWord_B123
    rw [zl_eq, s1 6 v (by decide), zb_some, if_neg (show ¬ zKi T b e = 6 by omega), if_pos rfl, s1 7 v (by decide), zb_some, if_neg (show ¬ zKi T b e = 7 by omega), if_pos rfl, s1 8 v (by decide), zb_some, if_neg (show ¬ zKi T b e = 8 by omega), if_pos rfl, s1 9 v (by decide), zb_some, if_neg (show ¬ zKi T b e = 9 by omega), if_pos rfl, s1 10 v (by decide), zb_some, if_neg (show ¬ zKi T b e = 10 by omega), if_pos rfl, s1 11 v (by decide), zb_some, if_neg (show ¬ zKi T b e = 11 by omega), if_pos rfl]
    unfold f7_takeWord_B205
    rw [if_pos rfl]
  by_cases c : zKi T b e < 6
  · have k6 : ∀ v, f7_takeWord_B39 I = f7_takeWord_B123 v I → v = zKc (zKi T b e) → ¬ zKc (zKi T b e) = 3 → ∃ I', f7_takeWord_B39 I = some I' ∧ I' 37 3 = zKc (zKi T b e) ∧ (zKc (zKi T b e) = 3 → I' 37 5 = 5 - Int32.ofNat (zKi T b e)) ∧ (∀ j, j ≠ 3 → j ≠ 5 → I' 37 j = I 37 j) ∧ ∀ b, b ≠ 37 → I' b = I b := fun v h1 h2 h3 => by
      obtain ⟨I', u1, u2, u3, u4⟩ := key v (Or.inl c)
      exact ⟨I', by rw [h1, u1], by rw [u2, h2], fun q => absurd q h3, u3, u4⟩
    rcases (show zKi T b e = 0 ∨ zKi T b e = 1 ∨ zKi T b e = 2 ∨ zKi T b e = 3 ∨ zKi T b e = 4 ∨ zKi T b e = 5 by omega) with q | q | q | q | q | q
    · refine k6 4 ?_ (by rw [q]; rfl) (by rw [q]; decide)
      unfold f7_takeWord_B39
      rw [s0 0 (by decide), q]
      rfl
    · refine k6 5 ?_ (by rw [q]; rfl) (by rw [q]; decide)
      unfold f7_takeWord_B39
      rw [s0 0 (by decide), s0 1 (by decide), q]
      rfl
    · refine k6 6 ?_ (by rw [q]; rfl) (by rw [q]; decide)
      unfold f7_takeWord_B39
      rw [s0 0 (by decide), s0 1 (by decide), s0 2 (by decide), q]
      rfl
    · refine k6 7 ?_ (by rw [q]; rfl) (by rw [q]; decide)
      unfold f7_takeWord_B39
      rw [s0 0 (by decide), s0 1 (by decide), s0 2 (by decide), s0 3 (by decide), q]
      rfl
    · refine k6 8 ?_ (by rw [q]; rfl) (by rw [q]; decide)
      unfold f7_takeWord_B39
      rw [s0 0 (by decide), s0 1 (by decide), s0 2 (by decide), s0 3 (by decide), s0 4 (by decide), q]
      rfl
    · refine k6 9 ?_ (by rw [q]; rfl) (by rw [q]; decide)
      unfold f7_takeWord_B39
      rw [s0 0 (by decide), s0 1 (by decide), s0 2 (by decide), s0 3 (by decide), s0 4 (by decide), s0 5 (by decide), q]
      rfl
  · have F : f7_takeWord_B39 I = f7_takeWord_B123 1 I := by
      unfold f7_takeWord_B39
      rw [s0 0 (by decide), zb_some, if_neg (show ¬ zKi T b e = 0 by omega), if_pos rfl, s0 1 (by decide), zb_some, if_neg (show ¬ zKi T b e = 1 by omega), if_pos rfl, s0 2 (by decide), zb_some, if_neg (show ¬ zKi T b e = 2 by omega), if_pos rfl, s0 3 (by decide), zb_some, if_neg (show ¬ zKi T b e = 3 by omega), if_pos rfl, s0 4 (by decide), zb_some, if_neg (show ¬ zKi T b e = 4 by omega), if_pos rfl, s0 5 (by decide), zb_some, if_neg (show ¬ zKi T b e = 5 by omega), if_pos rfl]
    by_cases c12 : zKi T b e = 12
    · obtain ⟨I', u1, u2, u3, u4⟩ := key 1 (Or.inr c12)
      exact ⟨I', by rw [F, u1], by rw [u2, c12]; rfl, fun q => by rw [c12] at q; exact absurd q (by decide), u3, u4⟩
    · have kc : zKc (zKi T b e) = 3 := by
        unfold zKc
        rw [if_neg c, if_pos (by omega)]
      have k6 : ∀ v, f7_takeWord_B123 1 I = f7_takeWord_B205 v (uI I 37 3 1) → ¬ v = -1 → (-1 : Int32) - v = 5 - Int32.ofNat (zKi T b e) → ∃ I', f7_takeWord_B39 I = some I' ∧ I' 37 3 = zKc (zKi T b e) ∧ (zKc (zKi T b e) = 3 → I' 37 5 = 5 - Int32.ofNat (zKi T b e)) ∧ (∀ j, j ≠ 3 → j ≠ 5 → I' 37 j = I 37 j) ∧ ∀ b, b ≠ 37 → I' b = I b := fun v h1 h2 h3 => by
        refine ⟨uI (uI (uI I 37 3 1) 37 3 3) 37 5 (-1 - v), ?_, by rw [uI_off (by decide), uI_at, kc], fun _ => by rw [uI_at, h3], fun j h1 h2 => by rw [uI_off h2, uI_off h1, uI_off h1], fun b hb => by rw [uI_ne hb, uI_ne hb, uI_ne hb]⟩
        rw [F, h1]
        unfold f7_takeWord_B205
        rw [if_neg h2, zl_eq, zl_eq]
      rcases (show zKi T b e = 6 ∨ zKi T b e = 7 ∨ zKi T b e = 8 ∨ zKi T b e = 9 ∨ zKi T b e = 10 ∨ zKi T b e = 11 by omega) with q | q | q | q | q | q
      · refine k6 0 ?_ (by decide) (by rw [q]; rfl)
        unfold f7_takeWord_B123
        rw [zl_eq, s1 6 1 (by decide), q]
        rfl
      · refine k6 1 ?_ (by decide) (by rw [q]; rfl)
        unfold f7_takeWord_B123
        rw [zl_eq, s1 6 1 (by decide), s1 7 1 (by decide), q]
        rfl
      · refine k6 2 ?_ (by decide) (by rw [q]; rfl)
        unfold f7_takeWord_B123
        rw [zl_eq, s1 6 1 (by decide), s1 7 1 (by decide), s1 8 1 (by decide), q]
        rfl
      · refine k6 3 ?_ (by decide) (by rw [q]; rfl)
        unfold f7_takeWord_B123
        rw [zl_eq, s1 6 1 (by decide), s1 7 1 (by decide), s1 8 1 (by decide), s1 9 1 (by decide), q]
        rfl
      · refine k6 4 ?_ (by decide) (by rw [q]; rfl)
        unfold f7_takeWord_B123
        rw [zl_eq, s1 6 1 (by decide), s1 7 1 (by decide), s1 8 1 (by decide), s1 9 1 (by decide), s1 10 1 (by decide), q]
        rfl
      · refine k6 5 ?_ (by decide) (by rw [q]; rfl)
        unfold f7_takeWord_B123
        rw [zl_eq, s1 6 1 (by decide), s1 7 1 (by decide), s1 8 1 (by decide), s1 9 1 (by decide), s1 10 1 (by decide), s1 11 1 (by decide), q]
        rfl
/-- the class's next token -/
theorem g7_next {p : Nat} (hz : z ≤ 160) (hp : p ≤ z) (hb : ∀ k, k < z → 0 ≤ (T k).toInt) (h1 : I 37 1 = Int32.ofNat z) (hT : ∀ k, k < z → I 38 k = T k) (h2 : I 37 2 = Int32.ofNat p) : ∃ I', f7_nextToken I = some I' ∧ I' 37 2 = Int32.ofNat (zKe T z p) ∧ I' 37 3 = zKk T z p ∧ I' 37 4 = Int32.ofNat (zKb T z p) ∧ (zKk T z p = 2 ∨ zKk T z p = 3 → I' 37 5 = zKw T z p) ∧ (∀ j, j ≠ 2 → j ≠ 3 → j ≠ 4 → j ≠ 5 → I' 37 j = I 37 j) ∧ ∀ b, b ≠ 37 → I' b = I b := by
  obtain ⟨K, k1, k2, k3, k4⟩ := g7_skip (k51 := f7_nextToken_B51) (T := T) hz (z - p) zF p 0 I rfl hp (by rw [z0]; omega) (by rw [z0]; omega) (by unfold zF; omega) h1 hT h2
  have rb := zKb_r (T := T) hp
  have re := zKe_r (T := T) hp
  have eB : zKsk T (z - p) p = zKb T z p := rfl
  rw [eB] at k2
  obtain ⟨M, hM⟩ : ∃ M, uI K 37 4 (K 37 2) = M := ⟨_, rfl⟩
  have M2 : M 37 2 = Int32.ofNat (zKb T z p) := by rw [← hM, uI_off (by decide), k2]
  have M4 : M 37 4 = Int32.ofNat (zKb T z p) := by rw [← hM, uI_at, k2]
  have M1 : M 37 1 = Int32.ofNat z := by rw [← hM, uI_off (by decide), k3 1 (by decide), h1]
  have MT : ∀ k, k < z → M 38 k = T k := fun k hk => by rw [← hM, uI_ne (by decide), k4 38 (by decide), hT k hk]
  have Mj : ∀ j, j ≠ 2 → j ≠ 4 → M 37 j = I 37 j := fun j y1 y2 => by rw [← hM, uI_off y2, k3 j y1]
  have Mb : ∀ b, b ≠ 37 → M b = I b := fun b y => by rw [← hM, uI_ne y, k4 b y]
  have F : f7_nextToken I = zb (f7_byteAt M (M 37 2)) fun p12 => if p12 = (-1 : Int32) then zl (uI M 37 3 (0 : Int32)) fun J35 => some (J35) else
      zb (f7_isLetter p12) fun p15 => if p15 = (0 : Int32) then zb (f7_isDigit p12) fun p18 => if p18 = (0 : Int32) then zl (uI M 37 2 ((M 37 2) + (1 : Int32))) fun J21 =>
      zb (f7_isSign p12) fun p23 => zl (if p23 = (0 : Int32) then ((1 : Int32)) else (p12)) fun x26 => zl (uI J21 37 3 x26) fun J28 => some (J28)
      else zb (f7_takeNumber M) fun p31 => some (p31) else zb (f7_takeWord M) fun p33 => some (p33) := by
    unfold f7_nextToken
    rw [k1]
    unfold f7_nextToken_B51
    rw [zl_eq, hM]
  rw [F, M2, g7_byte hz M1 MT (by omega), zb_some]
  unfold zKk zKw
  by_cases c : z ≤ zKb T z p
  · have e0 : zKe T z p = zKb T z p := by unfold zKe; rw [if_pos c]
    have B : (if zKb T z p < z then T (zKb T z p) else (-1 : Int32)) = -1 := if_neg (by omega)
    rw [B, if_pos rfl, zl_eq, if_pos c]
    refine ⟨_, rfl, by rw [uI_off (by decide), M2, e0], by rw [uI_at], by rw [uI_off (by decide), M4], fun q => by rcases q with q | q <;> exact absurd q (by decide), fun j y1 y2 y3 y4 => by rw [uI_off y2, Mj j y1 y3], fun b y => by rw [uI_ne y, Mb b y]⟩
  · have ht := hb _ (show zKb T z p < z by omega)
    have nm : ¬ T (zKb T z p) = -1 := by
      rw [zeq_iff, znm1]
      omega
    have B : (if zKb T z p < z then T (zKb T z p) else (-1 : Int32)) = T (zKb T z p) := if_pos (by omega)
    rw [B, if_neg nm, if_neg c, g7_isLetter, zb_some, g7_isDigit]
    simp only [zB_0]
    by_cases c1 : zKlt (T (zKb T z p))
    · have e0 : zKe T z p = zKrl T 97 122 (z - zKb T z p) (zKb T z p) := by unfold zKe; rw [if_neg c, if_pos c1]
      obtain ⟨W, w1, w2, w3, w4⟩ := g7_word (k39 := f7_takeWord_B39) (T := T) hz (z - zKb T z p) zF (zKb T z p) 0 M rfl rb.2 (by rw [z0]; omega) (by rw [z0]; omega) (by unfold zF; omega) M1 MT M2
      rw [← e0] at w2
      obtain ⟨V, v1, v2, v3, v4, v5⟩ := g7_takeWord39 (T := T) (I := W) (b := zKb T z p) (e := zKe T z p) hz (fun k hk => by rw [w4 38 (by decide)]; exact MT k hk) (by rw [w3 4 (by decide), M4]) w2 re.2.1 re.1
      rw [if_neg (not_not_intro c1), if_pos c1, if_pos c1]
      unfold f7_takeWord
      rw [w1, v1, zb_some]
      refine ⟨V, rfl, by rw [v4 2 (by decide) (by decide), w2], v2, by rw [v4 4 (by decide) (by decide), w3 4 (by decide), M4], fun q => ?_, fun j y1 y2 y3 y4 => by rw [v4 j y2 y4, w3 j y1, Mj j y1 y3], fun b y => by rw [v5 b y, w4 b y, Mb b y]⟩
      rcases q with q | q
      · exfalso
        revert q
        unfold zKc
        have hle := zKi_le (T := T) (b := zKb T z p) (e := zKe T z p)
        rcases (show zKi T (zKb T z p) (zKe T z p) = 0 ∨ zKi T (zKb T z p) (zKe T z p) = 1 ∨ zKi T (zKb T z p) (zKe T z p) = 2 ∨ zKi T (zKb T z p) (zKe T z p) = 3 ∨ zKi T (zKb T z p) (zKe T z p) = 4 ∨ zKi T (zKb T z p) (zKe T z p) = 5 ∨ zKi T (zKb T z p) (zKe T z p) = 6 ∨ zKi T (zKb T z p) (zKe T z p) = 7 ∨ zKi T (zKb T z p) (zKe T z p) = 8 ∨ zKi T (zKb T z p) (zKe T z p) = 9 ∨ zKi T (zKb T z p) (zKe T z p) = 10 ∨ zKi T (zKb T z p) (zKe T z p) = 11 ∨ zKi T (zKb T z p) (zKe T z p) = 12 by omega) with k | k | k | k | k | k | k | k | k | k | k | k | k <;> rw [k] <;> decide
      · exact v3 q
    · rw [if_pos c1, if_neg c1, if_neg c1]
      by_cases c2 : zKdg (T (zKb T z p))
      · have e0 : zKe T z p = zKrl T 48 57 (z - zKb T z p) (zKb T z p) := by unfold zKe; rw [if_neg c, if_neg c1, if_pos c2]
        obtain ⟨W, w1, w2, w3, w4⟩ := g7_digits (k58 := f7_takeNumber_B58) (T := T) hz (z - zKb T z p) zF (zKb T z p) 0 0 M rfl rb.2 (by rw [z0]; omega) (by rw [z0]; omega) (by unfold zF; omega) M1 MT M2
        rw [← e0] at w1 w2
        have eb := zofn_i (m := zKb T z p) (by omega)
        have ee := zofn_i (m := zKe T z p) (by omega)
        have ed : (W 37 2 - W 37 4).toInt = ((zKe T z p - zKb T z p : Nat) : Int) := by rw [w2, w3 4 (by decide), M4, zsub (by omega) (by omega)]; omega
        have hx : (if W 37 2 - W 37 4 ≤ (4 : Int32) then (2 : Int32) else 1) = if zKe T z p - zKb T z p ≤ 4 then 2 else 1 := by
          by_cases k : zKe T z p - zKb T z p ≤ 4
          · rw [if_pos k, if_pos (by rw [zle_iff, ed, zn4i]; omega)]
          · rw [if_neg k, if_neg (by rw [zle_iff, ed, zn4i]; omega)]
        rw [if_pos c2, zb_some]
        simp only [zB_0]
        rw [if_neg (not_not_intro c2)]
        unfold f7_takeNumber
        rw [w1]
        unfold f7_takeNumber_B58
        rw [hx, zl_eq, zl_eq, zl_eq, zb_some]
        exact ⟨_, rfl, by rw [uI_off (by decide), uI_off (by decide), w2], by rw [uI_off (by decide), uI_at], by rw [uI_off (by decide), uI_off (by decide), w3 4 (by decide), M4], fun _ => by rw [uI_at], fun j y1 y2 y3 y4 => by rw [uI_off y4, uI_off y2, w3 j y1, Mj j y1 y3], fun b y => by rw [uI_ne y, uI_ne y, w4 b y, Mb b y]⟩
      · have e0 : zKe T z p = zKb T z p + 1 := by unfold zKe; rw [if_neg c, if_neg c1, if_neg c2]
        rw [if_neg c2, zb_some]
        simp only [zB_0]
        rw [if_pos c2, zl_eq, g7_isSign, zb_some, zl_eq, zl_eq]
        simp only [zB_0]
        have hx : (if ¬ zKsg (T (zKb T z p)) then (1 : Int32) else T (zKb T z p)) = if zKsg (T (zKb T z p)) then T (zKb T z p) else 1 := by
          by_cases k : zKsg (T (zKb T z p))
          · rw [if_neg (not_not_intro k), if_pos k]
          · rw [if_pos k, if_neg k]
        rw [hx]
        refine ⟨_, rfl, by rw [uI_off (by decide), uI_at, zofs (by omega), e0], by rw [uI_at], by rw [uI_off (by decide), uI_off (by decide), M4], fun q => ?_, fun j y1 y2 y3 y4 => by rw [uI_off y2, uI_off y1, Mj j y1 y3], fun b y => by rw [uI_ne y, uI_ne y, Mb b y]⟩
        exfalso
        by_cases k : zKsg (T (zKb T z p))
        · rw [if_pos k] at q
          rcases k with k | k | k | k | k | k | k | k <;> rw [k] at q <;> revert q <;> decide
        · rw [if_neg k] at q
          revert q
          decide
end
