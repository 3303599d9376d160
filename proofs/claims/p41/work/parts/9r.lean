/-! pure part: the reference's next token -/
def zKr (k : Int32) : Int32 := if k = 1 then -1 else if k = 2 then 1 else if k = 3 then 2 else if k = 4 ∨ k = 5 ∨ k = 6 then 3 else if k = 7 then 4 else if k = 8 then 5 else if k = 9 then 6 else k
/-- which of the class's words the reference's word k is -/
def zKo (k : Nat) : Nat := [0, 1, 2, 6, 7, 8, 9, 10, 11, 3, 4, 5].getD k 0
theorem zofle {a b : Nat} (ha : a < 1000000) (hb : b < 1000000) : Int32.ofNat a ≤ Int32.ofNat b ↔ a ≤ b := by
  rw [zle_iff, zofn_i ha, zofn_i hb]
  omega
theorem zofeq {a b : Nat} (ha : a < 1000000) (hb : b < 1000000) : Int32.ofNat a = Int32.ofNat b ↔ a = b := by
  rw [zeq_iff, zofn_i ha, zofn_i hb]
  omega
theorem zKo_all : ∀ k, k < 12 → zKo k < 12 ∧ ∀ x, x < 8 → zTw (8 * k + x) = if x < zSlen.getD (zKo k) 0 then (zSbyt.getD (zKo k) []).getD x 0 else 32 := by decide +kernel
theorem zKo_on : ∀ i, i < 12 → ∃ k, k < 12 ∧ zKo k = i := by decide +kernel
/-- eight bytes like, or the word -/
theorem zKm_8 {T : Nat → Int32} {b e k : Nat} (hk : k < 12) (hbe : b ≤ e) (hl : ∀ i, b ≤ i → i < e → 97 ≤ (T i).toInt ∧ (T i).toInt ≤ 122) : (e - b ≤ 8 ∧ ∀ x, x < 8 → zTw (8 * k + x) = if e ≤ b + x then 32 else T (b + x)) ↔ zKm T b e (zKo k) = true := by
  obtain ⟨k1, k2⟩ := zKo_all k hk
  obtain ⟨-, s2, s3⟩ := zSl_all (zKo k) k1
  have z32 : (32 : Int32).toInt = 32 := rfl
  rw [zKm_iff]
  constructor
  · intro ⟨h1, h2⟩
    have hlen : e - b = zSlen.getD (zKo k) 0 := by
      rcases Nat.lt_trichotomy (e - b) (zSlen.getD (zKo k) 0) with q | q | q
      · exfalso
        have a := h2 (e - b) (by omega)
        rw [k2 _ (by omega), if_pos q, if_pos (by omega)] at a
        have := (zSc_all (zKo k) k1 (e - b) (by omega) q).2.1
        rw [a, z32] at this
        omega
      · exact q
      · exfalso
        have a := h2 (zSlen.getD (zKo k) 0) (by omega)
        rw [k2 _ (by omega), if_neg (by omega), if_neg (by omega)] at a
        have := (hl (b + zSlen.getD (zKo k) 0) (by omega) (by omega)).1
        rw [← a, z32] at this
        omega
    refine ⟨hlen, fun c hc => ?_⟩
    have a := h2 c (by omega)
    rw [k2 _ (by omega), if_pos hc, if_neg (by omega)] at a
    exact a.symm
  · intro ⟨h1, h2⟩
    refine ⟨by omega, fun x hx => ?_⟩
    rw [k2 x hx]
    by_cases q : x < zSlen.getD (zKo k) 0
    · rw [if_pos q, if_neg (by omega), h2 x q]
    · rw [if_neg q, if_pos (by omega)]
section
variable {T : Nat → Int32} {z : Nat} {J : zMI}
theorem g12_inl (c : Int32) : f12_in c 97 122 = some (zB (zKlt c)) := g12_in c 97 122
theorem g12_ind (c : Int32) : f12_in c 48 57 = some (zB (zKdg c)) := g12_in c 48 57
theorem g12_skip {k52 : zMI → Option zMI} (hz : z ≤ 160) : ∀ (d q p : Nat) (J : zMI), z - p = d → p ≤ z → d < q → J 81 8 = Int32.ofNat z → (∀ k, k < z → J 87 k = T k) → J 81 22 = Int32.ofNat p →
    ∃ J', f12_next_L0 k52 q J = k52 J' ∧ J' 81 22 = Int32.ofNat (zKsk T d p) ∧ (∀ j, j ≠ 22 → J' 81 j = J 81 j) ∧ ∀ b, b ≠ 81 → J' b = J b := by
  intro d
  induction d with
  | zero =>
    intro q p J hd hp hq h8 hT h22
    obtain ⟨q, rfl⟩ : ∃ x, q = x + 1 := ⟨q - 1, by omega⟩
    refine ⟨J, ?_, h22, fun _ _ => rfl, fun _ _ => rfl⟩
    rw [f12_next_L0]
    rw [h8, h22, if_pos ((zofle (by omega) (by omega)).mpr (by omega))]
  | succ d ih =>
    intro q p J hd hp hq h8 hT h22
    obtain ⟨q, rfl⟩ : ∃ x, q = x + 1 := ⟨q - 1, by omega⟩
    have ep := zofn_i (m := p) (by omega)
    rw [f12_next_L0, zKsk]
    rw [h8, h22, if_neg (fun y => by have := (zofle (by omega) (by omega)).mp y; omega), if_pos (zib_ok (by omega) (by omega)), zofn_n (by omega), hT p (by omega)]
    have step : ∃ J', f12_next_B39 (f12_next_L0 k52 q) J = k52 J' ∧ J' 81 22 = Int32.ofNat (zKsk T d (p + 1)) ∧ (∀ j, j ≠ 22 → J' 81 j = J 81 j) ∧ ∀ b, b ≠ 81 → J' b = J b := by
      obtain ⟨J', u1, u2, u3, u4⟩ := ih q (p + 1) (uI J 81 22 (J 81 22 + 1)) (by omega) (by omega) (by omega) (by rw [uI_off (by decide)]; exact h8) (fun k hk => by rw [uI_ne (by decide)]; exact hT k hk) (by rw [uI_at, h22, zofs (by omega)])
      refine ⟨J', ?_, u2, fun j hj => by rw [u3 j hj, uI_off hj], fun b hb => by rw [u4 b hb, uI_ne hb]⟩
      unfold f12_next_B39
      rw [zl_eq]
      exact u1
    by_cases c : T p = 32
    · rw [if_pos c, if_pos (Or.inl c)]
      exact step
    · rw [if_neg c]
      by_cases c2 : T p = 10
      · rw [if_pos c2, if_pos (Or.inr c2)]
        exact step
      · rw [if_neg c2, if_neg (fun q => q.elim c c2)]
        exact ⟨J, rfl, h22, fun _ _ => rfl, fun _ _ => rfl⟩
theorem g12_letters {k146 : zMI → Option zMI} (hz : z ≤ 160) : ∀ (d q p : Nat) (J : zMI), z - p = d → p ≤ z → d < q → J 81 8 = Int32.ofNat z → (∀ k, k < z → J 87 k = T k) → J 81 22 = Int32.ofNat p →
    ∃ J', f12_next_L103 k146 q J = k146 J' ∧ J' 81 22 = Int32.ofNat (zKrl T 97 122 d p) ∧ (∀ j, j ≠ 22 → J' 81 j = J 81 j) ∧ ∀ b, b ≠ 81 → J' b = J b := by
  intro d
  induction d with
  | zero =>
    intro q p J hd hp hq h8 hT h22
    obtain ⟨q, rfl⟩ : ∃ x, q = x + 1 := ⟨q - 1, by omega⟩
    refine ⟨J, ?_, h22, fun _ _ => rfl, fun _ _ => rfl⟩
    rw [f12_next_L103]
    rw [h8, h22, if_pos ((zofle (by omega) (by omega)).mpr (by omega))]
  | succ d ih =>
    intro q p J hd hp hq h8 hT h22
    obtain ⟨q, rfl⟩ : ∃ x, q = x + 1 := ⟨q - 1, by omega⟩
    have ep := zofn_i (m := p) (by omega)
    rw [f12_next_L103, zKrl]
    rw [h8, h22, if_neg (fun y => by have := (zofle (by omega) (by omega)).mp y; omega), if_pos (zib_ok (by omega) (by omega)), zofn_n (by omega), hT p (by omega), g12_inl, zb_some]
    simp only [zB_0]
    by_cases c : zKlt (T p)
    · rw [if_neg (not_not_intro c), if_pos c, zl_eq]
      obtain ⟨J', u1, u2, u3, u4⟩ := ih q (p + 1) (uI J 81 22 (J 81 22 + 1)) (by omega) (by omega) (by omega) (by rw [uI_off (by decide)]; exact h8) (fun k hk => by rw [uI_ne (by decide)]; exact hT k hk) (by rw [uI_at, h22, zofs (by omega)])
      rw [h22] at u1
      exact ⟨J', u1, u2, fun j hj => by rw [u3 j hj, uI_off hj], fun b hb => by rw [u4 b hb, uI_ne hb]⟩
    · rw [if_pos c, if_neg c]
      exact ⟨J, rfl, h22, fun _ _ => rfl, fun _ _ => rfl⟩
theorem g12_digits {k309 : Int32 → zMI → Option zMI} (hz : z ≤ 160) : ∀ (d q p m : Nat) (l2 : Int32) (J : zMI), z - p = d → p ≤ z → d < q → l2.toInt = (m : Int) → m ≤ p → J 81 8 = Int32.ofNat z → (∀ k, k < z → J 87 k = T k) → J 81 22 = Int32.ofNat p →
    ∃ l2' J', f12_next_L230 k309 q l2 J = k309 l2' J' ∧ l2'.toInt = ((m + (zKrl T 48 57 d p - p) : Nat) : Int) ∧ J' 81 22 = Int32.ofNat (zKrl T 48 57 d p) ∧ (m + (zKrl T 48 57 d p - p) ≤ 4 → J' 81 25 = zKvl T (zKrl T 48 57 d p - p) p (J 81 25)) ∧ (∀ j, j ≠ 22 → j ≠ 25 → J' 81 j = J 81 j) ∧ ∀ b, b ≠ 81 → J' b = J b := by
  intro d
  induction d with
  | zero =>
    intro q p m l2 J hd hp hq hl hm h8 hT h22
    obtain ⟨q, rfl⟩ : ∃ x, q = x + 1 := ⟨q - 1, by omega⟩
    rw [zKrl]
    refine ⟨l2, J, ?_, by rw [hl]; omega, h22, fun _ => by rw [Nat.sub_self, zKvl], fun _ _ _ => rfl, fun _ _ => rfl⟩
    rw [f12_next_L230]
    rw [h8, h22, if_pos ((zofle (by omega) (by omega)).mpr (by omega))]
  | succ d ih =>
    intro q p m l2 J hd hp hq hl hm h8 hT h22
    obtain ⟨q, rfl⟩ : ∃ x, q = x + 1 := ⟨q - 1, by omega⟩
    have ep := zofn_i (m := p) (by omega)
    have es : (l2 + 1).toInt = ((m + 1 : Nat) : Int) := by rw [zadd (by rw [z1]; omega) (by rw [z1]; omega), z1]; omega
    rw [f12_next_L230, zKrl]
    rw [h8, h22, if_neg (fun y => by have := (zofle (by omega) (by omega)).mp y; omega), if_pos (zib_ok (by omega) (by omega)), zofn_n (by omega), hT p (by omega), g12_ind, zb_some]
    simp only [zB_0]
    by_cases c : zKdg (T p)
    · rw [if_neg (not_not_intro c), if_pos c, zl_eq, zl_eq, zl_eq]
      have r := (zKrl_r (T := T) (lo := 48) (hi := 57) d (p + 1)).1
      obtain ⟨x, ex⟩ : ∃ x, (if (4 : Int32) ≤ l2 then (0 : Int32) else (10 : Int32) * J 81 25 + T p - 48) = x := ⟨_, rfl⟩
      rw [ex]
      have f22 : uI J 81 25 x 81 22 = J 81 22 := uI_off (by decide)
      obtain ⟨l2', J', u1, u2, u3, u4, u5, u6⟩ := ih q (p + 1) (m + 1) (l2 + 1) (uI (uI J 81 25 x) 81 22 (uI J 81 25 x 81 22 + 1)) (by omega) (by omega) (by omega) es (by omega) (by rw [uI_off (by decide), uI_off (by decide)]; exact h8) (fun k hk => by rw [uI_ne (by decide), uI_ne (by decide)]; exact hT k hk) (by rw [uI_at, f22, h22, zofs (by omega)])
      refine ⟨l2', J', u1, by rw [u2]; omega, u3, fun h => ?_, fun j h1 h2 => by rw [u5 j h1 h2, uI_off h1, uI_off h2], fun b hb => by rw [u6 b hb, uI_ne hb, uI_ne hb]⟩
      rw [u4 (by omega), uI_off (by decide), uI_at, show zKrl T 48 57 d (p + 1) - p = (zKrl T 48 57 d (p + 1) - (p + 1)) + 1 by omega, zKvl, ← ex, if_neg (by rw [zle_iff, zn4i]; omega), Int32.mul_comm]
    · rw [if_pos c, if_neg c]
      exact ⟨l2, J, rfl, by rw [hl]; omega, h22, fun _ => by rw [Nat.sub_self, zKvl], fun _ _ _ => rfl, fun _ _ => rfl⟩
theorem g12_word26 {k88 : Int32 → Int32 → Int32 → Int32 → Option Int32} {b e k : Nat} (hz : z ≤ 160) (hT : ∀ k, k < z → J 87 k = T k) (hW : ∀ j, j < 96 → J 95 j = zTw j) (he : e ≤ z) (hbe : b ≤ e) (hk : k < 12) : ∀ (d q c : Nat) (l4 : Int32), c + d = 8 → d < q → (l4 = 0 ∨ l4 = 1) →
    (f12_wordFrom_L26 J k88 q (Int32.ofNat b) (Int32.ofNat e) (Int32.ofNat k) l4 (Int32.ofNat c) = k88 (Int32.ofNat b) (Int32.ofNat e) (Int32.ofNat k) 1 ∧ l4 = 1 ∧ ∀ x, c ≤ x → x < 8 → zTw (8 * k + x) = if e ≤ b + x then 32 else T (b + x)) ∨
    (f12_wordFrom_L26 J k88 q (Int32.ofNat b) (Int32.ofNat e) (Int32.ofNat k) l4 (Int32.ofNat c) = k88 (Int32.ofNat b) (Int32.ofNat e) (Int32.ofNat k) 0 ∧ (l4 = 0 ∨ ∃ x, x < 8 ∧ ¬ zTw (8 * k + x) = if e ≤ b + x then 32 else T (b + x))) := by
  have z8 : (8 : Int32).toInt = 8 := rfl
  have eb := zofn_i (m := b) (by omega)
  have ee := zofn_i (m := e) (by omega)
  have ek := zofn_i (m := k) (by omega)
  intro d
  induction d with
  | zero =>
    intro q c l4 hc hq h4
    obtain ⟨q, rfl⟩ : ∃ x, q = x + 1 := ⟨q - 1, by omega⟩
    have ec := zofn_i (m := c) (by omega)
    have F : f12_wordFrom_L26 J k88 (q + 1) (Int32.ofNat b) (Int32.ofNat e) (Int32.ofNat k) l4 (Int32.ofNat c) = k88 (Int32.ofNat b) (Int32.ofNat e) (Int32.ofNat k) l4 := by
      rw [f12_wordFrom_L26]
      rw [if_pos (by rw [zle_iff, z8]; omega)]
    rw [F]
    rcases h4 with h4 | h4
    · rw [h4]
      exact Or.inr ⟨rfl, Or.inl rfl⟩
    · rw [h4]
      exact Or.inl ⟨rfl, rfl, fun x h1 h2 => by omega⟩
  | succ d ih =>
    intro q c l4 hc hq h4
    obtain ⟨q, rfl⟩ : ∃ x, q = x + 1 := ⟨q - 1, by omega⟩
    have ec := zofn_i (m := c) (by omega)
    have e8 : ((8 : Int32) * Int32.ofNat k).toInt = 8 * (k : Int) := by rw [zmul (by rw [z8]; omega) (by rw [z8]; omega), z8, ek]
    have e8c : ((8 : Int32) * Int32.ofNat k + Int32.ofNat c).toInt = ((8 * k + c : Nat) : Int) := by rw [zadd (by omega) (by omega)]; omega
    have n8c : ((8 : Int32) * Int32.ofNat k + Int32.ofNat c).toNatClampNeg = 8 * k + c := by rw [zcl_iff, e8c]; omega
    have ebc : (Int32.ofNat b + Int32.ofNat c).toInt = ((b + c : Nat) : Int) := by rw [zadd (by omega) (by omega)]; omega
    have nbc : (Int32.ofNat b + Int32.ofNat c).toNatClampNeg = b + c := by rw [zcl_iff, ebc]; omega
    rw [f12_wordFrom_L26]
    rw [if_neg (by rw [zle_iff, z8]; omega)]
    by_cases c0 : l4 = 0
    · rw [if_pos c0, c0]
      exact Or.inr ⟨rfl, Or.inl rfl⟩
    · rw [if_neg c0, if_pos (zib_ok (by omega) (by omega))]
      have hx : (if Int32.ofNat e ≤ Int32.ofNat b + Int32.ofNat c then some (32 : Int32) else if zib (Int32.ofNat b + Int32.ofNat c) 160 = true then some (J 87 (Int32.ofNat b + Int32.ofNat c).toNatClampNeg) else none) = some (if e ≤ b + c then 32 else T (b + c)) := by
        by_cases y : e ≤ b + c
        · rw [if_pos (by rw [zle_iff]; omega), if_pos y]
        · rw [if_neg (by rw [zle_iff]; omega), if_pos (zib_ok (by omega) (by omega)), nbc, hT _ (by omega), if_neg y]
      rw [hx, zb_some, zl_eq, n8c, hW _ (by omega), zofs (by omega)]
      by_cases y : zTw (8 * k + c) = if e ≤ b + c then 32 else T (b + c)
      · rw [if_pos y]
        rcases ih q (c + 1) 1 (by omega) (by omega) (Or.inr rfl) with ⟨u1, -, u2⟩ | ⟨u1, u2⟩
        · refine Or.inl ⟨u1, h4.resolve_left c0, fun x h1 h2 => ?_⟩
          by_cases v : x = c
          · rw [v]; exact y
          · exact u2 x (by omega) h2
        · exact Or.inr ⟨u1, Or.inr (u2.resolve_left (by decide))⟩
      · rw [if_neg y]
        rcases ih q (c + 1) 0 (by omega) (by omega) (Or.inl rfl) with ⟨u1, u2, -⟩ | ⟨u1, u2⟩
        · exact absurd u2 (by decide)
        · exact Or.inr ⟨u1, Or.inr ⟨c, by omega, y⟩⟩
theorem g12_word2 {b e : Nat} (hz : z ≤ 160) (hT : ∀ k, k < z → J 87 k = T k) (hW : ∀ j, j < 96 → J 95 j = zTw j) (he : e ≤ z) (hbe : b ≤ e) (hl : ∀ i, b ≤ i → i < e → 97 ≤ (T i).toInt ∧ (T i).toInt ≤ 122) : ∀ (d q k : Nat), k + d = 12 → d < q →
    ∃ k', f12_wordFrom_L2 J q (Int32.ofNat b) (Int32.ofNat e) (Int32.ofNat k) = some (Int32.ofNat k') ∧ ((k' < 12 ∧ zKm T b e (zKo k') = true) ∨ (k' = 12 ∧ ∀ x, k ≤ x → x < 12 → ¬ zKm T b e (zKo x) = true)) := by
  have z12 : (12 : Int32).toInt = 12 := rfl
  have z8 : (8 : Int32).toInt = 8 := rfl
  have eb := zofn_i (m := b) (by omega)
  have ee := zofn_i (m := e) (by omega)
  have ed : (Int32.ofNat e - Int32.ofNat b).toInt = ((e - b : Nat) : Int) := by rw [zsub (by omega) (by omega)]; omega
  intro d
  induction d with
  | zero =>
    intro q k hk hq
    obtain ⟨q, rfl⟩ : ∃ x, q = x + 1 := ⟨q - 1, by omega⟩
    have ek := zofn_i (m := k) (by omega)
    refine ⟨12, ?_, Or.inr ⟨rfl, fun x h1 h2 => by omega⟩⟩
    rw [f12_wordFrom_L2]
    rw [if_pos (by rw [zle_iff, z12]; omega)]
    rfl
  | succ d ih =>
    intro q k hk hq
    obtain ⟨q, rfl⟩ : ∃ x, q = x + 1 := ⟨q - 1, by omega⟩
    have ek := zofn_i (m := k) (by omega)
    have m8 := zKm_8 (T := T) (b := b) (e := e) (k := k) (by omega) hbe hl
    rw [f12_wordFrom_L2]
    rw [if_neg (by rw [zle_iff, z12]; omega), zl_eq]
    obtain ⟨l, el⟩ : ∃ l, (if (8 : Int32) < Int32.ofNat e - Int32.ofNat b then (0 : Int32) else 1) = l := ⟨_, rfl⟩
    have hl01 : (l = 0 ∧ 8 < e - b) ∨ (l = 1 ∧ e - b ≤ 8) := by
      by_cases y : (8 : Int32) < Int32.ofNat e - Int32.ofNat b
      · rw [if_pos y] at el
        rw [zlt_iff, z8, ed] at y
        exact Or.inl ⟨el.symm, by omega⟩
      · rw [if_neg y] at el
        rw [zlt_iff, z8, ed] at y
        exact Or.inr ⟨el.symm, by omega⟩
    rw [el]
    rcases g12_word26 (k88 := f12_wordFrom_B88 J (f12_wordFrom_L2 J q)) hz hT hW he hbe (show k < 12 by omega) 8 zF 0 l rfl (by unfold zF; omega) (by rcases hl01 with y | y; exact Or.inl y.1; exact Or.inr y.1) with ⟨u1, u2, u3⟩ | ⟨u1, u2⟩
    · refine ⟨k, ?_, Or.inl ⟨by omega, m8.mp ⟨?_, fun x hx => u3 x (Nat.zero_le _) hx⟩⟩⟩
      · rw [show (0 : Int32) = Int32.ofNat 0 from rfl, u1]
        unfold f12_wordFrom_B88
        rw [if_neg (by decide)]
      · rcases hl01 with y | y
        · rw [y.1] at u2
          exact absurd u2 (by decide)
        · exact y.2
    · have nm : ¬ zKm T b e (zKo k) = true := fun y => by
        obtain ⟨y1, y2⟩ := m8.mpr y
        rcases u2 with v | ⟨x, v1, v2⟩
        · rcases hl01 with w | w
          · omega
          · rw [w.1] at v
            exact absurd v (by decide)
        · exact v2 (y2 x v1)
      obtain ⟨k', w1, w2⟩ := ih q (k + 1) (by omega) (by omega)
      refine ⟨k', ?_, ?_⟩
      · rw [show (0 : Int32) = Int32.ofNat 0 from rfl, u1]
        unfold f12_wordFrom_B88
        rw [if_pos rfl, zofs (by omega)]
        exact w1
      · rcases w2 with y | ⟨y1, y2⟩
        · exact Or.inl y
        · refine Or.inr ⟨y1, fun x h1 h2 => ?_⟩
          by_cases v : x = k
          · rw [v]; exact nm
          · exact y2 x (by omega) h2
theorem g12_wordFrom {b e : Nat} (hz : z ≤ 160) (hT : ∀ k, k < z → J 87 k = T k) (hW : ∀ j, j < 96 → J 95 j = zTw j) (he : e ≤ z) (hbe : b ≤ e) (hl : ∀ i, b ≤ i → i < e → 97 ≤ (T i).toInt ∧ (T i).toInt ≤ 122) : ∃ k', f12_wordFrom J (Int32.ofNat b) (Int32.ofNat e) = some (Int32.ofNat k') ∧ ((k' < 12 ∧ zKi T b e = zKo k') ∨ (k' = 12 ∧ zKi T b e = 12)) := by
  obtain ⟨k', u1, u2⟩ := g12_word2 hz hT hW he hbe hl 12 zF 0 rfl (by unfold zF; omega)
  refine ⟨k', by unfold f12_wordFrom; exact u1, ?_⟩
  rcases u2 with ⟨v1, v2⟩ | ⟨v1, v2⟩
  · exact Or.inl ⟨v1, (zKi_iff (zKo_all k' v1).1).mp v2⟩
  · refine Or.inr ⟨v1, ?_⟩
    have hle := zKi_le (T := T) (b := b) (e := e)
    by_cases q : zKi T b e < 12
    · obtain ⟨k, k1, k2⟩ := zKo_on _ q
      exact absurd ((zKi_iff (by rw [k2]; exact q)).mpr k2.symm) (v2 k (Nat.zero_le _) k1)
    · omega
theorem zKt_all : ∀ k, k < 12 → (if (3 : Int32) ≤ Int32.ofNat k then if (9 : Int32) ≤ Int32.ofNat k then if Int32.ofNat k = 12 then (-1 : Int32) else (4 + Int32.ofNat k - 9) else 2 else 3) = zKr (zKc (zKo k)) ∧ (zKc (zKo k) = 3 → (if (3 : Int32) ≤ Int32.ofNat k then Int32.ofNat k - 3 else Int32.ofNat k) = -1 - (5 - Int32.ofNat (zKo k))) ∧ (zKc (zKo k) = 4 ∨ zKc (zKo k) = 5 ∨ zKc (zKo k) = 6 → (if (3 : Int32) ≤ Int32.ofNat k then Int32.ofNat k - 3 else Int32.ofNat k) = zKc (zKo k) - 4) ∧ zKc (zKo k) ≠ 2 := by decide +kernel
/-- the reference's next token -/
theorem g12_next {p : Nat} (hz : z ≤ 160) (hp : p ≤ z) (h8 : J 81 8 = Int32.ofNat z) (hT : ∀ k, k < z → J 87 k = T k) (h22 : J 81 22 = Int32.ofNat p) (hW : ∀ j, j < 96 → J 95 j = zTw j) : ∃ J', f12_next J = some J' ∧ J' 81 22 = Int32.ofNat (zKe T z p) ∧ J' 81 23 = Int32.ofNat (zKb T z p) ∧ J' 81 24 = zKr (zKk T z p) ∧ (zKk T z p = 2 → J' 81 25 = zKw T z p) ∧ (zKk T z p = 3 → J' 81 25 = -1 - zKw T z p) ∧ (zKk T z p = 4 ∨ zKk T z p = 5 ∨ zKk T z p = 6 → J' 81 25 = zKk T z p - 4) ∧ (∀ j, j ≠ 22 → j ≠ 23 → j ≠ 24 → j ≠ 25 → J' 81 j = J 81 j) ∧ ∀ b, b ≠ 81 → J' b = J b := by
  obtain ⟨K, k1, k2, k3, k4⟩ := g12_skip (k52 := f12_next_B52) (T := T) hz (z - p) zF p J rfl hp (by unfold zF; omega) h8 hT h22
  have rb := zKb_r (T := T) hp
  have re := zKe_r (T := T) hp
  have eB : zKsk T (z - p) p = zKb T z p := rfl
  rw [eB] at k2
  obtain ⟨M, hM⟩ : ∃ M, uI (uI (uI K 81 23 (K 81 22)) 81 24 0) 81 25 0 = M := ⟨_, rfl⟩
  have M22 : M 81 22 = Int32.ofNat (zKb T z p) := by rw [← hM, uI_off (by decide), uI_off (by decide), uI_off (by decide), k2]
  have M23 : M 81 23 = Int32.ofNat (zKb T z p) := by rw [← hM, uI_off (by decide), uI_off (by decide), uI_at, k2]
  have M24 : M 81 24 = 0 := by rw [← hM, uI_off (by decide), uI_at]
  have M25 : M 81 25 = 0 := by rw [← hM, uI_at]
  have M8 : M 81 8 = Int32.ofNat z := by rw [← hM, uI_off (by decide), uI_off (by decide), uI_off (by decide), k3 8 (by decide), h8]
  have MT : ∀ k, k < z → M 87 k = T k := fun k hk => by rw [← hM, uI_ne (by decide), uI_ne (by decide), uI_ne (by decide), k4 87 (by decide), hT k hk]
  have MW : ∀ j, j < 96 → M 95 j = zTw j := fun k hk => by rw [← hM, uI_ne (by decide), uI_ne (by decide), uI_ne (by decide), k4 95 (by decide), hW k hk]
  have Mj : ∀ j, j ≠ 22 → j ≠ 23 → j ≠ 24 → j ≠ 25 → M 81 j = J 81 j := fun j y1 y2 y3 y4 => by rw [← hM, uI_off y4, uI_off y3, uI_off y2, k3 j y1]
  have Mb : ∀ b, b ≠ 81 → M b = J b := fun b y => by rw [← hM, uI_ne y, uI_ne y, uI_ne y, k4 b y]
  have ez := zofn_i (m := z) (by omega)
  have ebb := zofn_i (m := zKb T z p) (by omega)
  unfold f12_next
  rw [k1]
  unfold f12_next_B52
  rw [zl_eq, zl_eq, zl_eq, hM, M22, M8]
  by_cases c : z ≤ zKb T z p
  · have e0 : zKe T z p = zKb T z p := by unfold zKe; rw [if_pos c]
    have kk : zKk T z p = 0 := by unfold zKk; rw [if_pos c]
    rw [if_pos ((zofeq (by omega) (by omega)).mpr (by omega)), kk]
    exact ⟨M, rfl, by rw [M22, e0], M23, by rw [M24]; rfl, fun q => absurd q (by decide), fun q => absurd q (by decide), fun q => by rcases q with q | q | q <;> exact absurd q (by decide), Mj, Mb⟩
  · rw [if_neg (fun y => c (by have := (zofeq (by omega) (by omega)).mp y; omega)), if_pos (zib_ok (by omega) (by omega)), zl_eq, zofn_n (by omega), MT _ (by omega), g12_inl, zb_some]
    simp only [zB_0]
    by_cases c1 : zKlt (T (zKb T z p))
    · have e0 : zKe T z p = zKrl T 97 122 (z - zKb T z p) (zKb T z p) := by unfold zKe; rw [if_neg c, if_pos c1]
      have kk : zKk T z p = zKc (zKi T (zKb T z p) (zKe T z p)) := by unfold zKk; rw [if_neg c, if_pos c1]
      have kw : zKw T z p = 5 - Int32.ofNat (zKi T (zKb T z p) (zKe T z p)) := by unfold zKw; rw [if_pos c1]
      obtain ⟨W, w1, w2, w3, w4⟩ := g12_letters (k146 := f12_next_B146) (T := T) hz (z - zKb T z p) zF (zKb T z p) M rfl rb.2 (by unfold zF; omega) M8 MT M22
      rw [← e0] at w2
      obtain ⟨k', v1, v2⟩ := g12_wordFrom (T := T) (z := z) (J := W) (b := zKb T z p) (e := zKe T z p) hz (fun k hk => by rw [w4 87 (by decide)]; exact MT k hk) (fun k hk => by rw [w4 95 (by decide)]; exact MW k hk) re.2.1 re.1 (fun i h1 h2 => by
        rw [e0] at h2
        exact zKrl_in _ _ i h1 h2)
      rw [if_neg (not_not_intro c1), w1]
      unfold f12_next_B146
      rw [w3 23 (by decide), M23, w2, v1, zb_some, zl_eq, zl_eq, zl_eq, zl_eq]
      refine ⟨_, rfl, by rw [uI_off (by decide), uI_off (by decide), w2], by rw [uI_off (by decide), uI_off (by decide), w3 23 (by decide), M23], ?_, ?_, ?_, ?_, fun j y1 y2 y3 y4 => by rw [uI_off y4, uI_off y3, w3 j y1, Mj j y1 y2 y3 y4], fun b y => by rw [uI_ne y, uI_ne y, w4 b y, Mb b y]⟩
      · rw [uI_off (by decide), uI_at, kk]
        rcases v2 with ⟨q1, q2⟩ | ⟨q1, q2⟩
        · rw [q2]
          exact (zKt_all k' q1).1
        · rw [q1, q2]
          decide
      · rw [kk]
        rcases v2 with ⟨q1, q2⟩ | ⟨q1, q2⟩
        · rw [q2]
          exact fun y => absurd y (zKt_all k' q1).2.2.2
        · rw [q2]
          exact fun y => absurd y (by decide)
      · rw [kk, kw, uI_at]
        rcases v2 with ⟨q1, q2⟩ | ⟨q1, q2⟩
        · rw [q2]
          exact (zKt_all k' q1).2.1
        · rw [q2]
          exact fun y => absurd y (by decide)
      · rw [kk, uI_at]
        rcases v2 with ⟨q1, q2⟩ | ⟨q1, q2⟩
        · rw [q2]
          exact (zKt_all k' q1).2.2.1
        · rw [q2]
          exact fun y => by rcases y with y | y | y <;> exact absurd y (by decide)
    · rw [if_pos c1, g12_ind, zb_some]
      simp only [zB_0]
      by_cases c2 : zKdg (T (zKb T z p))
      · have e0 : zKe T z p = zKrl T 48 57 (z - zKb T z p) (zKb T z p) := by unfold zKe; rw [if_neg c, if_neg c1, if_pos c2]
        have kk : zKk T z p = if zKe T z p - zKb T z p ≤ 4 then 2 else 1 := by unfold zKk; rw [if_neg c, if_neg c1, if_pos c2]
        have kw : zKw T z p = zKvl T (zKe T z p - zKb T z p) (zKb T z p) 0 := by unfold zKw; rw [if_neg c1]
        obtain ⟨l2', W, w1, w0, w2, w5, w3, w4⟩ := g12_digits (k309 := f12_next_B309) (T := T) hz (z - zKb T z p) zF (zKb T z p) 0 0 M rfl rb.2 (by unfold zF; omega) z0 (Nat.zero_le _) M8 MT M22
        rw [← e0] at w0 w2 w5
        rw [Nat.zero_add] at w0 w5
        rw [if_neg (not_not_intro c2), w1]
        unfold f12_next_B309
        have hx : (if l2' ≤ (4 : Int32) then (1 : Int32) else -1) = zKr (zKk T z p) := by
          rw [kk]
          by_cases k : zKe T z p - zKb T z p ≤ 4
          · rw [if_pos k, if_pos (by rw [zle_iff, w0, zn4i]; omega)]
            decide
          · rw [if_neg k, if_neg (by rw [zle_iff, w0, zn4i]; omega)]
            decide
        rw [hx, zl_eq, zl_eq]
        refine ⟨_, rfl, by rw [uI_off (by decide), w2], by rw [uI_off (by decide), w3 23 (by decide) (by decide), M23], by rw [uI_at], fun q => ?_, fun q => ?_, fun q => ?_, fun j y1 y2 y3 y4 => by rw [uI_off y3, w3 j y1 y4, Mj j y1 y2 y3 y4], fun b y => by rw [uI_ne y, w4 b y, Mb b y]⟩
        · rw [kk] at q
          have k : zKe T z p - zKb T z p ≤ 4 := by
            by_cases k : zKe T z p - zKb T z p ≤ 4
            · exact k
            · rw [if_neg k] at q
              exact absurd q (by decide)
          rw [uI_off (by decide), w5 k, M25, kw]
        · rw [kk] at q
          by_cases k : zKe T z p - zKb T z p ≤ 4
          · rw [if_pos k] at q
            exact absurd q (by decide)
          · rw [if_neg k] at q
            exact absurd q (by decide)
        · rw [kk] at q
          by_cases k : zKe T z p - zKb T z p ≤ 4
          · rw [if_pos k] at q
            rcases q with q | q | q <;> exact absurd q (by decide)
          · rw [if_neg k] at q
            rcases q with q | q | q <;> exact absurd q (by decide)
      · have e0 : zKe T z p = zKb T z p + 1 := by unfold zKe; rw [if_neg c, if_neg c1, if_neg c2]
        have kk : zKk T z p = if zKsg (T (zKb T z p)) then T (zKb T z p) else 1 := by unfold zKk; rw [if_neg c, if_neg c1, if_neg c2]
        rw [if_pos c2, zl_eq, zKsg_e, zl_eq, zl_eq, zl_eq]
        simp only [zB_0]
        have hx : (if ¬ zKsg (T (zKb T z p)) then (-1 : Int32) else T (zKb T z p)) = zKr (zKk T z p) := by
          rw [kk]
          by_cases k : zKsg (T (zKb T z p))
          · rw [if_neg (not_not_intro k), if_pos k]
            rcases k with k | k | k | k | k | k | k | k <;> rw [k] <;> decide
          · rw [if_pos k, if_neg k]
            decide
        have no : ∀ v : Int32, v = 2 ∨ v = 3 ∨ v = 4 ∨ v = 5 ∨ v = 6 → ¬ zKk T z p = v := fun v hv q => by
          rw [kk] at q
          by_cases k : zKsg (T (zKb T z p))
          · rw [if_pos k] at q
            rw [← q] at hv
            rcases k with k | k | k | k | k | k | k | k <;> rw [k] at hv <;> revert hv <;> decide
          · rw [if_neg k] at q
            rw [← q] at hv
            revert hv
            decide
        rw [hx]
        exact ⟨_, rfl, by rw [uI_at, uI_off (by decide), M22, zofs (by omega), e0], by rw [uI_off (by decide), uI_off (by decide), M23], by rw [uI_off (by decide), uI_at], fun q => absurd q (no 2 (Or.inl rfl)), fun q => absurd q (no 3 (Or.inr (Or.inl rfl))), fun q => by rcases q with q | q | q; exact absurd q (no 4 (Or.inr (Or.inr (Or.inl rfl)))); exact absurd q (no 5 (Or.inr (Or.inr (Or.inr (Or.inl rfl))))); exact absurd q (no 6 (Or.inr (Or.inr (Or.inr (Or.inr rfl))))), fun j y1 y2 y3 y4 => by rw [uI_off y1, uI_off y3, Mj j y1 y2 y3 y4], fun b y => by rw [uI_ne y, uI_ne y, Mb b y]⟩
/-- a number's value, a name's word -/
theorem zKvl_r : ∀ (k m p : Nat) (v : Int32), m + k ≤ 4 → (∀ i, i < k → zKdg (T (p + i))) → 0 ≤ v.toInt → v.toInt < (10 : Int) ^ m → 0 ≤ (zKvl T k p v).toInt ∧ (zKvl T k p v).toInt < (10 : Int) ^ (m + k) := by
  have z10 : (10 : Int32).toInt = 10 := rfl
  have z48 : (48 : Int32).toInt = 48 := rfl
  intro k
  induction k with
  | zero => intro m p v _ _ h1 h2; exact ⟨h1, h2⟩
  | succ k ih =>
    intro m p v hm hd h1 h2
    have d0 := hd 0 (by omega)
    rw [Nat.add_zero] at d0
    have p4 : (10 : Int) ^ m ≤ 1000 := by
      rcases (show m = 0 ∨ m = 1 ∨ m = 2 ∨ m = 3 by omega) with q | q | q | q <;> rw [q] <;> decide
    have pe : (10 : Int) ^ (m + 1) = 10 ^ m * 10 := Int.pow_succ _ _
    have a1 : (v * 10).toInt = v.toInt * 10 := by rw [zmul (by rw [z10]; omega) (by rw [z10]; omega), z10]
    have a2 : (v * 10 + T p).toInt = v.toInt * 10 + (T p).toInt := by rw [zadd (by rw [a1]; omega) (by rw [a1]; omega), a1]
    have a3 : (v * 10 + T p - 48).toInt = v.toInt * 10 + (T p).toInt - 48 := by rw [zsub (by rw [a2, z48]; omega) (by rw [a2, z48]; omega), a2, z48]
    rw [zKvl, show m + (k + 1) = m + 1 + k by omega]
    exact ih (m + 1) (p + 1) _ (by omega) (fun i hi => by rw [show p + 1 + i = p + (i + 1) by omega]; exact hd (i + 1) (by omega)) (by rw [a3]; omega) (by rw [a3, pe]; omega)
theorem zKw_wk {p : Nat} (hp : p ≤ z) (h : zKk T z p = 2 ∨ zKk T z p = 3) : zwk (zKw T z p) ∧ zne (zKw T z p) = 0 ∧ zw2c (zKw T z p) = (if zKk T z p = 2 then 100000 + zKw T z p else -1 - zKw T z p) ∧ zKb T z p < z := by
  have rb := zKb_r (T := T) hp
  have re := zKe_r (T := T) hp
  by_cases c : z ≤ zKb T z p
  · have kk : zKk T z p = 0 := by unfold zKk; rw [if_pos c]
    rw [kk] at h
    rcases h with h | h <;> exact absurd h (by decide)
  by_cases c1 : zKlt (T (zKb T z p))
  · have kk : zKk T z p = zKc (zKi T (zKb T z p) (zKe T z p)) := by unfold zKk; rw [if_neg c, if_pos c1]
    have kw : zKw T z p = 5 - Int32.ofNat (zKi T (zKb T z p) (zKe T z p)) := by unfold zKw; rw [if_pos c1]
    have hle := zKi_le (T := T) (b := zKb T z p) (e := zKe T z p)
    have all : ∀ i, i ≤ 12 → (zKc i = 2 ∨ zKc i = 3) → zwk (5 - Int32.ofNat i) ∧ zne (5 - Int32.ofNat i) = 0 ∧ zw2c (5 - Int32.ofNat i) = (if zKc i = 2 then 100000 + (5 - Int32.ofNat i) else -1 - (5 - Int32.ofNat i)) := by
      intro i hi
      rcases (show i = 0 ∨ i = 1 ∨ i = 2 ∨ i = 3 ∨ i = 4 ∨ i = 5 ∨ i = 6 ∨ i = 7 ∨ i = 8 ∨ i = 9 ∨ i = 10 ∨ i = 11 ∨ i = 12 by omega) with k | k | k | k | k | k | k | k | k | k | k | k | k <;> subst k <;> unfold zwk <;> decide +kernel
    rw [kk] at h ⊢
    rw [kw]
    exact ⟨(all _ hle h).1, (all _ hle h).2.1, (all _ hle h).2.2, by omega⟩
  by_cases c2 : zKdg (T (zKb T z p))
  · have e0 : zKe T z p = zKrl T 48 57 (z - zKb T z p) (zKb T z p) := by unfold zKe; rw [if_neg c, if_neg c1, if_pos c2]
    have kk : zKk T z p = if zKe T z p - zKb T z p ≤ 4 then 2 else 1 := by unfold zKk; rw [if_neg c, if_neg c1, if_pos c2]
    have kw : zKw T z p = zKvl T (zKe T z p - zKb T z p) (zKb T z p) 0 := by unfold zKw; rw [if_neg c1]
    by_cases k : zKe T z p - zKb T z p ≤ 4
    · rw [if_pos k] at kk
      obtain ⟨r1, r2⟩ := zKvl_r (T := T) (zKe T z p - zKb T z p) 0 (zKb T z p) 0 (by omega) (fun i hi => zKrl_in (T := T) (lo := 48) (hi := 57) (z - zKb T z p) (zKb T z p) _ (by omega) (by omega)) (by rw [z0]; omega) (by rw [z0]; decide)
      rw [← kw] at r1 r2
      rw [Nat.zero_add] at r2
      have p4 : (10 : Int) ^ (zKe T z p - zKb T z p) ≤ 10000 := by
        rcases (show zKe T z p - zKb T z p = 0 ∨ zKe T z p - zKb T z p = 1 ∨ zKe T z p - zKb T z p = 2 ∨ zKe T z p - zKb T z p = 3 ∨ zKe T z p - zKb T z p = 4 by omega) with q | q | q | q | q <;> rw [q] <;> decide
      refine ⟨Or.inl ⟨r1, by omega⟩, ?_, ?_, by omega⟩
      · unfold zne
        rw [if_pos (by rw [zle_iff, znm6]; omega)]
      · unfold zw2c
        rw [if_pos (by rw [zle_iff, z0]; exact r1), if_pos kk, Int32.add_comm]
    · rw [if_neg k] at kk
      rw [kk] at h
      rcases h with h | h <;> exact absurd h (by decide)
  · have kk : zKk T z p = if zKsg (T (zKb T z p)) then T (zKb T z p) else 1 := by unfold zKk; rw [if_neg c, if_neg c1, if_neg c2]
    exfalso
    rw [kk] at h
    by_cases k : zKsg (T (zKb T z p))
    · rw [if_pos k] at h
      rcases k with k | k | k | k | k | k | k | k <;> rw [k] at h <;> revert h <;> decide
    · rw [if_neg k] at h
      revert h
      decide
end
