/-! pure part: the reference reads on, a token a step -/
def zkin (k : Int32) : Prop := k = 0 ∨ k = 1 ∨ k = 2 ∨ k = 3 ∨ k = 4 ∨ k = 5 ∨ k = 6 ∨ k = 7 ∨ k = 8 ∨ k = 9 ∨ k = 40 ∨ k = 41 ∨ k = 59 ∨ k = 43 ∨ k = 45 ∨ k = 42 ∨ k = 60 ∨ k = 61
section
variable {T : Nat → Int32} {z t q p : Nat} {k159 : zMI → Option (Int32 × zMI)} {J : zMI} {s : zSt} {m : Int32}
theorem zKk_in (hp : p ≤ z) : zkin (zKk T z p) := by
  unfold zKk
  by_cases c : z ≤ zKb T z p
  · rw [if_pos c]
    exact Or.inl rfl
  rw [if_neg c]
  by_cases c1 : zKlt (T (zKb T z p))
  · rw [if_pos c1]
    have hle := zKi_le (T := T) (b := zKb T z p) (e := zKe T z p)
    unfold zkin
    rcases (show zKi T (zKb T z p) (zKe T z p) = 0 ∨ zKi T (zKb T z p) (zKe T z p) = 1 ∨ zKi T (zKb T z p) (zKe T z p) = 2 ∨ zKi T (zKb T z p) (zKe T z p) = 3 ∨ zKi T (zKb T z p) (zKe T z p) = 4 ∨ zKi T (zKb T z p) (zKe T z p) = 5 ∨ zKi T (zKb T z p) (zKe T z p) = 6 ∨ zKi T (zKb T z p) (zKe T z p) = 7 ∨ zKi T (zKb T z p) (zKe T z p) = 8 ∨ zKi T (zKb T z p) (zKe T z p) = 9 ∨ zKi T (zKb T z p) (zKe T z p) = 10 ∨ zKi T (zKb T z p) (zKe T z p) = 11 ∨ zKi T (zKb T z p) (zKe T z p) = 12 by omega) with k | k | k | k | k | k | k | k | k | k | k | k | k <;> rw [k] <;> decide
  rw [if_neg c1]
  by_cases c2 : zKdg (T (zKb T z p))
  · rw [if_pos c2]
    by_cases k : zKe T z p - zKb T z p ≤ 4
    · rw [if_pos k]
      exact Or.inr (Or.inr (Or.inl rfl))
    · rw [if_neg k]
      exact Or.inr (Or.inl rfl)
  rw [if_neg c2]
  by_cases c3 : zKsg (T (zKb T z p))
  · rw [if_pos c3]
    exact Or.inr (Or.inr (Or.inr (Or.inr (Or.inr (Or.inr (Or.inr (Or.inr (Or.inr (Or.inr c3)))))))))
  · rw [if_neg c3]
    exact Or.inr (Or.inl rfl)
/-- a token that is there has been passed -/
theorem zKk_pos (hp : p ≤ z) (h : ¬ zKk T z p = 0) : p < zKe T z p ∧ zKb T z p < z := by
  have rb := zKb_r (T := T) hp
  have re := zKe_r (T := T) hp
  have c : ¬ z ≤ zKb T z p := fun c => h (by unfold zKk; rw [if_pos c])
  omega
theorem zRS_p (h : zRS T z t J p s) : s.1.length + s.2.2.length ≤ p ∧ p ≤ z ∧ z ≤ 160 ∧ t ≤ 5 := h.2.2.2.2.2.2.2.2.2.2
theorem zRS_o (h : zRS T z t J p s) : J 81 29 = s.2.1 ∧ J 81 28 = Int32.ofNat s.1.length := ⟨h.2.2.2.2.2.2.1, h.2.2.2.2.2.1⟩
/-- wanted: a number or a name -/
theorem zst_operand {S C : List Int32} {o : Int32} (h : zRS T z t J p (S, o, C)) (hk : zKk T z p = 2 ∨ zKk T z p = 3) : ∃ J', f12_eRead_L14 k159 (q + 1) 1 m J = f12_eRead_L14 k159 q 0 m J' ∧ zRS T z t J' (zKe T z p) (zunq 7 S o (zw2c (zKw T z p) :: C)) ∧ zFR t J J' := by
  obtain ⟨a1, a2, a3, a4⟩ := zRS_p h
  dsimp only at a1
  have pos := zKk_pos (T := T) a2 (fun y => by rw [y] at hk; rcases hk with k | k <;> exact absurd k (by decide))
  obtain ⟨J1, u1, u2, u3, u4, u5, u6, u7, u8⟩ := zRS_next h
  obtain ⟨J2, v1, v2, v3, -⟩ := zRS_puts (x := zw2c (zKw T z p)) u2 (by omega)
  obtain ⟨J3, w1, w2, w3, -⟩ := zRS_un 7 v2
  have wk := (zKw_wk (T := T) a2 hk).2.2.1
  refine ⟨J3, ?_, w2, zFR_tr (zFR_tr u8 v3) w3⟩
  rw [f12_eRead_L14]
  rw [u1, zb_some, if_neg (by decide), u4]
  rcases hk with k | k
  · rw [if_pos (by rw [k]; decide)]
    unfold f12_eRead_B38
    rw [u4, if_pos (by rw [k]; decide)]
    unfold f12_eRead_B61
    have : (100000 : Int32) + J1 81 25 = zw2c (zKw T z p) := by rw [u5 k, wk, if_pos k]
    rw [this, v1, zb_some, w1, zb_some]
  · rw [if_neg (by rw [k]; decide), if_pos (by rw [k]; decide)]
    unfold f12_eRead_B38
    rw [u4, if_neg (by rw [k]; decide)]
    unfold f12_eRead_B61
    have : J1 81 25 = zw2c (zKw T z p) := by rw [u6 k, wk, if_neg (by rw [k]; decide)]
    rw [this, v1, zb_some, w1, zb_some]
/-- wanted: - ( not, of which no more than five are open -/
theorem zst_opens {S C : List Int32} {o g : Int32} (h : zRS T z t J p (S, o, C)) (hk : (zKk T z p = 45 ∧ g = 19) ∨ (zKk T z p = 40 ∧ g = 0) ∨ (zKk T z p = 9 ∧ ¬ m = 0 ∧ g = 13)) : (o = 5 ∧ ∃ J', f12_eRead_L14 k159 (q + 1) 1 m J = some (0, J') ∧ J' 81 23 = Int32.ofNat (zKb T z p) ∧ zFR t J J') ∨ (¬ o = 5 ∧ ∃ J', f12_eRead_L14 k159 (q + 1) 1 m J = f12_eRead_L14 k159 q 1 (if g = 19 then 0 else if g = 0 then 1 else m) J' ∧ zRS T z t J' (zKe T z p) (g :: S, o + 1, C) ∧ zFR t J J') := by
  obtain ⟨a1, a2, a3, a4⟩ := zRS_p h
  dsimp only at a1
  have pos := zKk_pos (T := T) a2 (fun y => by rw [y] at hk; rcases hk with ⟨k, -⟩ | ⟨k, -⟩ | ⟨k, -⟩ <;> exact absurd k (by decide))
  obtain ⟨J1, u1, u2, u3, u4, u5, u6, u7, u8⟩ := zRS_next h
  have F : f12_eRead_L14 k159 (q + 1) 1 m J = zb (f12_opensOne g J1) fun p11 => if p11.1 = (0 : Int32) then some ((0 : Int32), p11.2) else f12_eRead_L14 k159 q 1 (if g = 19 then 0 else if g = 0 then 1 else m) p11.2 := by
    rw [f12_eRead_L14]
    rw [u1, zb_some, if_neg (by decide), u4]
    rcases hk with ⟨k, e⟩ | ⟨k, e⟩ | ⟨k, km, e⟩
    · rw [if_neg (by rw [k]; decide), if_neg (by rw [k]; decide), if_neg (by rw [k]; decide)]
      unfold f12_eRead_B99
      rw [u4, if_pos (by rw [k]; decide), e]
      rfl
    · rw [if_neg (by rw [k]; decide), if_neg (by rw [k]; decide), if_neg (by rw [k]; decide)]
      unfold f12_eRead_B99
      rw [u4, if_neg (by rw [k]; decide), if_pos (by rw [k]; decide), e]
      rfl
    · rw [if_neg (by rw [k]; decide), if_neg (by rw [k]; decide), if_pos (by rw [k]; decide), if_neg km, e]
      rfl
  rw [F]
  rcases zRS_open (x := g) u2 (by omega) with ⟨y1, y2⟩ | ⟨y1, J2, v1, v2, v3⟩
  · refine Or.inl ⟨y1, J1, ?_, u3, u8⟩
    rw [y2, zb_some]
    rfl
  · refine Or.inr ⟨y1, J2, ?_, v2, zFR_tr u8 v3⟩
    rw [v1, zb_some]
    rfl
/-- wanted, and nothing that can stand -/
theorem zst_wrong (h : zRS T z t J p s) (hk : ¬ (zKk T z p = 2 ∨ zKk T z p = 3 ∨ zKk T z p = 45 ∨ zKk T z p = 40 ∨ (zKk T z p = 9 ∧ ¬ m = 0))) : ∃ J', f12_eRead_L14 k159 (q + 1) 1 m J = some (0, J') ∧ J' 81 23 = Int32.ofNat (zKb T z p) ∧ zFR t J J' := by
  obtain ⟨a1, a2, a3, a4⟩ := zRS_p h
  obtain ⟨J1, u1, u2, u3, u4, u5, u6, u7, u8⟩ := zRS_next h
  have hin := zKk_in (T := T) a2
  refine ⟨J1, ?_, u3, u8⟩
  rw [f12_eRead_L14]
  rw [u1, zb_some, if_neg (by decide), u4]
  have m2 : ¬ zKk T z p = 2 := fun y => hk (Or.inl y)
  have m3 : ¬ zKk T z p = 3 := fun y => hk (Or.inr (Or.inl y))
  have m45 : ¬ zKk T z p = 45 := fun y => hk (Or.inr (Or.inr (Or.inl y)))
  have m40 : ¬ zKk T z p = 40 := fun y => hk (Or.inr (Or.inr (Or.inr (Or.inl y))))
  have n1 : ¬ zKr (zKk T z p) = 1 := fun y => m2 (by
    rcases hin with k | k | k | k | k | k | k | k | k | k | k | k | k | k | k | k | k | k <;> rw [k] at y ⊢ <;> first | decide | (exfalso; revert y; decide))
  have n2 : ¬ zKr (zKk T z p) = 2 := fun y => m3 (by
    rcases hin with k | k | k | k | k | k | k | k | k | k | k | k | k | k | k | k | k | k <;> rw [k] at y ⊢ <;> first | decide | (exfalso; revert y; decide))
  have n45 : ¬ zKr (zKk T z p) = 45 := fun y => m45 (by
    rcases hin with k | k | k | k | k | k | k | k | k | k | k | k | k | k | k | k | k | k <;> rw [k] at y ⊢ <;> first | decide | (exfalso; revert y; decide))
  have n40 : ¬ zKr (zKk T z p) = 40 := fun y => m40 (by
    rcases hin with k | k | k | k | k | k | k | k | k | k | k | k | k | k | k | k | k | k <;> rw [k] at y ⊢ <;> first | decide | (exfalso; revert y; decide))
  have B : f12_eRead_B99 (f12_eRead_L14 k159 q) 1 J1 = some (0, J1) := by
    unfold f12_eRead_B99
    rw [u4, if_neg n45, if_neg n40]
  by_cases k9 : zKk T z p = 9
  · have m0 : m = 0 := Classical.not_not.mp (fun y => hk (Or.inr (Or.inr (Or.inr (Or.inr ⟨k9, y⟩)))))
    rw [if_neg (by rw [k9]; decide), if_neg (by rw [k9]; decide), if_pos (by rw [k9]; decide), if_pos m0]
    exact B
  · have n6 : ¬ zKr (zKk T z p) = 6 := fun y => k9 (by
      rcases hin with k | k | k | k | k | k | k | k | k | k | k | k | k | k | k | k | k | k <;> rw [k] at y ⊢ <;> first | decide | (exfalso; revert y; decide))
    rw [if_neg n1, if_neg n2, if_neg n6]
    exact B
/-- not wanted: the end of an expression -/
theorem zst_semi (h : zRS T z t J p s) (hk : zKk T z p = 59) : ∃ J', f12_eRead_L14 k159 (q + 1) 0 m J = k159 J' ∧ zRS T z t J' (zKe T z p) s ∧ J' 81 23 = Int32.ofNat (zKb T z p) ∧ zFR t J J' := by
  obtain ⟨J1, u1, u2, u3, u4, u5, u6, u7, u8⟩ := zRS_next h
  refine ⟨J1, ?_, u2, u3, u8⟩
  rw [f12_eRead_L14]
  rw [u1, zb_some, if_pos rfl, u4, if_pos (by rw [hk]; decide)]
/-- not wanted: ) -/
theorem zst_close (h : zRS T z t J p s) (hk : zKk T z p = 41) : ((zunq 1 s.1 s.2.1 s.2.2).1 = [] ∧ ∃ J', f12_eRead_L14 k159 (q + 1) 0 m J = some (0, J') ∧ J' 81 23 = Int32.ofNat (zKb T z p) ∧ zFR t J J') ∨ ∃ x S o C, zunq 1 s.1 s.2.1 s.2.2 = (x :: S, o, C) ∧ ∃ J', f12_eRead_L14 k159 (q + 1) 0 m J = f12_eRead_L14 k159 q 0 m J' ∧ zRS T z t J' (zKe T z p) (zunq 7 S (o - 1) C) ∧ zFR t J J' := by
  obtain ⟨J1, u1, u2, u3, u4, u5, u6, u7, u8⟩ := zRS_next h
  obtain ⟨J2, v1, v2, v3, v4⟩ := zRS_un 1 u2
  have F : f12_eRead_L14 k159 (q + 1) 0 m J = if (J2 81 28) = (0 : Int32) then some ((0 : Int32), J2) else zl (uI J2 81 28 ((J2 81 28) - (1 : Int32))) fun J32 => zl (uI J32 81 29 ((J32 81 29) - (1 : Int32))) fun J34 => zb (f12_unwinds (7 : Int32) J34) fun p36 => f12_eRead_L14 k159 q 0 m p36 := by
    rw [f12_eRead_L14]
    rw [u1, zb_some, if_pos rfl, u4, if_neg (by rw [hk]; decide), if_pos (by rw [hk]; decide), v1, zb_some]
  rw [F]
  obtain ⟨a1, a2, a3, a4⟩ := zRS_p v2
  obtain ⟨o1, o2⟩ := zRS_o v2
  generalize hz : zunq 1 s.1 s.2.1 s.2.2 = y at v2 a1 o1 o2 ⊢
  obtain ⟨S', o', C'⟩ := y
  dsimp only at a1 o1 o2
  cases S' with
  | nil =>
    refine Or.inl ⟨rfl, J2, ?_, by rw [v4 23 (by decide), u3], zFR_tr u8 v3⟩
    rw [o2, if_pos (by decide)]
  | cons x S =>
    rw [List.length_cons] at a1 o2
    have es := zofn_i (m := S.length + 1) (by omega)
    have es0 := zofn_i (m := S.length) (by omega)
    have e1 : Int32.ofNat (S.length + 1) - 1 = Int32.ofNat S.length := by rw [← zofs (by omega), zeq_iff, zsub (by rw [zadd (by rw [z1]; omega) (by rw [z1]; omega), z1]; omega) (by rw [zadd (by rw [z1]; omega) (by rw [z1]; omega), z1]; omega), zadd (by rw [z1]; omega) (by rw [z1]; omega), z1]; omega
    have hK : zRS T z t (uI (uI J2 81 28 (Int32.ofNat S.length)) 81 29 (o' - 1)) (zKe T z p) (S, o' - 1, C') := by
      obtain ⟨h1, h2, h3, h4, h5, h6, h7, h8, h9, h10, h11, h12, h13, h14⟩ := v2
      dsimp only at h6 h7 h8 h9 h10 h11
      refine ⟨?_, fun k hk => ?_, fun j hj => ?_, ?_, ?_, ?_, ?_, ?_, ?_, ?_, by dsimp only; omega, h12, h13, h14⟩
      · rw [uI_off (by decide), uI_off (by decide)]; exact h1
      · rw [uI_ne (by decide), uI_ne (by decide)]; exact h2 k hk
      · rw [uI_ne (by decide), uI_ne (by decide)]; exact h3 j hj
      · rw [uI_off (by decide), uI_off (by decide)]; exact h4
      · rw [uI_off (by decide), uI_off (by decide)]; exact h5
      · rw [uI_off (by decide), uI_at]
      · rw [uI_at]
      · rw [uI_off (by decide), uI_off (by decide)]; exact h8
      · rw [uI_ne (by decide), uI_ne (by decide)]; exact h9.2
      · rw [uI_ne (by decide), uI_ne (by decide)]; exact h10
    obtain ⟨J3, w1, w2, w3, -⟩ := zRS_un 7 hK
    refine Or.inr ⟨x, S, o', C', rfl, J3, ?_, w2, zFR_tr (zFR_tr u8 v3) (zFR_tr ⟨fun b x1 _ _ => by rw [uI_ne x1, uI_ne x1], fun j hj => by rw [uI_off (by omega), uI_off (by omega)], fun k _ => by rw [uI_ne (by decide), uI_ne (by decide)]⟩ w3)⟩
    rw [o2, if_neg (by rw [zeq_iff, es, z0]; omega), e1, zl_eq, uI_off (show (29 : Nat) ≠ 28 by decide), o1, zl_eq, w1, zb_some]
/-- a sign between two, all but < and = -/
theorem zst_sign {g : Int32} (h : zRS T z t J p s) (hk : (zKk T z p = 7 ∧ g = 11) ∨ (zKk T z p = 8 ∧ g = 12) ∨ (zKk T z p = 43 ∧ g = 16) ∨ (zKk T z p = 45 ∧ g = 17) ∨ (zKk T z p = 42 ∧ g = 18)) : ∃ J', f12_eRead_L14 k159 (q + 1) 0 m J = f12_eRead_L14 k159 q 1 (if (12 : Int32) < g then 0 else 1) J' ∧ zRS T z t J' (zKe T z p) (g :: (zunq (zrk g) s.1 s.2.1 s.2.2).1, (zunq (zrk g) s.1 s.2.1 s.2.2).2.1, (zunq (zrk g) s.1 s.2.1 s.2.2).2.2) ∧ zFR t J J' := by
  obtain ⟨a1, a2, a3, a4⟩ := zRS_p h
  have pos := zKk_pos (T := T) a2 (fun y => by rw [y] at hk; rcases hk with ⟨k, -⟩ | ⟨k, -⟩ | ⟨k, -⟩ | ⟨k, -⟩ | ⟨k, -⟩ <;> exact absurd k (by decide))
  obtain ⟨J1, u1, u2, u3, u4, u5, u6, u7, u8⟩ := zRS_next h
  obtain ⟨J2, v1, v2, v3, v4⟩ := zRS_un (zrk g) u2
  have hl := zun_len (r := zrk g) s.1 s.2.1 s.2.2
  obtain ⟨J3, w1, w2, w3, -⟩ := zRS_hold (x := g) (S := (zunq (zrk g) s.1 s.2.1 s.2.2).1) (o := (zunq (zrk g) s.1 s.2.1 s.2.2).2.1) (C := (zunq (zrk g) s.1 s.2.1 s.2.2).2.2) v2 (by omega)
  refine ⟨J3, ?_, w2, zFR_tr (zFR_tr u8 v3) w3⟩
  have sg : f12_signOf J1 = some g := by
    unfold f12_signOf
    rw [u4, zl_eq]
    rcases hk with ⟨k, e⟩ | ⟨k, e⟩ | ⟨k, e⟩ | ⟨k, e⟩ | ⟨k, e⟩ <;> rw [k, e] <;> decide
  have n4 : ¬ zrk g = 4 := by
    rcases hk with ⟨-, e⟩ | ⟨-, e⟩ | ⟨-, e⟩ | ⟨-, e⟩ | ⟨-, e⟩ <;> rw [e] <;> decide
  have nm : ¬ g = -1 := by
    rcases hk with ⟨-, e⟩ | ⟨-, e⟩ | ⟨-, e⟩ | ⟨-, e⟩ | ⟨-, e⟩ <;> rw [e] <;> decide
  have bt : f12_between g J1 = some (1, J3) := by
    unfold f12_between
    rw [g12_rank, zb_some, if_neg n4, zb_some]
    unfold f12_between_B17
    rw [v1, zb_some, g12_rank, zb_some, if_neg n4, w1, zb_some]
  have c1 : ¬ zKr (zKk T z p) = 59 := by
    rcases hk with ⟨k, -⟩ | ⟨k, -⟩ | ⟨k, -⟩ | ⟨k, -⟩ | ⟨k, -⟩ <;> rw [k] <;> decide
  have c2 : ¬ zKr (zKk T z p) = 41 := by
    rcases hk with ⟨k, -⟩ | ⟨k, -⟩ | ⟨k, -⟩ | ⟨k, -⟩ | ⟨k, -⟩ <;> rw [k] <;> decide
  rw [f12_eRead_L14]
  rw [u1, zb_some, if_pos rfl, u4, if_neg c1, if_neg c2, sg, zb_some, if_neg nm, bt, zb_some]
  rfl
/-- < and = : one of them can stand -/
theorem zst_cmp {g : Int32} (h : zRS T z t J p s) (hk : (zKk T z p = 60 ∧ g = 14) ∨ (zKk T z p = 61 ∧ g = 15)) : ((∃ x S o C, zunq 5 s.1 s.2.1 s.2.2 = (x :: S, o, C) ∧ zrk x = 4) ∧ ∃ J', f12_eRead_L14 k159 (q + 1) 0 m J = some (0, J') ∧ J' 81 23 = Int32.ofNat (zKb T z p) ∧ zFR t J J') ∨ ((¬ ∃ x S o C, zunq 5 s.1 s.2.1 s.2.2 = (x :: S, o, C) ∧ zrk x = 4) ∧ ∃ J', f12_eRead_L14 k159 (q + 1) 0 m J = f12_eRead_L14 k159 q 1 0 J' ∧ zRS T z t J' (zKe T z p) (g :: (zunq 5 s.1 s.2.1 s.2.2).1, (zunq 5 s.1 s.2.1 s.2.2).2.1, (zunq 5 s.1 s.2.1 s.2.2).2.2) ∧ zFR t J J') := by
  obtain ⟨a1, a2, a3, a4⟩ := zRS_p h
  have pos := zKk_pos (T := T) a2 (fun y => by rw [y] at hk; rcases hk with ⟨k, -⟩ | ⟨k, -⟩ <;> exact absurd k (by decide))
  obtain ⟨J1, u1, u2, u3, u4, u5, u6, u7, u8⟩ := zRS_next h
  obtain ⟨J2, v1, v2, v3, v4⟩ := zRS_un 5 u2
  have hl := zun_len (r := 5) s.1 s.2.1 s.2.2
  obtain ⟨J3, w1, w2, w3, -⟩ := zRS_hold (x := g) (S := (zunq 5 s.1 s.2.1 s.2.2).1) (o := (zunq 5 s.1 s.2.1 s.2.2).2.1) (C := (zunq 5 s.1 s.2.1 s.2.2).2.2) v2 (by omega)
  have sg : f12_signOf J1 = some g := by
    unfold f12_signOf
    rw [u4, zl_eq]
    rcases hk with ⟨k, e⟩ | ⟨k, e⟩ <;> rw [k, e] <;> decide
  have n4 : zrk g = 4 := by
    rcases hk with ⟨-, e⟩ | ⟨-, e⟩ <;> rw [e] <;> decide
  have nm : ¬ g = -1 := by
    rcases hk with ⟨-, e⟩ | ⟨-, e⟩ <;> rw [e] <;> decide
  have g12 : (if (12 : Int32) < g then (0 : Int32) else 1) = 0 := by
    rcases hk with ⟨-, e⟩ | ⟨-, e⟩ <;> rw [e] <;> decide
  have c1 : ¬ zKr (zKk T z p) = 59 := by
    rcases hk with ⟨k, -⟩ | ⟨k, -⟩ <;> rw [k] <;> decide
  have c2 : ¬ zKr (zKk T z p) = 41 := by
    rcases hk with ⟨k, -⟩ | ⟨k, -⟩ <;> rw [k] <;> decide
  have F : f12_eRead_L14 k159 (q + 1) 0 m J = zb (f12_between_B17 g 5 J1) fun p22 => if p22.1 = (0 : Int32) then some ((0 : Int32), p22.2) else f12_eRead_L14 k159 q 1 0 p22.2 := by
    rw [f12_eRead_L14]
    rw [u1, zb_some, if_pos rfl, u4, if_neg c1, if_neg c2, sg, zb_some, if_neg nm]
    unfold f12_between
    rw [g12_rank, zb_some, if_pos n4, g12]
    rfl
  rw [F]
  unfold f12_between_B17
  rw [v1, zb_some, g12_rank, zb_some, if_pos n4]
  obtain ⟨o1, o2⟩ := zRS_o v2
  have h9 := v2.2.2.2.2.2.2.2.2.1
  obtain ⟨b1, b2, b3, b4⟩ := zRS_p v2
  generalize hz : zunq 5 s.1 s.2.1 s.2.2 = y at v2 w1 w2 o2 h9 b1 ⊢
  obtain ⟨S', o', C'⟩ := y
  dsimp only at o2 h9 w1 w2 b1
  cases S' with
  | nil =>
    have l0 : J2 81 28 ≤ 0 := by rw [o2]; decide
    rw [if_pos l0, w1, zb_some, zb_some]
    refine Or.inr ⟨fun ⟨x, S, o, C, e, _⟩ => (by cases e), J3, rfl, w2, zFR_tr (zFR_tr u8 v3) w3⟩
  | cons x S =>
    rw [List.length_cons] at o2 b1
    have es := zofn_i (m := S.length + 1) (by omega)
    have es0 := zofn_i (m := S.length) (by omega)
    have e1 : Int32.ofNat (S.length + 1) - 1 = Int32.ofNat S.length := by rw [← zofs (by omega), zeq_iff, zsub (by rw [zadd (by rw [z1]; omega) (by rw [z1]; omega), z1]; omega) (by rw [zadd (by rw [z1]; omega) (by rw [z1]; omega), z1]; omega), zadd (by rw [z1]; omega) (by rw [z1]; omega), z1]; omega
    have top : J2 96 S.length = x := by
      have := h9.1
      rw [Nat.zero_add] at this
      exact this
    rw [if_neg (by rw [o2, zle_iff, es, z0]; omega), o2, e1, if_pos (zib_ok (by omega) (by omega)), zofn_n (by omega), top, g12_rank, zb_some]
    by_cases k : zrk x = 4
    · rw [if_pos k, zb_some]
      exact Or.inl ⟨⟨x, S, o', C', rfl, k⟩, J2, rfl, by rw [v4 23 (by decide), u3], zFR_tr u8 v3⟩
    · rw [if_neg k, w1, zb_some, zb_some]
      refine Or.inr ⟨fun ⟨x', S', o', C', e, e4⟩ => ?_, J3, rfl, w2, zFR_tr (zFR_tr u8 v3) w3⟩
      cases e
      exact k e4
/-- not wanted, and nothing that can stand -/
theorem zst_amiss (h : zRS T z t J p s) (hk : ¬ (zKk T z p = 59 ∨ zKk T z p = 41 ∨ zKk T z p = 7 ∨ zKk T z p = 8 ∨ zKk T z p = 43 ∨ zKk T z p = 45 ∨ zKk T z p = 42 ∨ zKk T z p = 60 ∨ zKk T z p = 61)) : ∃ J', f12_eRead_L14 k159 (q + 1) 0 m J = some (0, J') ∧ J' 81 23 = Int32.ofNat (zKb T z p) ∧ zFR t J J' := by
  obtain ⟨a1, a2, a3, a4⟩ := zRS_p h
  obtain ⟨J1, u1, u2, u3, u4, u5, u6, u7, u8⟩ := zRS_next h
  have hin := zKk_in (T := T) a2
  have sg : f12_signOf J1 = some (-1) := by
    unfold f12_signOf
    rw [u4, zl_eq]
    rcases hin with k | k | k | k | k | k | k | k | k | k | k | k | k | k | k | k | k | k <;> rw [k] at hk ⊢ <;> first | decide | (exfalso; exact hk (by decide))
  have c1 : ¬ zKr (zKk T z p) = 59 := by
    rcases hin with k | k | k | k | k | k | k | k | k | k | k | k | k | k | k | k | k | k <;> rw [k] at hk ⊢ <;> first | decide | (exfalso; exact hk (by decide))
  have c2 : ¬ zKr (zKk T z p) = 41 := by
    rcases hin with k | k | k | k | k | k | k | k | k | k | k | k | k | k | k | k | k | k <;> rw [k] at hk ⊢ <;> first | decide | (exfalso; exact hk (by decide))
  refine ⟨J1, ?_, u3, u8⟩
  rw [f12_eRead_L14]
  rw [u1, zb_some, if_pos rfl, u4, if_neg c1, if_neg c2, sg, zb_some, if_pos rfl]
end
