/-! pure part: the reference's signs held, and its steps -/
def zrk (x : Int32) : Int32 := if x = 0 then 0 else if x = 11 then 1 else if x = 12 then 2 else if x = 13 then 3 else if (15 : Int32) < x then (if (17 : Int32) < x then (if x = 18 then 6 else 7) else 5) else 4
theorem g12_rank (x : Int32) : f12_rank x = some (zrk x) := rfl
def zop (x : Int32) : Int32 := if x = 13 then 1 else if x = 19 then 1 else 0
/-- signs held (the top first), how many are open, codes (the last first) -/
abbrev zSt := List Int32 × Int32 × List Int32
def zunq (r : Int32) : List Int32 → Int32 → List Int32 → zSt
  | [], o, C => ([], o, C)
  | x :: S, o, C => if zrk x < r then (x :: S, o, C) else zunq r S (o - zop x) (x :: C)
/-- a row holds a list, the first on top -/
def zhs (f : Nat → Int32) (a : Nat) : List Int32 → Prop
  | [] => True
  | x :: S => f (a + S.length) = x ∧ zhs f a S
theorem zhs_eq {f g : Nat → Int32} {a : Nat} : ∀ S, (∀ k, a ≤ k → k < a + S.length → g k = f k) → zhs f a S → zhs g a S := by
  intro S
  induction S with
  | nil => intro _ _; trivial
  | cons x S ih =>
    intro h h1
    obtain ⟨h2, h3⟩ := h1
    refine ⟨?_, ih (fun k y1 y2 => h k y1 (by rw [List.length_cons]; omega)) h3⟩
    rw [h _ (by omega) (by rw [List.length_cons]; omega)]
    exact h2
theorem zhs_push {I : zMI} {b a : Nat} {x : Int32} {S : List Int32} (h : zhs (I b) a S) : zhs (uI I b (a + S.length) x b) a (x :: S) := by
  refine ⟨uI_at, zhs_eq S (fun k y1 y2 => uI_off (by omega)) h⟩
theorem zun_len {r : Int32} : ∀ S o C, (zunq r S o C).1.length + (zunq r S o C).2.2.length = S.length + C.length := by
  intro S
  induction S with
  | nil => intro o C; rfl
  | cons x S ih =>
    intro o C
    rw [zunq]
    by_cases c : zrk x < r
    · rw [if_pos c]
    · rw [if_neg c, ih, List.length_cons, List.length_cons]
      omega
/-- unwinding lower goes on from unwinding higher -/
theorem zun_zun {r r' : Int32} (h : r ≤ r') : ∀ S o C, zunq r (zunq r' S o C).1 (zunq r' S o C).2.1 (zunq r' S o C).2.2 = zunq r S o C := by
  intro S
  induction S with
  | nil => intro o C; rfl
  | cons x S ih =>
    intro o C
    by_cases c : zrk x < r'
    · rw [zunq, if_pos c]
    · have c2 : ¬ zrk x < r := by
        rw [zlt_iff] at c ⊢
        rw [zle_iff] at h
        omega
      have e1 : zunq r' (x :: S) o C = zunq r' S (o - zop x) (x :: C) := by rw [zunq, if_neg c]
      have e2 : zunq r (x :: S) o C = zunq r S (o - zop x) (x :: C) := by rw [zunq, if_neg c2]
      rw [e1, e2, ih]
/-- the top is below r -/
def ztp (r : Int32) (S : List Int32) : Prop := ∀ x S', S = x :: S' → zrk x < r
theorem zun_top {r : Int32} {S : List Int32} {o : Int32} {C : List Int32} (h : ztp r S) : zunq r S o C = (S, o, C) := by
  cases S with
  | nil => rfl
  | cons x S => rw [zunq, if_pos (h x S rfl)]
theorem ztp_mono {r r' : Int32} {S : List Int32} (h : ztp r S) (hr : r ≤ r') : ztp r' S := fun x S' e => by
  have := h x S' e
  rw [zlt_iff] at this ⊢
  rw [zle_iff] at hr
  omega
def zRS (T : Nat → Int32) (z t : Nat) (J : zMI) (p : Nat) (s : zSt) : Prop := J 81 8 = Int32.ofNat z ∧ (∀ k, k < z → J 87 k = T k) ∧ (∀ j, j < 96 → J 95 j = zTw j) ∧ J 81 22 = Int32.ofNat p ∧ J 81 11 = Int32.ofNat t ∧ J 81 28 = Int32.ofNat s.1.length ∧ J 81 29 = s.2.1 ∧ J 81 30 = Int32.ofNat s.2.2.length ∧ zhs (J 96) 0 s.1 ∧ zhs (J 88) (200 * t) s.2.2 ∧ s.1.length + s.2.2.length ≤ p ∧ p ≤ z ∧ z ≤ 160 ∧ t ≤ 5
/-- what reading leaves alone -/
def zFR (t : Nat) (J J' : zMI) : Prop := (∀ b, b ≠ 81 → b ≠ 88 → b ≠ 96 → J' b = J b) ∧ (∀ j, j < 22 ∨ 30 < j → J' 81 j = J 81 j) ∧ ∀ k, k < 200 * t → J' 88 k = J 88 k
theorem zFR_rfl {t : Nat} {J : zMI} : zFR t J J := ⟨fun _ _ _ _ => rfl, fun _ _ => rfl, fun _ _ => rfl⟩
theorem zFR_tr {t : Nat} {J J' J'' : zMI} (h : zFR t J J') (h' : zFR t J' J'') : zFR t J J'' := ⟨fun b x y z => by rw [h'.1 b x y z, h.1 b x y z], fun j x => by rw [h'.2.1 j x, h.2.1 j x], fun k x => by rw [h'.2.2 k x, h.2.2 k x]⟩
section
variable {T : Nat → Int32} {z t : Nat}
theorem zRS_next {J : zMI} {p : Nat} {s : zSt} (h : zRS T z t J p s) : ∃ J', f12_next J = some J' ∧ zRS T z t J' (zKe T z p) s ∧ J' 81 23 = Int32.ofNat (zKb T z p) ∧ J' 81 24 = zKr (zKk T z p) ∧ (zKk T z p = 2 → J' 81 25 = zKw T z p) ∧ (zKk T z p = 3 → J' 81 25 = -1 - zKw T z p) ∧ (zKk T z p = 4 ∨ zKk T z p = 5 ∨ zKk T z p = 6 → J' 81 25 = zKk T z p - 4) ∧ zFR t J J' := by
  obtain ⟨h1, h2, h3, h4, h5, h6, h7, h8, h9, h10, h11, h12, h13, h14⟩ := h
  obtain ⟨J', u1, u2, u3, u4, u5, u6, u7, u8, u9⟩ := g12_next h13 h12 h1 h2 h4 h3
  have rb := zKb_r (T := T) h12
  have re := zKe_r (T := T) h12
  refine ⟨J', u1, ⟨?_, fun k hk => ?_, fun j hj => ?_, u2, ?_, ?_, ?_, ?_, ?_, ?_, by omega, re.2.1, h13, h14⟩, u3, u4, u5, u6, u7, fun b x _ _ => u9 b x, fun j hj => u8 j (by omega) (by omega) (by omega) (by omega), fun k _ => by rw [u9 88 (by decide)]⟩
  · rw [u8 8 (by decide) (by decide) (by decide) (by decide)]; exact h1
  · rw [u9 87 (by decide)]; exact h2 k hk
  · rw [u9 95 (by decide)]; exact h3 j hj
  · rw [u8 11 (by decide) (by decide) (by decide) (by decide)]; exact h5
  · rw [u8 28 (by decide) (by decide) (by decide) (by decide)]; exact h6
  · rw [u8 29 (by decide) (by decide) (by decide) (by decide)]; exact h7
  · rw [u8 30 (by decide) (by decide) (by decide) (by decide)]; exact h8
  · rw [u9 96 (by decide)]; exact h9
  · rw [u9 88 (by decide)]; exact h10
theorem zRS_puts {J : zMI} {p : Nat} {S C : List Int32} {o x : Int32} (h : zRS T z t J p (S, o, C)) (hp : S.length + C.length + 1 ≤ p) : ∃ J', f12_puts x J = some J' ∧ zRS T z t J' p (S, o, x :: C) ∧ zFR t J J' ∧ ∀ j, j ≠ 30 → J' 81 j = J 81 j := by
  obtain ⟨h1, h2, h3, h4, h5, h6, h7, h8, h9, h10, h11, h12, h13, h14⟩ := h
  dsimp only at h6 h7 h8 h9 h10 h11
  have z200 : (200 : Int32).toInt = 200 := rfl
  have et := zofn_i (m := t) (by omega)
  have ec := zofn_i (m := C.length) (by omega)
  have e1 : ((200 : Int32) * Int32.ofNat t).toInt = 200 * (t : Int) := by rw [zmul (by rw [z200]; omega) (by rw [z200]; omega), z200, et]
  have e2 : ((200 : Int32) * Int32.ofNat t + Int32.ofNat C.length).toInt = ((200 * t + C.length : Nat) : Int) := by rw [zadd (by omega) (by omega)]; omega
  have n2 : ((200 : Int32) * Int32.ofNat t + Int32.ofNat C.length).toNatClampNeg = 200 * t + C.length := by rw [zcl_iff, e2]; omega
  refine ⟨uI (uI J 88 (200 * t + C.length) x) 81 30 (J 81 30 + 1), ?_, ⟨?_, fun k hk => ?_, fun j hj => ?_, ?_, ?_, ?_, ?_, ?_, ?_, ?_, ?_, h12, h13, h14⟩, ⟨fun b x1 x2 x3 => by rw [uI_ne x1, uI_ne x2], fun j hj => by rw [uI_off (by omega), uI_ne (by decide)], fun k hk => by rw [uI_ne (by decide), uI_off (by omega)]⟩, fun j hj => by rw [uI_off hj, uI_ne (by decide)]⟩
  · unfold f12_puts
    rw [h5, h8, if_pos (zib_ok (by omega) (by omega)), zl_eq, zl_eq, n2, uI_ne (show (81 : Nat) ≠ 88 by decide), h8]
  · rw [uI_off (by decide), uI_ne (by decide)]; exact h1
  · rw [uI_ne (by decide), uI_ne (by decide)]; exact h2 k hk
  · rw [uI_ne (by decide), uI_ne (by decide)]; exact h3 j hj
  · rw [uI_off (by decide), uI_ne (by decide)]; exact h4
  · rw [uI_off (by decide), uI_ne (by decide)]; exact h5
  · rw [uI_off (by decide), uI_ne (by decide)]; exact h6
  · rw [uI_off (by decide), uI_ne (by decide)]; exact h7
  · rw [uI_at, h8, zofs (by omega)]; rfl
  · rw [uI_ne (by decide), uI_ne (by decide)]; exact h9
  · rw [uI_ne (by decide)]
    exact zhs_push h10
  · dsimp only
    rw [List.length_cons]
    omega
theorem zRS_hold {J : zMI} {p : Nat} {S C : List Int32} {o x : Int32} (h : zRS T z t J p (S, o, C)) (hp : S.length + C.length + 1 ≤ p) : ∃ J', f12_holds x J = some J' ∧ zRS T z t J' p (x :: S, o, C) ∧ zFR t J J' ∧ ∀ j, j ≠ 28 → J' 81 j = J 81 j := by
  obtain ⟨h1, h2, h3, h4, h5, h6, h7, h8, h9, h10, h11, h12, h13, h14⟩ := h
  dsimp only at h6 h7 h8 h9 h10 h11
  have es := zofn_i (m := S.length) (by omega)
  refine ⟨uI (uI J 96 S.length x) 81 28 (J 81 28 + 1), ?_, ⟨?_, fun k hk => ?_, fun j hj => ?_, ?_, ?_, ?_, ?_, ?_, ?_, ?_, ?_, h12, h13, h14⟩, ⟨fun b x1 x2 x3 => by rw [uI_ne x1, uI_ne x3], fun j hj => by rw [uI_off (by omega), uI_ne (by decide)], fun k hk => by rw [uI_ne (by decide), uI_ne (by decide)]⟩, fun j hj => by rw [uI_off hj, uI_ne (by decide)]⟩
  · unfold f12_holds
    rw [h6, if_pos (zib_ok (by omega) (by omega)), zl_eq, zl_eq, zofn_n (by omega), uI_ne (show (81 : Nat) ≠ 96 by decide), h6]
  · rw [uI_off (by decide), uI_ne (by decide)]; exact h1
  · rw [uI_ne (by decide), uI_ne (by decide)]; exact h2 k hk
  · rw [uI_ne (by decide), uI_ne (by decide)]; exact h3 j hj
  · rw [uI_off (by decide), uI_ne (by decide)]; exact h4
  · rw [uI_off (by decide), uI_ne (by decide)]; exact h5
  · rw [uI_at, h6, zofs (by omega)]; rfl
  · rw [uI_off (by decide), uI_ne (by decide)]; exact h7
  · rw [uI_off (by decide), uI_ne (by decide)]; exact h8
  · rw [uI_ne (by decide)]
    have := zhs_push (x := x) h9
    rw [Nat.zero_add] at this
    exact this
  · rw [uI_ne (by decide), uI_ne (by decide)]; exact h10
  · dsimp only
    rw [List.length_cons]
    omega
theorem zRS_open {J : zMI} {p : Nat} {S C : List Int32} {o x : Int32} (h : zRS T z t J p (S, o, C)) (hp : S.length + C.length + 1 ≤ p) : (o = 5 ∧ f12_opensOne x J = some (0, J)) ∨ (¬ o = 5 ∧ ∃ J', f12_opensOne x J = some (1, J') ∧ zRS T z t J' p (x :: S, o + 1, C) ∧ zFR t J J') := by
  have h7 := h.2.2.2.2.2.2.1
  dsimp only at h7
  unfold f12_opensOne
  by_cases c : o = 5
  · rw [h7, if_pos c]
    exact Or.inl ⟨c, rfl⟩
  · rw [h7, if_neg c, zl_eq]
    refine Or.inr ⟨c, ?_⟩
    have hK : zRS T z t (uI J 81 29 (o + 1)) p (S, o + 1, C) := by
      obtain ⟨h1, h2, h3, h4, h5, h6, h7, h8, h9, h10, h11, h12, h13, h14⟩ := h
      refine ⟨?_, fun k hk => ?_, fun j hj => ?_, ?_, ?_, ?_, ?_, ?_, ?_, ?_, h11, h12, h13, h14⟩
      · rw [uI_off (by decide)]; exact h1
      · rw [uI_ne (by decide)]; exact h2 k hk
      · rw [uI_ne (by decide)]; exact h3 j hj
      · rw [uI_off (by decide)]; exact h4
      · rw [uI_off (by decide)]; exact h5
      · rw [uI_off (by decide)]; exact h6
      · rw [uI_at]
      · rw [uI_off (by decide)]; exact h8
      · rw [uI_ne (by decide)]; exact h9
      · rw [uI_ne (by decide)]; exact h10
    obtain ⟨J', u1, u2, u3, -⟩ := zRS_hold (x := x) hK hp
    rw [u1, zb_some]
    exact ⟨J', rfl, u2, zFR_tr ⟨fun b x1 _ _ => uI_ne x1, fun j hj => uI_off (by omega), fun k _ => by rw [uI_ne (by decide)]⟩ u3⟩
theorem zRS_unL {p : Nat} {r : Int32} : ∀ (S : List Int32) (q : Nat) (o : Int32) (C : List Int32) (J : zMI), zRS T z t J p (S, o, C) → S.length < q →
    ∃ J', f12_unwinds_L0 q r J = some J' ∧ zRS T z t J' p (zunq r S o C) ∧ zFR t J J' ∧ ∀ j, j < 28 → J' 81 j = J 81 j := by
  intro S
  induction S with
  | nil =>
    intro q o C J h hq
    obtain ⟨q, rfl⟩ : ∃ x, q = x + 1 := ⟨q - 1, by omega⟩
    refine ⟨J, ?_, h, zFR_rfl, fun _ _ => rfl⟩
    rw [f12_unwinds_L0]
    rw [h.2.2.2.2.2.1, if_pos (by show Int32.ofNat 0 ≤ (0 : Int32); decide)]
  | cons x S ih =>
    intro q o C J h hq
    obtain ⟨q, rfl⟩ : ∃ x, q = x + 1 := ⟨q - 1, by omega⟩
    rw [List.length_cons] at hq
    obtain ⟨h1, h2, h3, h4, h5, h6, h7, h8, h9, h10, h11, h12, h13, h14⟩ := id h
    dsimp only at h6 h7 h8 h9 h10 h11
    rw [List.length_cons] at h6 h11
    have es := zofn_i (m := S.length + 1) (by omega)
    have es0 := zofn_i (m := S.length) (by omega)
    have e1 : Int32.ofNat (S.length + 1) - 1 = Int32.ofNat S.length := by rw [← zofs (by omega), zeq_iff, zsub (by rw [zadd (by rw [z1]; omega) (by rw [z1]; omega), z1]; omega) (by rw [zadd (by rw [z1]; omega) (by rw [z1]; omega), z1]; omega), zadd (by rw [z1]; omega) (by rw [z1]; omega), z1]; omega
    have top : J 96 S.length = x := by
      have := h9.1
      rw [Nat.zero_add] at this
      exact this
    rw [f12_unwinds_L0, zunq]
    rw [h6, if_neg (by rw [zle_iff, z0]; omega), e1, if_pos (zib_ok (by omega) (by omega)), zofn_n (by omega), top, g12_rank, zb_some]
    by_cases c : zrk x < r
    · rw [if_pos c, if_pos c]
      exact ⟨J, rfl, h, zFR_rfl, fun _ _ => rfl⟩
    · rw [if_neg c, if_neg c, zl_eq, uI_at, if_pos (zib_ok (by omega) (by omega)), zofn_n (by omega), uI_ne (show (96 : Nat) ≠ 81 by decide), top, zl_eq, zl_eq, uI_off (show (29 : Nat) ≠ 28 by decide), h7, zl_eq]
      have hz' : (if x = (13 : Int32) then (1 : Int32) else if x = 19 then 1 else 0) = zop x := rfl
      rw [hz']
      have hK : zRS T z t (uI (uI J 81 28 (Int32.ofNat S.length)) 81 29 (o - zop x)) p (S, o - zop x, C) := by
        refine ⟨?_, fun k hk => ?_, fun j hj => ?_, ?_, ?_, ?_, ?_, ?_, ?_, ?_, by dsimp only; omega, h12, h13, h14⟩
        · rw [uI_off (by decide), uI_off (by decide)]; exact h1
        · rw [uI_ne (by decide), uI_ne (by decide)]; exact h2 k hk
        · rw [uI_ne (by decide), uI_ne (by decide)]; exact h3 j hj
        · rw [uI_off (by decide), uI_off (by decide)]; exact h4
        · rw [uI_off (by decide), uI_off (by decide)]; exact h5
        · rw [uI_off (by decide), uI_at]
        · rw [uI_at]
        · rw [uI_off (by decide), uI_off (by decide)]; exact h8
        · rw [uI_ne (by decide), uI_ne (by decide)]; exact h9.2
        · rw [uI_ne (by decide), uI_ne (by decide)]; exact h10
      obtain ⟨K', p1, p2, p3, p4⟩ := zRS_puts (x := x) hK (by omega)
      obtain ⟨J', u1, u2, u3, u4⟩ := ih q (o - zop x) (x :: C) K' p2 (by omega)
      rw [p1, zb_some]
      refine ⟨J', u1, u2, zFR_tr (zFR_tr ⟨fun b x1 _ _ => by rw [uI_ne x1, uI_ne x1], fun j hj => by rw [uI_off (by omega), uI_off (by omega)], fun k _ => by rw [uI_ne (by decide), uI_ne (by decide)]⟩ p3) u3, fun j hj => by rw [u4 j hj, p4 j (by omega), uI_off (by omega), uI_off (by omega)]⟩
theorem zRS_un {J : zMI} {p : Nat} {s : zSt} (r : Int32) (h : zRS T z t J p s) : ∃ J', f12_unwinds r J = some J' ∧ zRS T z t J' p (zunq r s.1 s.2.1 s.2.2) ∧ zFR t J J' ∧ ∀ j, j < 28 → J' 81 j = J 81 j := by
  obtain ⟨S, o, C⟩ := s
  have h11 := h.2.2.2.2.2.2.2.2.2.2.1
  have h12 := h.2.2.2.2.2.2.2.2.2.2.2.1
  have h13 := h.2.2.2.2.2.2.2.2.2.2.2.2.1
  dsimp only at h11
  unfold f12_unwinds
  exact zRS_unL S zF o C J h (by unfold zF; omega)
end
