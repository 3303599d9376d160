/-! pure part: one, not, and all together -/
section
variable {T : Nat → Int32} {z t : Nat} {o : Int32}
theorem zst_B159 {J : zMI} {p : Nat} {s : zSt} (h : zRS T z t J p s) : ∃ J', f12_eRead_B159 J = some (if (zuS 1 s).1 = [] then 1 else 0, J') ∧ zRS T z t J' p (zuS 1 s) ∧ zFR t J J' ∧ J' 81 23 = J 81 23 := by
  obtain ⟨J1, v1, v2, v3, v4⟩ := zRS_un 1 h
  obtain ⟨b1, b2, b3, b4⟩ := zRS_p v2
  have o2 := (zRS_o v2).2
  have e : (if J1 81 28 = (0 : Int32) then (1 : Int32) else 0) = if (zuS 1 s).1 = [] then 1 else 0 := by
    have hz : zunq 1 s.1 s.2.1 s.2.2 = zuS 1 s := rfl
    rw [hz] at o2 b1
    cases hS : (zuS 1 s).1 with
    | nil =>
      rw [hS] at o2
      rw [if_pos rfl, if_pos (by rw [o2]; rfl)]
    | cons x S =>
      rw [hS, List.length_cons] at o2 b1
      rw [if_neg (show ¬ J1 81 28 = 0 by rw [o2, zeq_iff, zofn_i (by omega), z0]; omega), if_neg (fun q => by cases q)]
  refine ⟨J1, ?_, v2, v3, v4 23 (by decide)⟩
  unfold f12_eRead_B159
  rw [v1, zb_some, e, zl_eq, if_pos (by split <;> decide)]
/-- an expression's end that can't be -/
theorem zst_stuck {q p : Nat} {J : zMI} {s : zSt} {m : Int32} (h : zRS T z t J p s) (hx : zXk (zKk T z p) s) (h8 : zopA (zKk T z p) = none) (h7 : zopO (zKk T z p) = none) (hc : zKk T z p = 41 → (zuS 1 s).1 = []) (hs : zKk T z p = 59 → ¬ (zuS 1 s).1 = []) : ∃ J', zKE (q + 1) 0 m J = some (0, J') ∧ J' 81 23 = Int32.ofNat (zKb T z p) ∧ zFR t J J' := by
  obtain ⟨x1, x2, x3⟩ := hx
  have n42 : ¬ zKk T z p = 42 := fun y => by rw [y] at x1; exact absurd x1 (by decide)
  have n43 : ¬ zKk T z p = 43 := fun y => by rw [y] at x2; exact absurd x2 (by decide)
  have n45 : ¬ zKk T z p = 45 := fun y => by rw [y] at x2; exact absurd x2 (by decide)
  have n8 : ¬ zKk T z p = 8 := fun y => by rw [y] at h8; exact absurd h8 (by decide)
  have n7 : ¬ zKk T z p = 7 := fun y => by rw [y] at h7; exact absurd h7 (by decide)
  by_cases k59 : zKk T z p = 59
  · obtain ⟨J1, u1, u2, u3, u4⟩ := zst_semi (q := q) (m := m) (k159 := f12_eRead_B159) h k59
    obtain ⟨J2, v1, v2, v3, v4⟩ := zst_B159 u2
    rw [if_neg (hs k59)] at v1
    exact ⟨J2, u1.trans v1, by rw [v4, u3], zFR_tr u4 v3⟩
  by_cases k41 : zKk T z p = 41
  · rcases zst_close (q := q) (m := m) (k159 := f12_eRead_B159) h k41 with ⟨-, y⟩ | ⟨x, S, o, C, e, -⟩
    · exact y
    · exfalso
      have := hc k41
      unfold zuS at this
      rw [e] at this
      cases this
  by_cases k60 : zKk T z p = 60
  · rcases zst_cmp (g := 14) (q := q) (m := m) (k159 := f12_eRead_B159) h (Or.inl ⟨k60, rfl⟩) with ⟨-, y⟩ | ⟨y, -⟩
    · exact y
    · exact absurd (x3 (Or.inl k60)) y
  by_cases k61 : zKk T z p = 61
  · rcases zst_cmp (g := 15) (q := q) (m := m) (k159 := f12_eRead_B159) h (Or.inr ⟨k61, rfl⟩) with ⟨-, y⟩ | ⟨y, -⟩
    · exact y
    · exact absurd (x3 (Or.inr k61)) y
  exact zst_amiss (q := q) (m := m) (k159 := f12_eRead_B159) h (fun y => by
    rcases y with y | y | y | y | y | y | y | y | y
    · exact k59 y
    · exact k41 y
    · exact n7 y
    · exact n8 y
    · exact n43 y
    · exact n45 y
    · exact n42 y
    · exact k60 y
    · exact k61 y)
theorem zGd_up {N : List Int32} {w : Int32} {bnd bnd' : Nat} (h : zGd (o + 1) bnd' N) (ho : (o + 1).toInt.toNat = o.toInt.toNat + 1) (hb : bnd ≤ 5 + bnd') (hl : 5 * o.toInt.toNat + bnd ≤ 30) (h1 : zne w = 1) (hw : zwk w) : zGd o bnd (w :: N) := by
  refine ⟨fun d hd => ?_, fun x hx => ?_⟩
  · show (zds N d).bind _ = _
    rw [h.1 d (by omega)]
    show (if zne w ≤ d + 1 ∧ d + 1 < 40 then some (d + 1 - zne w + 1) else none) = _
    rw [h1, if_pos (by omega)]
    rfl
  · rw [List.mem_cons] at hx
    rcases hx with hx | hx
    · rw [hx]; exact hw
    · exact h.2 x hx
theorem zSP_One {rc : Nat → Int32 → zMI → Option zMI} (ho : 0 ≤ o.toInt ∧ o.toInt ≤ 5) (hO : o.toInt < 5 → zSP T z t (rc 0 (o + 1)) (o + 1) 0 (ztp 1) zmB (zA6 (o + 1))) (h1 : o.toInt < 5 → zSP T z t (rc 2 (o + 1)) (o + 1) 5 (fun _ => True) zmA (zA1 (o + 1))) : zSP T z t (f7_readOne rc o) o 5 (fun _ => True) zmA (zA1 o) := by
  intro I p W hI hW
  have hz := hI.2.2.2.2.2.2.2.2.2
  have hk := hI.2.2.2.1
  have h6 := hI.2.2.2.2.2.2.1
  have rb := zKb_r (T := T) hz.1
  have re := zKe_r (T := T) hz.1
  have e5 : o < 5 ↔ o.toInt < 5 := by rw [zlt_iff, zn5i]
  have eo : (o + 1).toInt = o.toInt + 1 := by rw [zadd (by rw [z1]; omega) (by rw [z1]; omega), z1]
  have eo1 : o + 1 - 1 = o := by rw [zeq_iff, zsub (by rw [eo, z1]; omega) (by rw [eo, z1]; omega), eo, z1]; omega
  have may1 : o.toInt < 5 → f7_mayOpen o I = some (1, I) := fun h => by
    unfold f7_mayOpen f7_mayOpen_B9
    rw [if_pos (e5.mpr h), if_pos h6, zl_eq, if_pos (by decide)]
  obtain ⟨IF, f1, f2, f3, f4⟩ := zCS_fail hI
  have may0 : ¬ o.toInt < 5 → f7_mayOpen o I = some (0, IF) := fun h => by
    unfold f7_mayOpen f7_mayOpen_B9
    rw [if_neg (fun y => h (e5.mp y)), f1, zb_some, if_neg (zVS_n1 f2), zl_eq, if_pos (by decide)]
  have failF : f7_fail IF = some IF := by
    unfold f7_fail
    rw [if_neg (zVS_n1 f2)]
  by_cases k23 : zKk T z p = 2 ∨ zKk T z p = 3
  · obtain ⟨a1, a2, a3, a4⟩ := zKw_wk (T := T) hz.1 k23
    have pos := re.2.2 a4
    obtain ⟨I1, u1, u2, u3⟩ := zCS_put (x := zKw T z p) hI (by omega)
    obtain ⟨I2, v1, v2, v3⟩ := zCS_next u2
    refine ⟨I2, ?_, zFC_tr u3 v3, Or.inl ⟨zKe T z p, [zKw T z p], v2, by rw [List.length_singleton]; omega, ⟨fun d hd => ?_, fun x hx => ?_⟩, fun q J S m h1 h2 h3 h4 => ?_⟩⟩
    · have B : f7_readOne_B16 rc I = some I2 := by
        unfold f7_readOne_B16
        rw [hI.2.2.2.2.2.1 k23, u1, zb_some, v1, zb_some]
      unfold f7_readOne
      rw [hk]
      rcases k23 with k | k
      · rw [if_pos k]
        exact B
      · rw [if_neg (by rw [k]; decide), if_pos k]
        exact B
    · show (if zne (zKw T z p) ≤ d ∧ d < 40 then some (d - zne (zKw T z p) + 1) else none) = _
      rw [a2, if_pos (by omega)]
      rfl
    · rw [List.mem_singleton] at hx
      rw [hx]
      exact a1
    · obtain ⟨q, rfl⟩ : ∃ x, q = x + 1 := ⟨q - 1, by omega⟩
      obtain ⟨J', y1, y2, y3⟩ := zst_operand (q := q) (m := m) (k159 := f12_eRead_B159) h4 k23
      exact ⟨q, m, J', _, by omega, y1, y2, y3, rfl⟩
  by_cases k45 : zKk T z p = 45
  · have pos := zKk_pos (T := T) hz.1 (by rw [k45]; decide)
    by_cases c : o.toInt < 5
    · obtain ⟨I1, u1, u2, u3⟩ := zCS_next hI
      obtain ⟨I2, v1, v2, v3⟩ := h1 c I1 (zKe T z p) W u2 (by omega)
      have F : f7_readOne rc o I = zb (f7_put (-22) I2) fun p29 => some p29 := by
        unfold f7_readOne
        rw [hk, k45, if_neg (by decide), if_neg (by decide), if_pos rfl, may1 c, zb_some]
        dsimp only
        rw [if_neg (by decide), u1, zb_some, v1, zb_some]
      have ref : ∀ (q : Nat) (J : zMI) (S : List Int32) (m : Int32), 200 ≤ q + p → zRS T z t J p (S, o, W.map zw2c) → ∃ q' J', 200 ≤ q' + zKe T z p ∧ zKE q 1 m J = zKE q' 1 0 J' ∧ zRS T z t J' (zKe T z p) (19 :: S, o + 1, W.map zw2c) ∧ zFR t J J' := fun q J S m h1 h4 => by
        obtain ⟨q, rfl⟩ : ∃ x, q = x + 1 := ⟨q - 1, by omega⟩
        rcases zst_opens (q := q) (m := m) (g := 19) (k159 := f12_eRead_B159) h4 (Or.inl ⟨k45, rfl⟩) with ⟨y, -⟩ | ⟨-, J', y1, y2, y3⟩
        · rw [zeq_iff, zn5i] at y
          omega
        · exact ⟨q, J', by omega, y1, y2, y3⟩
      rcases v3 with ⟨p', N, w1, w2, w3, w4⟩ | ⟨b, w1, w2⟩
      · have hz' := w1.2.2.2.2.2.2.2.2.2
        obtain ⟨I3, x1, x2, x3⟩ := zCS_put (x := -22) w1 (by rw [List.length_append]; omega)
        refine ⟨I3, by rw [F, x1, zb_some], zFC_tr (zFC_tr u3 v2) x3, Or.inl ⟨p', -22 :: N, x2, by rw [List.length_cons]; omega, zGd_up w3 (by omega) (by omega) (by omega) (by decide) (by unfold zwk; decide), fun q J S m g1 g2 g3 g4 => ?_⟩⟩
        obtain ⟨q', J', a1, a2, a3, a4⟩ := ref q J S m g1 g4
        obtain ⟨q'', m'', J'', s'', b1, b2, b3, b4, b5⟩ := w4 q' J' (19 :: S) 0 a1 trivial (fun y => absurd rfl y) a3
        refine ⟨q'', m'', J'', s'', b1, a2.trans b2, b3, zFR_tr a4 b4, ?_⟩
        have b6 : s'' = zunq 7 (19 :: S) (o + 1) ((N ++ W).map zw2c) := b5
        show s'' = zunq 7 S o _
        rw [b6, zunq, if_neg (by decide), show zop 19 = 1 from rfl, eo1]
        rfl
      · obtain ⟨I3, x1, x2, x3⟩ := zV_put (x := -22) I2 w1
        refine ⟨I3, by rw [F, x1, zb_some], zFC_tr (zFC_tr u3 v2) x3, Or.inr ⟨b, x2, fun q J S m g1 g2 g3 g4 => ?_⟩⟩
        obtain ⟨q', J', a1, a2, a3, a4⟩ := ref q J S m g1 g4
        obtain ⟨J'', b1, b2, b3⟩ := w2 q' J' (19 :: S) 0 a1 trivial (fun y => absurd rfl y) a3
        exact ⟨J'', a2.trans b1, b2, zFR_tr a4 b3⟩
    · refine ⟨IF, ?_, f3, Or.inr ⟨_, f2, fun q J S m g1 g2 g3 g4 => ?_⟩⟩
      · unfold f7_readOne
        rw [hk, k45, if_neg (by decide), if_neg (by decide), if_pos rfl, may0 c, zb_some]
        dsimp only
        rw [if_pos rfl]
        unfold f7_readOne_B68
        rw [f4, k45, if_neg (by decide), failF, zb_some]
      · obtain ⟨q, rfl⟩ : ∃ x, q = x + 1 := ⟨q - 1, by omega⟩
        rcases zst_opens (q := q) (m := m) (g := 19) (k159 := f12_eRead_B159) g4 (Or.inl ⟨k45, rfl⟩) with ⟨-, y⟩ | ⟨y, -⟩
        · exact y
        · exfalso
          apply y
          rw [zeq_iff, zn5i]
          omega
  have n2 : ¬ zKk T z p = 2 := fun y => k23 (Or.inl y)
  have n3 : ¬ zKk T z p = 3 := fun y => k23 (Or.inr y)
  have F68 : f7_readOne rc o I = f7_readOne_B68 rc o I := by
    unfold f7_readOne
    rw [hk, if_neg n2, if_neg n3, if_neg k45]
  by_cases k40 : zKk T z p = 40
  · have pos := zKk_pos (T := T) hz.1 (by rw [k40]; decide)
    by_cases c : o.toInt < 5
    · obtain ⟨I1, u1, u2, u3⟩ := zCS_next hI
      obtain ⟨I2, v1, v2, v3⟩ := hO c I1 (zKe T z p) W u2 (by omega)
      have F : f7_readOne rc o I = zb (f7_expect 41 I2) fun p17 => some p17 := by
        rw [F68]
        unfold f7_readOne_B68
        rw [hk, if_pos k40, may1 c, zb_some]
        dsimp only
        rw [if_neg (by decide), u1, zb_some, v1, zb_some]
      have ref : ∀ (q : Nat) (J : zMI) (S : List Int32) (m : Int32), 200 ≤ q + p → zRS T z t J p (S, o, W.map zw2c) → ∃ q' J', 200 ≤ q' + zKe T z p ∧ zKE q 1 m J = zKE q' 1 1 J' ∧ zRS T z t J' (zKe T z p) (0 :: S, o + 1, W.map zw2c) ∧ zFR t J J' := fun q J S m h1 h4 => by
        obtain ⟨q, rfl⟩ : ∃ x, q = x + 1 := ⟨q - 1, by omega⟩
        rcases zst_opens (q := q) (m := m) (g := 0) (k159 := f12_eRead_B159) h4 (Or.inr (Or.inl ⟨k40, rfl⟩)) with ⟨y, -⟩ | ⟨-, J', y1, y2, y3⟩
        · rw [zeq_iff, zn5i] at y
          omega
        · exact ⟨q, J', by omega, y1, y2, y3⟩
      have t0 : ∀ S, ztp 1 (0 :: S) := fun S x S' y => by cases y; decide
      rcases v3 with ⟨p', N, w1, w2, w3, w4⟩ | ⟨b, w1, w2⟩
      · have hz' := w1.2.2.2.2.2.2.2.2.2
        by_cases k41 : zKk T z p' = 41
        · have pos' := zKk_pos (T := T) hz'.1 (by rw [k41]; decide)
          obtain ⟨I3, x1, x2, x3⟩ := zCS_next w1
          refine ⟨I3, ?_, zFC_tr (zFC_tr u3 v2) x3, Or.inl ⟨zKe T z p', N, x2, by omega, ⟨fun d hd => w3.1 d (by omega), w3.2⟩, fun q J S m g1 g2 g3 g4 => ?_⟩⟩
          · rw [F]
            unfold f7_expect
            rw [w1.2.2.2.1, if_pos k41, x1, zb_some, zb_some]
          · obtain ⟨q', J', a1, a2, a3, a4⟩ := ref q J S m g1 g4
            obtain ⟨q'', m'', J'', s'', b1, b2, b3, b4, b5, b6⟩ := w4 q' J' (0 :: S) 1 a1 (t0 S) (by show ¬ (1 : Int32) = 0; decide) a3
            obtain ⟨q'', rfl⟩ : ∃ x, q'' = x + 1 := ⟨q'' - 1, by omega⟩
            have b7 : zunq 1 s''.1 s''.2.1 s''.2.2 = (0 :: S, o + 1, (N ++ W).map zw2c) := b5
            rcases zst_close (q := q'') (m := m'') (k159 := f12_eRead_B159) b3 k41 with ⟨y, -⟩ | ⟨x, S1, o1, C1, e, J3, y1, y2, y3⟩
            · rw [b7] at y
              cases y
            · rw [b7] at e
              cases e
              rw [eo1] at y2
              exact ⟨q'', m'', J3, _, by omega, (a2.trans b2).trans y1, y2, zFR_tr (zFR_tr a4 b4) y3, rfl⟩
        · obtain ⟨I3, x1, x2, x3, -⟩ := zCS_fail w1
          refine ⟨I3, ?_, zFC_tr (zFC_tr u3 v2) x3, Or.inr ⟨_, x2, fun q J S m g1 g2 g3 g4 => ?_⟩⟩
          · rw [F]
            unfold f7_expect
            rw [w1.2.2.2.1, if_neg k41, x1, zb_some, zb_some]
          · obtain ⟨q', J', a1, a2, a3, a4⟩ := ref q J S m g1 g4
            obtain ⟨q'', m'', J'', s'', b1, b2, b3, b4, b5, ⟨b6, b7⟩, b8⟩ := w4 q' J' (0 :: S) 1 a1 (t0 S) (by show ¬ (1 : Int32) = 0; decide) a3
            obtain ⟨q'', rfl⟩ : ∃ x, q'' = x + 1 := ⟨q'' - 1, by omega⟩
            obtain ⟨J3, y1, y2, y3⟩ := zst_stuck (q := q'') (m := m'') b3 b6 b7 b8 (fun y => absurd y k41) (fun _ => by rw [b5]; exact fun y => by cases y)
            exact ⟨J3, (a2.trans b2).trans y1, y2, zFR_tr (zFR_tr a4 b4) y3⟩
      · obtain ⟨I3, x1, x2, x3⟩ := zV_expect (x := 41) I2 w1
        refine ⟨I3, by rw [F, x1, zb_some], zFC_tr (zFC_tr u3 v2) x3, Or.inr ⟨b, x2, fun q J S m g1 g2 g3 g4 => ?_⟩⟩
        obtain ⟨q', J', a1, a2, a3, a4⟩ := ref q J S m g1 g4
        obtain ⟨J'', b1, b2, b3⟩ := w2 q' J' (0 :: S) 1 a1 (t0 S) (by show ¬ (1 : Int32) = 0; decide) a3
        exact ⟨J'', a2.trans b1, b2, zFR_tr a4 b3⟩
    · refine ⟨IF, ?_, f3, Or.inr ⟨_, f2, fun q J S m g1 g2 g3 g4 => ?_⟩⟩
      · rw [F68]
        unfold f7_readOne_B68
        rw [hk, if_pos k40, may0 c, zb_some]
        dsimp only
        rw [if_pos rfl, failF, zb_some]
      · obtain ⟨q, rfl⟩ : ∃ x, q = x + 1 := ⟨q - 1, by omega⟩
        rcases zst_opens (q := q) (m := m) (g := 0) (k159 := f12_eRead_B159) g4 (Or.inr (Or.inl ⟨k40, rfl⟩)) with ⟨-, y⟩ | ⟨y, -⟩
        · exact y
        · exfalso
          apply y
          rw [zeq_iff, zn5i]
          omega
  refine ⟨IF, ?_, f3, Or.inr ⟨_, f2, fun q J S m g1 g2 g3 g4 => ?_⟩⟩
  · rw [F68]
    unfold f7_readOne_B68
    rw [hk, if_neg k40, f1, zb_some]
  · obtain ⟨q, rfl⟩ : ∃ x, q = x + 1 := ⟨q - 1, by omega⟩
    exact zst_wrong (q := q) (k159 := f12_eRead_B159) g4 (fun y => by
      rcases y with y | y | y | y | ⟨y1, y2⟩
      · exact n2 y
      · exact n3 y
      · exact k45 y
      · exact k40 y
      · exact g3 y2 y1)
theorem zSP_Not {rc : Nat → Int32 → zMI → Option zMI} (ho : 0 ≤ o.toInt ∧ o.toInt ≤ 5) (hN : o.toInt < 5 → zSP T z t (rc 1 (o + 1)) (o + 1) 2 (ztp 4) zmB (zA4 (o + 1))) (h1 : zSP T z t (rc 2 o) o 5 (fun _ => True) zmA (zA1 o)) (hV : ∀ b, zVF T z b (rc 2 o)) : zSP T z t (f7_readNot rc o) o 2 (ztp 4) zmB (zA4 o) := by
  intro I p W hI hW
  have hz := hI.2.2.2.2.2.2.2.2.2
  have hk := hI.2.2.2.1
  have h6 := hI.2.2.2.2.2.2.1
  have re := zKe_r (T := T) hz.1
  have e5 : o < 5 ↔ o.toInt < 5 := by rw [zlt_iff, zn5i]
  have eo : (o + 1).toInt = o.toInt + 1 := by rw [zadd (by rw [z1]; omega) (by rw [z1]; omega), z1]
  have eo1 : o + 1 - 1 = o := by rw [zeq_iff, zsub (by rw [eo, z1]; omega) (by rw [eo, z1]; omega), eo, z1]; omega
  have o0 : o - 0 = o := by rw [zeq_iff, zsub (by rw [z0]; omega) (by rw [z0]; omega), z0]; omega
  by_cases k9 : zKk T z p = 9
  · have pos := zKk_pos (T := T) hz.1 (by rw [k9]; decide)
    by_cases c : o.toInt < 5
    · have may1 : f7_mayOpen o I = some (1, I) := by
        unfold f7_mayOpen f7_mayOpen_B9
        rw [if_pos (e5.mpr c), if_pos h6, zl_eq, if_pos (by decide)]
      obtain ⟨I1, u1, u2, u3⟩ := zCS_next hI
      obtain ⟨I2, v1, v2, v3⟩ := hN c I1 (zKe T z p) W u2 (by omega)
      have F : f7_readNot rc o I = zb (f7_put (-21) I2) fun p23 => some p23 := by
        unfold f7_readNot
        rw [hk, if_pos k9, may1, zb_some]
        dsimp only
        rw [if_neg (by decide), u1, zb_some, v1, zb_some]
      have ref : ∀ (q : Nat) (J : zMI) (S : List Int32) (m : Int32), 200 ≤ q + p → ¬ m = 0 → zRS T z t J p (S, o, W.map zw2c) → ∃ q' J', 200 ≤ q' + zKe T z p ∧ zKE q 1 m J = zKE q' 1 m J' ∧ zRS T z t J' (zKe T z p) (13 :: S, o + 1, W.map zw2c) ∧ zFR t J J' := fun q J S m h1 hm h4 => by
        obtain ⟨q, rfl⟩ : ∃ x, q = x + 1 := ⟨q - 1, by omega⟩
        rcases zst_opens (q := q) (m := m) (g := 13) (k159 := f12_eRead_B159) h4 (Or.inr (Or.inr ⟨k9, hm, rfl⟩)) with ⟨y, -⟩ | ⟨-, J', y1, y2, y3⟩
        · rw [zeq_iff, zn5i] at y
          omega
        · rw [if_neg (show ¬ (13 : Int32) = 19 by decide), if_neg (show ¬ (13 : Int32) = 0 by decide)] at y1
          exact ⟨q, J', by omega, y1, y2, y3⟩
      have t0 : ∀ S, ztp 4 (13 :: S) := fun S x S' y => by cases y; decide
      rcases v3 with ⟨p', N, w1, w2, w3, w4⟩ | ⟨b, w1, w2⟩
      · have hz' := w1.2.2.2.2.2.2.2.2.2
        obtain ⟨I3, x1, x2, x3⟩ := zCS_put (x := -21) w1 (by rw [List.length_append]; omega)
        refine ⟨I3, by rw [F, x1, zb_some], zFC_tr (zFC_tr u3 v2) x3, Or.inl ⟨p', -21 :: N, x2, by rw [List.length_cons]; omega, zGd_up w3 (by omega) (by omega) (by omega) (by decide) (by unfold zwk; decide), fun q J S m g1 g2 g3 g4 => ?_⟩⟩
        obtain ⟨q', J', a1, a2, a3, a4⟩ := ref q J S m g1 (show ¬ m = 0 from g3) g4
        obtain ⟨q'', m'', J'', s'', b1, b2, b3, b4, b5, b6⟩ := w4 q' J' (13 :: S) m a1 (t0 S) (show ¬ m = 0 from g3) a3
        refine ⟨q'', m'', J'', s'', b1, a2.trans b2, b3, zFR_tr a4 b4, ?_, b6⟩
        rw [b5, zunq, if_neg (by decide), show zop 13 = 1 from rfl, eo1, List.cons_append, List.map_cons, show zw2c (-21) = 13 by decide]
      · obtain ⟨I3, x1, x2, x3⟩ := zV_put (x := -21) I2 w1
        refine ⟨I3, by rw [F, x1, zb_some], zFC_tr (zFC_tr u3 v2) x3, Or.inr ⟨b, x2, fun q J S m g1 g2 g3 g4 => ?_⟩⟩
        obtain ⟨q', J', a1, a2, a3, a4⟩ := ref q J S m g1 (show ¬ m = 0 from g3) g4
        obtain ⟨J'', b1, b2, b3⟩ := w2 q' J' (13 :: S) m a1 (t0 S) (show ¬ m = 0 from g3) a3
        exact ⟨J'', a2.trans b1, b2, zFR_tr a4 b3⟩
    · obtain ⟨IF, f1, f2, f3, f4⟩ := zCS_fail hI
      refine ⟨IF, ?_, f3, Or.inr ⟨_, f2, fun q J S m g1 g2 g3 g4 => ?_⟩⟩
      · unfold f7_readNot f7_mayOpen f7_mayOpen_B9
        rw [hk, if_pos k9, if_neg (fun y => c (e5.mp y)), f1, zb_some, if_neg (zVS_n1 f2), zl_eq, if_pos (by decide), zb_some]
        dsimp only
        rw [if_pos rfl]
      · obtain ⟨q, rfl⟩ : ∃ x, q = x + 1 := ⟨q - 1, by omega⟩
        rcases zst_opens (q := q) (m := m) (g := 13) (k159 := f12_eRead_B159) g4 (Or.inr (Or.inr ⟨k9, (show ¬ m = 0 from g3), rfl⟩)) with ⟨-, y⟩ | ⟨y, -⟩
        · exact y
        · exfalso
          apply y
          rw [zeq_iff, zn5i]
          omega
  obtain ⟨I1, u1, u2, u3⟩ := zSP_Sum ho h1 I p W hI hW
  have F : f7_readNot rc o I = if (I1 37 3) = (60 : Int32) then f7_readNot_B58 rc o I1 else if (I1 37 3) = (61 : Int32) then f7_readNot_B58 rc o I1 else some I1 := by
    unfold f7_readNot
    rw [hk, if_neg k9, u1, zb_some]
  have mAB : ∀ m, zmB m (zKk T z p) → zmA m (zKk T z p) := fun m _ _ => k9
  rcases u3 with ⟨p1, N1, w1, w2, w3, w4⟩ | ⟨b, w1, w2⟩
  · have hz1 := w1.2.2.2.2.2.2.2.2.2
    have re1 := zKe_r (T := T) hz1.1
    have hk1 := w1.2.2.2.1
    by_cases kc : zKk T z p1 = 60 ∨ zKk T z p1 = 61
    · obtain ⟨x, g, hx, hg, xk, xn, xc⟩ : ∃ x g : Int32, (if zKk T z p1 = (60 : Int32) then (-13 : Int32) else -14) = x ∧ ((zKk T z p1 = 60 ∧ g = 14) ∨ (zKk T z p1 = 61 ∧ g = 15)) ∧ zwk x ∧ zne x = 2 ∧ zw2c x = g := by
        rcases kc with k | k
        · exact ⟨-13, 14, by rw [k]; rfl, Or.inl ⟨k, rfl⟩, by unfold zwk; decide, by decide, by decide⟩
        · exact ⟨-14, 15, by rw [k]; rfl, Or.inr ⟨k, rfl⟩, by unfold zwk; decide, by decide, by decide⟩
      have pos1 := zKk_pos (T := T) hz1.1 (by rcases kc with k | k <;> rw [k] <;> decide)
      have rg : zrk g = 4 ∧ zop g = 0 := by
        rcases hg with ⟨-, e⟩ | ⟨-, e⟩ <;> rw [e] <;> decide
      obtain ⟨I2, c1, c2, c3⟩ := zCS_next w1
      obtain ⟨I3, d1, d2, d3⟩ := zSP_Sum ho h1 I2 (zKe T z p1) (N1 ++ W) c2 (by rw [List.length_append]; omega)
      have F2 : f7_readNot rc o I = zb (f7_put x I3) fun p8 => some p8 := by
        have B : f7_readNot_B58 rc o I1 = zb (f7_put x I3) fun p8 => some p8 := by
          unfold f7_readNot_B58
          rw [hk1, hx, zl_eq, c1, zb_some, d1, zb_some]
        rw [F, hk1]
        rcases kc with k | k
        · rw [if_pos k]
          exact B
        · rw [if_neg (by rw [k]; decide), if_pos k]
          exact B
      have ref : ∀ (q : Nat) (J : zMI) (S : List Int32) (m : Int32), 200 ≤ q + p → ztp 4 S → zmB m (zKk T z p) → zRS T z t J p (S, o, W.map zw2c) → ∃ q' J', 200 ≤ q' + zKe T z p1 ∧ zKE q 1 m J = zKE q' 1 0 J' ∧ zRS T z t J' (zKe T z p1) (g :: S, o, (N1 ++ W).map zw2c) ∧ zFR t J J' := fun q J S m g1 g2 g3 g4 => by
        obtain ⟨q', m', J', s', a1, a2, a3, a4, a5, a6⟩ := w4 q J S m g1 (ztp_mono g2 (by decide)) (mAB m g3) g4
        obtain ⟨q', rfl⟩ : ∃ x, q' = x + 1 := ⟨q' - 1, by omega⟩
        have a7 : zunq 5 s'.1 s'.2.1 s'.2.2 = (S, o, (N1 ++ W).map zw2c) := a5
        rcases zst_cmp (q := q') (m := m') (g := g) (k159 := f12_eRead_B159) a3 hg with ⟨⟨y, S', o', C', e, e4⟩, -⟩ | ⟨-, J2, y1, y2, y3⟩
        · exfalso
          rw [a7] at e
          cases e
          have := g2 y S' rfl
          rw [e4] at this
          exact absurd this (by decide)
        · rw [a7] at y2
          exact ⟨q', J2, by omega, a2.trans y1, y2, zFR_tr a4 y3⟩
      have t0 : ∀ S, ztp 5 (g :: S) := fun S y S' e => by cases e; rw [rg.1]; decide
      have m0 : ∀ k, zmA 0 k := fun k y => absurd rfl y
      rcases d3 with ⟨p2, N2, b1, b2, b3, b4⟩ | ⟨b, b1, b2⟩
      · have hz2 := b1.2.2.2.2.2.2.2.2.2
        have hlen2 : (N2 ++ (N1 ++ W)).length = N2.length + (N1.length + W.length) := by rw [List.length_append, List.length_append]
        obtain ⟨I4, x1, x2, x3⟩ := zCS_put (x := x) b1 (by omega)
        have eN : x :: (N2 ++ (N1 ++ W)) = (x :: (N2 ++ N1)) ++ W := by rw [List.cons_append, List.append_assoc]
        rw [eN] at x2
        refine ⟨I4, by rw [F2, x1, zb_some], zFC_tr (zFC_tr u2 c3) (zFC_tr d2 x3), Or.inl ⟨p2, x :: (N2 ++ N1), x2, by rw [List.length_cons, List.length_append]; omega, ⟨fun d hd => ?_, fun y hy => ?_⟩, fun q J S m g1 g2 g3 g4 => ?_⟩⟩
        · show (zds (N2 ++ N1) d).bind _ = _
          rw [zds_app, w3.1 d (by omega)]
          show (zds N2 (d + 1)).bind _ = _
          rw [b3.1 (d + 1) (by omega)]
          show (if zne x ≤ d + 1 + 1 ∧ d + 1 + 1 < 40 then some (d + 1 + 1 - zne x + 1) else none) = _
          rw [xn, if_pos (by omega)]
          congr 1
        · rw [List.mem_cons, List.mem_append] at hy
          rcases hy with hy | hy | hy
          · rw [hy]; exact xk
          · exact b3.2 y hy
          · exact w3.2 y hy
        · obtain ⟨q', J', a1, a2, a3, a4⟩ := ref q J S m g1 g2 g3 g4
          obtain ⟨q'', m'', J'', s'', v1, v2, v3, v4, v5, v6, v7⟩ := b4 q' J' (g :: S) 0 a1 (t0 S) (m0 _) a3
          refine ⟨q'', m'', J'', s'', v1, a2.trans v2, v3, zFR_tr a4 v4, ?_, v6, v7, fun _ => ⟨g, S, o, (N2 ++ (N1 ++ W)).map zw2c, v5, rg.1⟩⟩
          rw [← zuS_uS (r := 3) (r' := 5) (by decide) s'', v5]
          show zunq 3 (g :: S) o _ = _
          rw [zunq, if_neg (by rw [rg.1]; decide), rg.2, o0, ← eN, List.map_cons, xc]
      · obtain ⟨I4, x1, x2, x3⟩ := zV_put (x := x) I3 b1
        refine ⟨I4, by rw [F2, x1, zb_some], zFC_tr (zFC_tr u2 c3) (zFC_tr d2 x3), Or.inr ⟨b, x2, fun q J S m g1 g2 g3 g4 => ?_⟩⟩
        obtain ⟨q', J', a1, a2, a3, a4⟩ := ref q J S m g1 g2 g3 g4
        obtain ⟨J'', v1, v2, v3⟩ := b2 q' J' (g :: S) 0 a1 (t0 S) (m0 _) a3
        exact ⟨J'', a2.trans v1, v2, zFR_tr a4 v3⟩
    · refine ⟨I1, ?_, u2, Or.inl ⟨p1, N1, w1, w2, ⟨fun d hd => w3.1 d (by omega), w3.2⟩, fun q J S m g1 g2 g3 g4 => ?_⟩⟩
      · rw [F, hk1, if_neg (fun y => kc (Or.inl y)), if_neg (fun y => kc (Or.inr y))]
      · obtain ⟨q', m', J', s', a1, a2, a3, a4, a5, a6, a7⟩ := w4 q J S m g1 (ztp_mono g2 (by decide)) (mAB m g3) g4
        refine ⟨q', m', J', s', a1, a2, a3, a4, ?_, a6, a7, fun y => absurd y kc⟩
        rw [← zuS_uS (r := 3) (r' := 5) (by decide) s', a5]
        rfl
  · have B : ∃ I', f7_readNot_B58 rc o I1 = some I' ∧ zVS T z b I' ∧ zFC I1 I' := by
      obtain ⟨I2, v1, v2, v3⟩ := zV_next I1 w1
      obtain ⟨I3, x1, x2, x3⟩ := zV_Sum (hV b) I2 v2
      obtain ⟨I4, y1, y2, y3⟩ := zV_put (x := if I1 37 3 = (60 : Int32) then (-13 : Int32) else -14) I3 x2
      refine ⟨I4, ?_, y2, zFC_tr v3 (zFC_tr x3 y3)⟩
      unfold f7_readNot_B58
      rw [zl_eq, v1, zb_some, x1, zb_some, y1, zb_some]
    have ref : zRF T z t o (ztp 4) zmB p W b := fun q J S m g1 g2 g3 g4 => w2 q J S m g1 (ztp_mono g2 (by decide)) (mAB m g3) g4
    obtain ⟨I2, b1, b2, b3⟩ := B
    by_cases c : I1 37 3 = 60
    · exact ⟨I2, by rw [F, if_pos c, b1], zFC_tr u2 b3, Or.inr ⟨b, b2, ref⟩⟩
    by_cases c2 : I1 37 3 = 61
    · exact ⟨I2, by rw [F, if_neg c, if_pos c2, b1], zFC_tr u2 b3, Or.inr ⟨b, b2, ref⟩⟩
    · exact ⟨I1, by rw [F, if_neg c, if_neg c2], u2, Or.inr ⟨b, w1, ref⟩⟩
/-- all levels, with fuel enough -/
theorem zSP_all : ∀ (k : Nat) (o : Int32), 0 ≤ o.toInt → o.toInt ≤ 5 → (3 * (5 - o.toInt) ≤ k → zSP T z t (f7_readOne (fP k) o) o 5 (fun _ => True) zmA (zA1 o)) ∧ (3 * (5 - o.toInt) + 1 ≤ k → zSP T z t (f7_readNot (fP k) o) o 2 (ztp 4) zmB (zA4 o)) ∧ (3 * (5 - o.toInt) + 2 ≤ k → zSP T z t (f7_readOr (fP k) o) o 0 (ztp 1) zmB (zA6 o)) := by
  intro k
  induction k with
  | zero =>
    intro o h0 h5
    refine ⟨fun h => zSP_One ⟨h0, h5⟩ (fun y => by omega) (fun y => by omega), fun h => by omega, fun h => by omega⟩
  | succ k ih =>
    intro o h0 h5
    have eo : (o + 1).toInt = o.toInt + 1 := by rw [zadd (by rw [z1]; omega) (by rw [z1]; omega), z1]
    have one : 3 * (5 - o.toInt) ≤ k → zSP T z t (fP (k + 1) 2 o) o 5 (fun _ => True) zmA (zA1 o) := fun h => (ih o h0 h5).1 h
    refine ⟨fun h => zSP_One ⟨h0, h5⟩ (fun y => (ih (o + 1) (by omega) (by omega)).2.2 (by omega)) (fun y => (ih (o + 1) (by omega) (by omega)).1 (by omega)), fun h => zSP_Not ⟨h0, h5⟩ (fun y => (ih (o + 1) (by omega) (by omega)).2.1 (by omega)) (one (by omega)) (fun b => zV_One (rc := fP k)), fun h => zSP_Or ⟨h0, h5⟩ ((ih o h0 h5).2.1 (by omega))⟩
end
