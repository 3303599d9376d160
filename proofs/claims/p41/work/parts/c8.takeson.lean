/-! pure part: one takes on -/
section
variable {sl : Nat} {sf : Nat → Int32} {J J' : zMI} {h h' : zML} {c c' : Int} {x x' w : Nat} {t : Int32}
theorem y_wk (hm : (sMany sl sf).toInt ≤ 3) (R : yRel sl sf c x J h) (hw : w < (sMany sl sf).toInt.toNat) (hx : x = w ∨ (sMany sl sf).toInt.toNat ≤ x) (hc : c ≤ c') (hj : ∀ b k, b ≠ 97 → b ≠ 98 → ¬ ((b = 100 ∨ b = 101 ∨ b = 102 ∨ b = 105) ∧ k = w) → J' b k = J b k) (hh : ∀ j, j ≠ 30 + w → j ≠ 35 + w → j ≠ 40 + w → j ≠ 55 + w → h' j = h j) (W : yW c' (if w = x' then 9 else 8) J' h' w) (hx' : x' = w ∨ (sMany sl sf).toInt.toNat ≤ x') : yRel sl sf c' x' J' h' := by
  obtain ⟨r1, r2, r3, r4, r5, r6⟩ := R
  have row : ∀ b, b ≠ 97 → b ≠ 98 → (b < 100 ∨ 105 < b ∨ b = 103 ∨ b = 104) → J' b = J b := fun b x1 x2 x3 => funext fun k => hj b k x1 x2 (by omega)
  refine ⟨fun w' hw' => ?_, fun k hk => yH_eq (r2 k hk) hc (fun b x1 x2 => by rw [row b (by omega) (by omega) (by omega)]) (fun y hy => ?_), yG_eq r3 (by rw [row 81 (by decide) (by decide) (by decide)]) (by rw [row 81 (by decide) (by decide) (by decide)]) (row 110 (by decide) (by decide) (by decide)) (fun y y1 y2 => hh y (by omega) (by omega) (by omega) (by omega)), yD_eq hm r4 (fun y hy => hh y (by omega) (by omega) (by omega) (by omega)), yI_eq (by omega) r5 (fun y hy => hh y (by omega) (by omega) (by omega) (by omega)), zDef_fr r6 (fun b x1 x2 => row b (by omega) (by omega) (by omega)) (by rw [row 81 (by decide) (by decide) (by decide)]) (by rw [row 81 (by decide) (by decide) (by decide)]) (by rw [row 81 (by decide) (by decide) (by decide)])⟩
  · by_cases q : w' = w
    · rw [q]
      exact W
    · have X := r1 w' hw'
      rw [if_neg (by omega)] at X ⊢
      refine yW_eq X hc (fun b x1 x2 => hj b w' (by omega) (by omega) (by omega)) (fun y hy => ?_)
      simp only [List.mem_cons, List.not_mem_nil, or_false] at hy
      exact hh (y + w') (by omega) (by omega) (by omega) (by omega)
  · simp only [List.mem_cons, List.not_mem_nil, or_false] at hy
    exact hh (y + k) (by omega) (by omega) (by omega) (by omega)
/-- the law's step of one that takes -/
def yTk (sl : Nat) (sf : Nat → Int32) (w : Nat) (t : Int32) (h : zML) (k : zML → Option zML) : Option zML :=
  if zib ((40 : Int32) + Int32.ofNat w) 130 = true then
  zl (zuL h ((40 : Int32) + Int32.ofNat w).toNatClampNeg ((h ((40 : Int32) + Int32.ofNat w).toNatClampNeg) - (1 : Int64))) fun J39 =>
  if (lg_cmp (J39 ((40 : Int32) + Int32.ofNat w).toNatClampNeg) (0 : Int64)) ≤ (0 : Int32) then
  zb (fL_lift sl sf (Int32.ofNat w) t J39) fun p42 =>
  if zib ((30 : Int32) + Int32.ofNat w) 130 = true then
  if zib ((70 : Int32) + ((p42 ((30 : Int32) + Int32.ofNat w).toNatClampNeg).toInt32)) 130 = true then
  zb (fL_steps p42 sl sf (Int32.ofNat w) (p42 ((70 : Int32) + ((p42 ((30 : Int32) + Int32.ofNat w).toNatClampNeg).toInt32)).toNatClampNeg)) fun p46 =>
  zl (zuL p42 ((40 : Int32) + Int32.ofNat w).toNatClampNeg p46.toInt64) fun J48 =>
  zl (zuL J48 ((30 : Int32) + Int32.ofNat w).toNatClampNeg (((J48 ((30 : Int32) + Int32.ofNat w).toNatClampNeg) + (1 : Int64)) - ((J48 ((30 : Int32) + Int32.ofNat w).toNatClampNeg) + (1 : Int64)) / (9 : Int64) * (9 : Int64))) fun J50 =>
  zl (zuL J50 ((35 : Int32) + Int32.ofNat w).toNatClampNeg (0 : Int64)) fun J52 => k J52
  else none
  else none
  else k J39
  else none
theorem y_takesOn (hL : sl ≤ 260) (R : yRel sl sf c (sMany sl sf).toInt.toNat J h) (hw : w < (sMany sl sf).toInt.toNat) (h2 : (J 101 w).toInt = 2) (ht : 0 ≤ t.toInt ∧ t.toInt ≤ 600) (hc : 0 ≤ c ∧ c ≤ 4000) (hJ : f12_takesOn (Int32.ofNat w) t J = some J') :
    ∃ h', (∀ k, yTk sl sf w t h k = k h') ∧ yRel sl sf (c + 2) (sMany sl sf).toInt.toNat J' h' ∧ zFJ J J' := by
  have my := s_many (sf := sf) hL
  have ew := zofn_i (m := w) (by omega)
  have nw := zofn_n (m := w) (by omega)
  have W := R.1 w hw
  rw [if_neg (by omega)] at W
  obtain ⟨w30, w35, w40, w45, w50, w55, w60, w8⟩ := id W
  have w8' := w8 rfl (fun q => by rw [q] at h2; exact absurd h2 (by decide))
  have b30 : zib ((30 : Int32) + Int32.ofNat w) 130 = true := tib 30 (by omega)
  have b40 : zib ((40 : Int32) + Int32.ofNat w) 130 = true := tib 40 (by omega)
  have i30 : ((30 : Int32) + Int32.ofNat w).toNatClampNeg = 30 + w := tix 30 (by omega)
  have i35 : ((35 : Int32) + Int32.ofNat w).toNatClampNeg = 35 + w := tix 35 (by omega)
  have i40 : ((40 : Int32) + Int32.ofNat w).toNatClampNeg = 40 + w := tix 40 (by omega)
  have l0 : (0 : Int64).toInt = 0 := rfl
  have l1 : (1 : Int64).toInt = 1 := rfl
  have l9 : (9 : Int64).toInt = 9 := rfl
  have zw : zib (Int32.ofNat w) 5 = true := zib_ok (by omega) (by omega)
  obtain ⟨J12, hJ12⟩ : ∃ K, uI J 102 w (J 102 w - 1) = K := ⟨_, rfl⟩
  obtain ⟨h39, hh39⟩ : ∃ K, zuL h (40 + w) (h (40 + w) - 1) = K := ⟨_, rfl⟩
  have e102 : (J 102 w - 1).toInt = (J 102 w).toInt - 1 := by
    have := w40.2
    rw [zsub (by rw [z1]; omega) (by rw [z1]; omega), z1]
  have e40 : (h (40 + w) - 1).toInt = (J 102 w).toInt - 1 := by
    have := w40.1; have := w40.2
    rw [zlsub (by rw [l1]; omega) (by rw [l1]; omega), l1]
    omega
  have a102 : J12 102 w = J 102 w - 1 := by rw [← hJ12, uI_at]
  have a40 : h39 (40 + w) = h (40 + w) - 1 := by rw [← hh39, zuL_at]
  have aJ : ∀ b k, ¬ (b = 102 ∧ k = w) → J12 b k = J b k := fun b k q => by
    rw [← hJ12]
    by_cases q1 : b = 102
    · rw [q1, uI_off (by omega)]
    · rw [uI_ne q1]
  have ah : ∀ j, j ≠ 40 + w → h39 j = h j := fun j q => by rw [← hh39, zuL_ne q]
  have WW : ∀ u : Int, (u = 8 → 1 ≤ (J 102 w).toInt - 1) → 8 ≤ u → yW c u J12 h39 w := fun u hu hu2 => by
    unfold yW yq
    rw [aJ 100 w (by omega), aJ 101 w (by omega), aJ 103 w (by omega), aJ 104 w (by omega), aJ 105 w (by omega), aJ 106 w (by omega), a102, a40, ah (30 + w) (by omega), ah (35 + w) (by omega), ah (45 + w) (by omega), ah (50 + w) (by omega), ah (55 + w) (by omega), ah (60 + w) (by omega)]
    refine ⟨w30, w35, ⟨by rw [e40, e102], by rw [e102]; omega, by rw [e102]; have := w40.2; omega⟩, ⟨w45.1, w45.2.1, by have := w45.2.2; omega⟩, w50, w55, w60, fun q _ => by rw [e102]; exact hu q⟩
  unfold f12_takesOn at hJ
  rw [if_pos zw, zl_eq, nw, hJ12, a102] at hJ
  by_cases q : (J 102 w).toInt - 1 ≤ 0
  case neg =>
    rw [if_neg (by rw [zle_iff, e102, z0]; exact q)] at hJ
    have e := (Option.some.inj hJ).symm
    refine ⟨h39, fun k => ?_, ?_, ?_⟩
    · unfold yTk
      rw [if_pos b40, zl_eq, i40, hh39, a40, if_neg (by rw [tl_cmple, e40, l0]; exact q)]
    · rw [e]
      exact y_wk my.2.2 R hw (Or.inr (Nat.le_refl _)) (by omega) (fun b k _ _ y => aJ b k (by omega)) (fun j _ _ y _ => ah j y) (by rw [if_neg (by omega)]; exact yW_eq (WW 8 (fun _ => by omega) (by decide)) (by omega) (fun _ _ _ => rfl) (fun _ _ => rfl)) (Or.inr (Nat.le_refl _))
    · rw [e]
      exact ⟨fun b x1 x2 => funext fun k => aJ b k (by omega), fun j _ => aJ 81 j (by omega)⟩
  case pos =>
    rw [if_pos (by rw [zle_iff, e102, z0]; exact q)] at hJ
    have R12 : yRel sl sf c w J12 h39 := y_wk my.2.2 R hw (Or.inr (Nat.le_refl _)) (Int.le_refl _) (fun b k _ _ y => aJ b k (by omega)) (fun j _ _ y _ => ah j y) (by rw [if_pos rfl]; exact WW 9 (fun z => absurd z (by decide)) (by decide)) (Or.inl rfl)
    obtain ⟨J1, h1, s1, s2, s3, s4, s5⟩ := y_lifts (t := t) hL R12 (by rw [aJ 103 w (by omega)]; exact w45.2.2) hw ht ⟨hc.1, by omega⟩
    rw [s1, zb_some] at hJ
    obtain ⟨J2, p1, p2⟩ : ∃ J2, (if J1 103 w = (9 : Int32) then f12_makes (Int32.ofNat w) t J1 else some J1) = some J2 ∧ f12_takesOn_B43 (Int32.ofNat w) J2 = some J' := by
      by_cases y : J1 103 w = 9
      · rw [if_pos y] at hJ ⊢
        obtain ⟨p, e, hJ⟩ := zbd hJ
        exact ⟨p, e, hJ⟩
      · rw [if_neg y] at hJ ⊢
        exact ⟨J1, rfl, hJ⟩
    obtain ⟨g, g1, g2, g3, g4, g5⟩ := y_makes (t := t) hL s3 hw ht ⟨by omega, by omega⟩ p1
    have X := g2.1 w hw
    rw [if_pos rfl] at X
    obtain ⟨x30, x35, x40, x45, x50, x55, x60, x8⟩ := X
    have j100 : J2 100 w = J 100 w := by rw [g5 100 w (Or.inl rfl), s5 100 w (Or.inl rfl), aJ 100 w (by omega)]
    obtain ⟨a, ea⟩ : ∃ a : Nat, (J 100 w).toInt = (a : Int) := ⟨(J 100 w).toInt.toNat, by have := w30.2.1; omega⟩
    have ha : a < 9 := by have := w30.2.2; omega
    have xa : J 100 w = Int32.ofNat a := by rw [zeq_iff, ea, zofn_i (by omega)]
    have eai := zofn_i (m := a) (by omega)
    have na := zofn_n (m := a) (by omega)
    have za : zib (Int32.ofNat a) 9 = true := zib_ok (by omega) (by omega)
    have y70 := (g2.2.1 a ha).1
    obtain ⟨v, K, t1, t2, t3⟩ := t_stepsOf hL g2.2.2.2.2.2 (h := Int32.ofNat a) (l := J2 107 a) (d := J2 104 w) hw ⟨y70.2.1, by have := y70.2.2; omega⟩
    have rS := qS_r (sl := sl) (sf := sf) hL (w := w) (l := (J2 107 a).toInt)
    unfold f12_takesOn_B43 at p2
    rw [if_pos zw, nw, j100, xa, if_pos za, na, t1, zb_some, zl_eq, zl_eq, zl_eq] at p2
    have e : J' = uI (uI (uI K 102 w v) 100 w (Int32.ofNat a + 1 - (Int32.ofNat a + 1) / 9 * 9)) 101 w 0 := (Option.some.inj p2).symm
    have x47 : (g (30 + w)).toInt32 = Int32.ofNat a := by rw [← xa, ← j100]; exact tl_eq32 x30.1
    have b70 : zib ((70 : Int32) + Int32.ofNat a) 130 = true := tib 70 (by omega)
    have i70 : ((70 : Int32) + Int32.ofNat a).toNatClampNeg = 70 + a := tix 70 (by omega)
    obtain ⟨u, u1, u2⟩ := tl_steps (h := g) (sf := sf) hL (w := w) (l := g (70 + a)) (by omega) (g2.2.2.2.1.2 w hw).1 (by rw [y70.1]; exact ⟨y70.2.1, by have := y70.2.2; omega⟩)
    have uv : u = v := by rw [zeq_iff, u2, t2, y70.1]
    have e30 : (g (30 + w)).toInt = (a : Int) := by rw [x30.1, j100, ea]
    have m9 : (g (30 + w) + 1 - (g (30 + w) + 1) / 9 * 9).toInt = ((a : Int) + 1) % 9 := by
      rw [zlrem (by rw [zladd (by rw [l1]; omega) (by rw [l1]; omega), e30, l1]; omega) (by decide), zladd (by rw [l1]; omega) (by rw [l1]; omega), e30, l1, l9]
    have a9 : (Int32.ofNat a + 1 - (Int32.ofNat a + 1) / 9 * 9).toInt = ((a : Int) + 1) % 9 := by
      rw [zmod_of (by rw [zadd (by rw [z1]; omega) (by rw [z1]; omega), eai, z1]; omega) (by decide), zadd (by rw [z1]; omega) (by rw [z1]; omega), eai, z1, z9]
    obtain ⟨h', hh'⟩ : ∃ h', zuL (zuL (zuL g (40 + w) v.toInt64) (30 + w) (g (30 + w) + 1 - (g (30 + w) + 1) / 9 * 9)) (35 + w) 0 = h' := ⟨_, rfl⟩
    refine ⟨h', fun k => ?_, ?_, ?_⟩
    · unfold yTk
      rw [if_pos b40, zl_eq, i40, hh39, a40, if_pos (by rw [tl_cmple, e40, l0]; exact q), s2, g1, zb_some, if_pos b30, i30, x47, if_pos b70, i70, u1, zb_some, zl_eq, zl_eq, zl_eq, i35, uv, zuL_ne (show 30 + w ≠ 40 + w by omega), hh']
    · rw [e]
      refine y_wk my.2.2 g2 hw (Or.inl rfl) (by omega) (fun b k y1 y2 y3 => ?_) (fun j y1 y2 y3 y4 => by rw [← hh', zuL_ne y2, zuL_ne y1, zuL_ne y3]) ?_ (Or.inr (Nat.le_refl _))
      · by_cases z1' : b = 101
        · rw [z1', uI_off (by omega), uI_ne (by decide), uI_ne (by decide), t3 101 (by decide) (by decide)]
        rw [uI_ne z1']
        by_cases z2' : b = 100
        · rw [z2', uI_off (by omega), uI_ne (by decide), t3 100 (by decide) (by decide)]
        rw [uI_ne z2']
        by_cases z3' : b = 102
        · rw [z3', uI_off (by omega), t3 102 (by decide) (by decide)]
        rw [uI_ne z3', t3 b y1 y2]
      · rw [if_neg (by omega)]
        unfold yW yq
        rw [uI_at, uI_ne (show (100 : Nat) ≠ 101 by decide), uI_at, uI_ne (show (102 : Nat) ≠ 101 by decide), uI_ne (show (102 : Nat) ≠ 100 by decide), uI_at, uI_ne (show (103 : Nat) ≠ 101 by decide), uI_ne (show (103 : Nat) ≠ 100 by decide), uI_ne (show (103 : Nat) ≠ 102 by decide), t3 103 (by decide) (by decide), uI_ne (show (104 : Nat) ≠ 101 by decide), uI_ne (show (104 : Nat) ≠ 100 by decide), uI_ne (show (104 : Nat) ≠ 102 by decide), t3 104 (by decide) (by decide), uI_ne (show (105 : Nat) ≠ 101 by decide), uI_ne (show (105 : Nat) ≠ 100 by decide), uI_ne (show (105 : Nat) ≠ 102 by decide), t3 105 (by decide) (by decide), uI_ne (show (106 : Nat) ≠ 101 by decide), uI_ne (show (106 : Nat) ≠ 100 by decide), uI_ne (show (106 : Nat) ≠ 102 by decide), t3 106 (by decide) (by decide)]
        rw [← hh', zuL_at, zuL_ne (show 30 + w ≠ 35 + w by omega), zuL_at, zuL_ne (show 40 + w ≠ 35 + w by omega), zuL_ne (show 40 + w ≠ 30 + w by omega), zuL_at, zuL_ne (show 45 + w ≠ 35 + w by omega), zuL_ne (show 45 + w ≠ 30 + w by omega), zuL_ne (show 45 + w ≠ 40 + w by omega), zuL_ne (show 50 + w ≠ 35 + w by omega), zuL_ne (show 50 + w ≠ 30 + w by omega), zuL_ne (show 50 + w ≠ 40 + w by omega), zuL_ne (show 55 + w ≠ 35 + w by omega), zuL_ne (show 55 + w ≠ 30 + w by omega), zuL_ne (show 55 + w ≠ 40 + w by omega), zuL_ne (show 60 + w ≠ 35 + w by omega), zuL_ne (show 60 + w ≠ 30 + w by omega), zuL_ne (show 60 + w ≠ 40 + w by omega)]
        refine ⟨⟨by rw [m9, a9], by rw [a9]; omega, by rw [a9]; omega⟩, by decide, ⟨by rw [tl_32], by omega, by omega⟩, ⟨x45.1, x45.2.1, g3⟩, ⟨x50.1, x50.2.1, by have := x50.2.2; omega⟩, ⟨x55.1, x55.2.1, by have := x55.2.2; omega⟩, x60, fun _ _ => by omega⟩
    · rw [e]
      have F12 : zFJ J J12 := ⟨fun b x1 x2 => funext fun k => aJ b k (by omega), fun j _ => aJ 81 j (by omega)⟩
      refine zFJ_tr (zFJ_tr (zFJ_tr F12 s4) g4) ⟨fun b x1 x2 => ?_, fun j hj => ?_⟩
      · rw [uI_ne (by omega), uI_ne (by omega), uI_ne (by omega), t3 b (by omega) (by omega)]
      · rw [uI_ne (by decide), uI_ne (by decide), uI_ne (by decide), t3 81 (by decide) (by decide)]
end
