/-! pure part: must one wait -/
/-- somebody else among the first o takes of the same heap -/
def yM (J : zMI) (w : Nat) : Nat → Bool
  | 0 => false
  | o + 1 => yM J w o || (decide (¬ o = w) && decide (J 101 o = 2) && decide (J 100 o = J 100 w))
def yb (b : Bool) : Int32 := if b = true then 1 else 0
theorem yb_or (a b : Bool) : yb a ||| yb b = yb (a || b) := by cases a <;> cases b <;> decide
section
variable {sl : Nat} {sf : Nat → Int32} {J J' : zMI} {h : zML} {c : Int} {w m : Nat} {t ord : Int32}
/-- the order by numbers -/
def yO (ord : Int32) (m : Nat) : Prop := ∀ o, o < m → ((ord >>> (((3 : Int32) * Int32.ofNat o) &&& 31)) &&& (7 : Int32)) = Int32.ofNat o
theorem tl_waitsL (hm : m ≤ 5) (hO : yO ord m) (hw : w < m) (hq : ∀ o, o < m → (h (35 + o)).toInt = (J 101 o).toInt ∧ (h (30 + o)).toInt = (J 100 o).toInt) (k : Int32 → Int32 → Int32 → Int32 → Int32 → Int32 → zML → Option zML) (l5 : Int32) : ∀ (d q o : Nat), o + d = m → d < q → fL_second_L180 sl sf k q ord (Int32.ofNat m) t l5 (Int32.ofNat w) (yb (yM J w o)) (Int32.ofNat o) h = k ord (Int32.ofNat m) t l5 (Int32.ofNat w) (yb (yM J w m)) h := by
  intro d
  induction d with
  | zero =>
    intro q o ho hq'
    obtain ⟨q, rfl⟩ : ∃ p, q = p + 1 := ⟨q - 1, by omega⟩
    have e : o = m := by omega
    subst e
    rw [fL_second_L180]
    rw [if_pos (by rw [zle_iff]; omega)]
  | succ d ih =>
    intro q o ho hq'
    obtain ⟨q, rfl⟩ : ∃ p, q = p + 1 := ⟨q - 1, by omega⟩
    have eo := zofn_i (m := o) (by omega)
    have em := zofn_i (m := m) (by omega)
    have ew := zofn_i (m := w) (by omega)
    have i35 : ((35 : Int32) + Int32.ofNat o).toNatClampNeg = 35 + o := tix 35 (by omega)
    have i30 : ((30 : Int32) + Int32.ofNat o).toNatClampNeg = 30 + o := tix 30 (by omega)
    have i30w : ((30 : Int32) + Int32.ofNat w).toNatClampNeg = 30 + w := tix 30 (by omega)
    have b35 : zib ((35 : Int32) + Int32.ofNat o) 130 = true := tib 35 (by omega)
    have b30 : zib ((30 : Int32) + Int32.ofNat o) 130 = true := tib 30 (by omega)
    have b30w : zib ((30 : Int32) + Int32.ofNat w) 130 = true := tib 30 (by omega)
    have l2 : (2 : Int64).toInt = 2 := rfl
    rw [fL_second_L180]
    rw [if_neg (by rw [zle_iff]; omega), hO o (by omega), zl_eq]
    have go0 : (decide (¬ o = w) && decide (J 101 o = 2) && decide (J 100 o = J 100 w)) = false → fL_second_B242 sl sf (fL_second_L180 sl sf k q) ord (Int32.ofNat m) t l5 (Int32.ofNat w) (Int32.ofNat o) (yb (yM J w o)) h = k ord (Int32.ofNat m) t l5 (Int32.ofNat w) (yb (yM J w m)) h := fun hf => by
      unfold fL_second_B242 fL_second_B243
      rw [zofs (by omega), show (0 : Int32) = yb false from rfl, yb_or, ← hf]
      exact ih q (o + 1) (by omega) (by omega)
    by_cases c1 : o = w
    · rw [if_pos (by rw [c1])]
      exact go0 (by simp [c1])
    rw [if_neg (by rw [zeq_iff, eo, ew]; omega), if_pos b35, i35]
    by_cases c2 : J 101 o = 2
    · rw [if_pos (by rw [tl_cmp0, (hq o (by omega)).1, c2, l2]; rfl), if_pos b30, if_pos b30w, i30, i30w]
      by_cases c3 : J 100 o = J 100 w
      · rw [if_pos (by rw [tl_cmp0, (hq o (by omega)).2, (hq w hw).2, c3])]
        unfold fL_second_B243
        rw [zofs (by omega), show (1 : Int32) = yb true from rfl, yb_or]
        have ht : (decide (¬ o = w) && decide (J 101 o = 2) && decide (J 100 o = J 100 w)) = true := by simp [c1, c2, c3]
        rw [← ht]
        exact ih q (o + 1) (by omega) (by omega)
      · rw [if_neg (by rw [tl_cmp0, (hq o (by omega)).2, (hq w hw).2]; intro z; exact c3 ((zeq_iff _ _).mpr z))]
        exact go0 (by simp [c3])
    · rw [if_neg (by rw [tl_cmp0, (hq o (by omega)).1, l2]; intro z; exact c2 ((zeq_iff _ _).mpr z))]
      exact go0 (by simp [c2])
theorem t_mustL (hm : m ≤ 5) (hw : w < m) (h34 : (J 81 34).toInt = (m : Int)) (h99 : ∀ k, k < m → J 99 k = Int32.ofNat k) : ∀ (d q o : Nat), o + d = m → d < q → yM J w o = false → f12_mustWait_L14 J q (Int32.ofNat w) (Int32.ofNat o) = some (yb (yM J w m)) := by
  intro d
  induction d with
  | zero =>
    intro q o ho hq hf
    obtain ⟨q, rfl⟩ : ∃ p, q = p + 1 := ⟨q - 1, by omega⟩
    have eo := zofn_i (m := o) (by omega)
    rw [f12_mustWait_L14]
    rw [if_pos (by rw [zle_iff]; omega), show m = o by omega, hf]
    rfl
  | succ d ih =>
    intro q o ho hq hf
    obtain ⟨q, rfl⟩ : ∃ p, q = p + 1 := ⟨q - 1, by omega⟩
    have eo := zofn_i (m := o) (by omega)
    have ew := zofn_i (m := w) (by omega)
    have zo : zib (Int32.ofNat o) 5 = true := zib_ok (by omega) (by omega)
    have zw : zib (Int32.ofNat w) 5 = true := zib_ok (by omega) (by omega)
    rw [f12_mustWait_L14]
    rw [if_neg (by rw [zle_iff]; omega), if_pos zo, zofn_n (by omega), h99 o (by omega)]
    have st : yM J w (o + 1) = (yM J w o || (decide (¬ o = w) && decide (J 101 o = 2) && decide (J 100 o = J 100 w))) := rfl
    have go0 : (decide (¬ o = w) && decide (J 101 o = 2) && decide (J 100 o = J 100 w)) = false → f12_mustWait_B61 J (f12_mustWait_L14 J q) (Int32.ofNat w) (Int32.ofNat o) = some (yb (yM J w m)) := fun hf2 => by
      unfold f12_mustWait_B61
      rw [zofs (by omega)]
      exact ih q (o + 1) (by omega) (by omega) (by rw [st, hf, hf2]; rfl)
    by_cases c1 : o = w
    · rw [if_pos (by rw [c1])]
      exact go0 (by simp [c1])
    rw [if_neg (by rw [zeq_iff, eo, ew]; omega), if_pos zo, zofn_n (by omega)]
    by_cases c2 : J 101 o = 2
    · rw [if_pos c2, if_pos zw, zofn_n (by omega)]
      by_cases c3 : J 100 o = J 100 w
      · rw [if_pos c3]
        have up : ∀ n, o + 1 ≤ n → yM J w n = true := fun n => by
          induction n with
          | zero => intro z; omega
          | succ n ihn =>
            intro z
            show (yM J w n || _) = true
            by_cases y : o + 1 ≤ n
            · rw [ihn y]
              rfl
            · have : n = o := by omega
              subst this
              simp [c1, c2, c3]
        rw [up m (by omega)]
        rfl
      · rw [if_neg c3]
        exact go0 (by simp [c3])
    · rw [if_neg c2]
      exact go0 (by simp [c2])
theorem t_must (hm : m ≤ 5) (hw : w < m) (h34 : (J 81 34).toInt = (m : Int)) (h99 : ∀ k, k < m → J 99 k = Int32.ofNat k) : f12_mustWait J (Int32.ofNat w) = some (if J 84 w = 3 then 0 else yb (yM J w m)) := by
  have ew := zofn_i (m := w) (by omega)
  unfold f12_mustWait
  rw [if_pos (zib_ok (by omega) (by omega)), zofn_n (by omega)]
  by_cases k3 : J 84 w = 3
  · rw [if_pos k3, if_pos k3]
  · rw [if_neg k3, if_neg k3]
    exact t_mustL hm hw h34 h99 m zF 0 (by omega) (by unfold zF; omega) rfl
/-- one that stands at a heap -/
theorem y_waitsOn (hL : sl ≤ 260) (R : yRel sl sf c (sMany sl sf).toInt.toNat J h) (hw : w < (sMany sl sf).toInt.toNat) (h1 : J 101 w = 1) (hc : 0 ≤ c ∧ c ≤ 4000) (hO : yO ord (sMany sl sf).toInt.toNat) (h34 : (J 81 34).toInt = (sMany sl sf).toInt) (h99 : ∀ k, k < (sMany sl sf).toInt.toNat → J 99 k = Int32.ofNat k) (hJ : f12_waitsOn (Int32.ofNat w) J = some J') (k3 : Int32 → Int32 → Int32 → Int32 → zML → Option zML) (l5 : Int32) :
    ∃ h', fL_second_B174 sl sf k3 ord (Int32.ofNat (sMany sl sf).toInt.toNat) t l5 (Int32.ofNat w) h = fL_second_B324 sl sf k3 ord (Int32.ofNat (sMany sl sf).toInt.toNat) t l5 h' ∧ yRel sl sf (c + 1) (sMany sl sf).toInt.toNat J' h' ∧ zFJ J J' := by
  have my := s_many (sf := sf) hL
  have ew := zofn_i (m := w) (by omega)
  have nw := zofn_n (m := w) (by omega)
  have W := R.1 w hw
  rw [if_neg (by omega)] at W
  obtain ⟨w30, w35, w40, w45, w50, w55, w60, w8⟩ := id W
  have zw : zib (Int32.ofNat w) 5 = true := zib_ok (by omega) (by omega)
  have b20 : zib ((20 : Int32) + Int32.ofNat w) 130 = true := tib 20 (by omega)
  have b30 : zib ((30 : Int32) + Int32.ofNat w) 130 = true := tib 30 (by omega)
  have b35 : zib ((35 : Int32) + Int32.ofNat w) 130 = true := tib 35 (by omega)
  have b40 : zib ((40 : Int32) + Int32.ofNat w) 130 = true := tib 40 (by omega)
  have b50 : zib ((50 : Int32) + Int32.ofNat w) 130 = true := tib 50 (by omega)
  have b55 : zib ((55 : Int32) + Int32.ofNat w) 130 = true := tib 55 (by omega)
  have i20 : ((20 : Int32) + Int32.ofNat w).toNatClampNeg = 20 + w := tix 20 (by omega)
  have i30 : ((30 : Int32) + Int32.ofNat w).toNatClampNeg = 30 + w := tix 30 (by omega)
  have i35 : ((35 : Int32) + Int32.ofNat w).toNatClampNeg = 35 + w := tix 35 (by omega)
  have i40 : ((40 : Int32) + Int32.ofNat w).toNatClampNeg = 40 + w := tix 40 (by omega)
  have i50 : ((50 : Int32) + Int32.ofNat w).toNatClampNeg = 50 + w := tix 50 (by omega)
  have i55 : ((55 : Int32) + Int32.ofNat w).toNatClampNeg = 55 + w := tix 55 (by omega)
  have l1 : (1 : Int64).toInt = 1 := rfl
  have l3 : (3 : Int64).toInt = 3 := rfl
  have e3 : (3 : Int32).toInt = 3 := rfl
  have k84 : J 84 w = sKind sl sf w := (R.2.2.2.2.2.2.2.1.2 w hw).1
  have hk20 := (R.2.2.2.1.2 w hw).1
  have start : fL_second_B174 sl sf k3 ord (Int32.ofNat (sMany sl sf).toInt.toNat) t l5 (Int32.ofNat w) h = fL_second_B252 sl sf k3 ord (Int32.ofNat (sMany sl sf).toInt.toNat) t l5 (Int32.ofNat w) (yb (yM J w (sMany sl sf).toInt.toNat)) h := by
    unfold fL_second_B174
    exact tl_waitsL (J := J) (by omega) hO hw (fun o ho => ⟨(R.1 o ho).2.1.1, (R.1 o ho).1.1⟩) (fL_second_B252 sl sf k3) l5 (sMany sl sf).toInt.toNat zF 0 (by omega) (by unfold zF; omega)
  unfold f12_waitsOn at hJ
  rw [t_must (m := (sMany sl sf).toInt.toNat) (by omega) hw (by omega) h99, zb_some, k84] at hJ
  rw [start]
  -- it goes on to take
  have take : (if (0 : Int32) = 0 then if zib (Int32.ofNat w) 5 = true then zl (uI J 101 (Int32.ofNat w).toNatClampNeg (2 : Int32)) fun J5 => if zib (J5 100 (Int32.ofNat w).toNatClampNeg) 9 = true then zb (f12_takesOf (Int32.ofNat w) (J5 100 (Int32.ofNat w).toNatClampNeg) (J5 107 (J5 100 (Int32.ofNat w).toNatClampNeg).toNatClampNeg) (J5 104 (Int32.ofNat w).toNatClampNeg) J5) fun p8 => zl (uI p8.2 102 (Int32.ofNat w).toNatClampNeg p8.1) fun J10 => some (J10) else none else none else none) = some J' →
      ∃ h', fL_second_B285 sl sf k3 ord (Int32.ofNat (sMany sl sf).toInt.toNat) t l5 (Int32.ofNat w) h = fL_second_B324 sl sf k3 ord (Int32.ofNat (sMany sl sf).toInt.toNat) t l5 h' ∧ yRel sl sf (c + 1) (sMany sl sf).toInt.toNat J' h' ∧ zFJ J J' := fun hJ => by
    obtain ⟨J5, hJ5⟩ : ∃ K, uI J 101 w 2 = K := ⟨_, rfl⟩
    have aJ : ∀ b, b ≠ 101 → J5 b = J b := fun b q => by rw [← hJ5, uI_ne q]
    rw [if_pos rfl, if_pos zw, zl_eq, nw, hJ5, aJ 100 (by decide), if_pos (zib_ok w30.2.1 (by have := w30.2.2; omega)), aJ 104 (by decide)] at hJ
    have D5 : zDef sl sf J5 := zDef_fr R.2.2.2.2.2 (fun b x1 x2 => aJ b (by omega)) (by rw [aJ 81 (by decide)]) (by rw [aJ 81 (by decide)]) (by rw [aJ 81 (by decide)])
    obtain ⟨v, K, t1, t2, t3⟩ := t_takesOf hL D5 (h := J 100 w) (l := J5 107 (J 100 w).toNatClampNeg) (d := J 104 w) hw w30.2 ⟨w50.2.1, by have := w50.2.2; omega⟩
    rw [t1, zb_some, zl_eq] at hJ
    have e : J' = uI K 102 w v := (Option.some.inj hJ).symm
    have rT := qT_r (sl := sl) (sf := sf) hL (w := w) (h := (J 100 w).toInt) (d := (J 104 w).toInt)
    obtain ⟨h11, hh11⟩ : ∃ K, zuL h (35 + w) 2 = K := ⟨_, rfl⟩
    have ah : ∀ j, j ≠ 35 + w → h11 j = h j := fun j q => by rw [← hh11, zuL_ne q]
    obtain ⟨u, u1, u2⟩ := tl_takes (h := h11) (sf := sf) hL (w := w) (hp := h (30 + w)) (d := h (50 + w)) (by omega) (by rw [ah (20 + w) (by omega)]; exact hk20) (by rw [w30.1]; exact w30.2) (by rw [w50.1]; exact ⟨w50.2.1, by have := w50.2.2; omega⟩)
    have uv : u = v := by rw [zeq_iff, u2, t2, w30.1, w50.1]
    obtain ⟨h', hh'⟩ : ∃ h', zuL h11 (40 + w) v.toInt64 = h' := ⟨_, rfl⟩
    refine ⟨h', ?_, ?_, ?_⟩
    · unfold fL_second_B285
      rw [if_pos b35, zl_eq, i35, hh11, if_pos b30, if_pos b50, i30, i50, ah (30 + w) (by omega), ah (50 + w) (by omega), u1, zb_some, if_pos b40, zl_eq, i40, uv, hh']
    · rw [e]
      refine y_wk my.2.2 R hw (Or.inr (Nat.le_refl _)) (by omega) (fun b k y1 y2 y3 => ?_) (fun j y1 y2 y3 y4 => by rw [← hh', zuL_ne y3, ah j y2]) ?_ (Or.inr (Nat.le_refl _))
      · by_cases z2' : b = 102
        · rw [z2', uI_off (by omega), t3 102 (by decide) (by decide), aJ 102 (by decide)]
        rw [uI_ne z2', t3 b y1 y2]
        by_cases z1' : b = 101
        · rw [z1', ← hJ5, uI_off (by omega)]
        rw [aJ b z1']
      · rw [if_neg (by omega)]
        unfold yW yq
        rw [uI_at, uI_ne (show (100 : Nat) ≠ 102 by decide), uI_ne (show (101 : Nat) ≠ 102 by decide), uI_ne (show (103 : Nat) ≠ 102 by decide), uI_ne (show (104 : Nat) ≠ 102 by decide), uI_ne (show (105 : Nat) ≠ 102 by decide), uI_ne (show (106 : Nat) ≠ 102 by decide), t3 100 (by decide) (by decide), t3 101 (by decide) (by decide), t3 103 (by decide) (by decide), t3 104 (by decide) (by decide), t3 105 (by decide) (by decide), t3 106 (by decide) (by decide), aJ 100 (by decide), aJ 103 (by decide), aJ 104 (by decide), aJ 105 (by decide), aJ 106 (by decide), ← hJ5, uI_at]
        rw [← hh', zuL_at, zuL_ne (show 30 + w ≠ 40 + w by omega), zuL_ne (show 35 + w ≠ 40 + w by omega), zuL_ne (show 45 + w ≠ 40 + w by omega), zuL_ne (show 50 + w ≠ 40 + w by omega), zuL_ne (show 55 + w ≠ 40 + w by omega), zuL_ne (show 60 + w ≠ 40 + w by omega), ah (30 + w) (by omega), ah (45 + w) (by omega), ah (50 + w) (by omega), ah (55 + w) (by omega), ah (60 + w) (by omega), ← hh11, zuL_at]
        exact ⟨w30, by decide, ⟨by rw [tl_32], by omega, by omega⟩, w45, ⟨w50.1, w50.2.1, by have := w50.2.2; omega⟩, ⟨w55.1, w55.2.1, by have := w55.2.2; omega⟩, w60, fun _ _ => by omega⟩
    · rw [e]
      refine ⟨fun b x1 x2 => ?_, fun j hj => ?_⟩
      · rw [uI_ne (by omega), t3 b (by omega) (by omega), aJ b (by omega)]
      · rw [uI_ne (by decide), t3 81 (by decide) (by decide), aJ 81 (by decide)]
  unfold fL_second_B252
  by_cases b : yM J w (sMany sl sf).toInt.toNat = true
  case neg =>
    have y0 : yb (yM J w (sMany sl sf).toInt.toNat) = 0 := if_neg b
    rw [y0] at hJ ⊢
    rw [if_pos rfl]
    have e0 : (if sKind sl sf w = 3 then (0 : Int32) else 0) = 0 := by split <;> rfl
    rw [e0] at hJ
    exact take hJ
  case pos =>
    have y1 : yb (yM J w (sMany sl sf).toInt.toNat) = 1 := if_pos b
    rw [y1] at hJ ⊢
    rw [if_neg (by decide), if_pos b20, i20]
    by_cases q3 : sKind sl sf w = 3
    · rw [if_pos q3] at hJ
      rw [if_pos (by rw [tl_cmp0, hk20, q3, l3]; rfl)]
      exact take hJ
    · rw [if_neg q3, if_neg (by decide), if_pos zw, zl_eq, nw] at hJ
      rw [if_neg (by rw [tl_cmp0, hk20, l3]; intro z; exact q3 ((zeq_iff _ _).mpr z)), if_pos b55, zl_eq, i55]
      have e : J' = uI J 105 w (J 105 w + 1) := (Option.some.inj hJ).symm
      have e55 : (h (55 + w) + 1).toInt = (J 105 w).toInt + 1 ∧ (J 105 w + 1).toInt = (J 105 w).toInt + 1 := by
        have := w55.1; have := w55.2
        rw [zladd (by rw [l1]; omega) (by rw [l1]; omega), zadd (by rw [z1]; omega) (by rw [z1]; omega), l1, z1]
        omega
      refine ⟨_, rfl, ?_, ?_⟩
      · rw [e]
        refine y_wk my.2.2 R hw (Or.inr (Nat.le_refl _)) (by omega) (fun b k y1 y2 y3 => ?_) (fun j y1 y2 y3 y4 => zuL_ne y4) ?_ (Or.inr (Nat.le_refl _))
        · by_cases z2' : b = 105
          · rw [z2', uI_off (by omega)]
          rw [uI_ne z2']
        · rw [if_neg (by omega)]
          unfold yW yq
          rw [uI_at, uI_ne (show (100 : Nat) ≠ 105 by decide), uI_ne (show (101 : Nat) ≠ 105 by decide), uI_ne (show (102 : Nat) ≠ 105 by decide), uI_ne (show (103 : Nat) ≠ 105 by decide), uI_ne (show (104 : Nat) ≠ 105 by decide), uI_ne (show (106 : Nat) ≠ 105 by decide), zuL_at, zuL_ne (show 30 + w ≠ 55 + w by omega), zuL_ne (show 35 + w ≠ 55 + w by omega), zuL_ne (show 40 + w ≠ 55 + w by omega), zuL_ne (show 45 + w ≠ 55 + w by omega), zuL_ne (show 50 + w ≠ 55 + w by omega), zuL_ne (show 60 + w ≠ 55 + w by omega)]
          exact ⟨w30, w35, w40, w45, ⟨w50.1, w50.2.1, by have := w50.2.2; omega⟩, ⟨by rw [e55.1, e55.2], by have := w55.2.1; omega, by have := w55.2.2; omega⟩, w60, w8⟩
      · rw [e]
        exact ⟨fun b x1 x2 => uI_ne (by omega), fun j hj => by rw [uI_ne (by decide)]⟩
end
