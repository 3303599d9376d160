/-! pure part: the law's going beside the reference's -/
def yq (x : Int64) (y : Int32) (lo hi : Int) : Prop := x.toInt = y.toInt ∧ lo ≤ y.toInt ∧ y.toInt ≤ hi
/-- a walker; u: how many it may have -/
def yW (c u : Int) (J : zMI) (h : zML) (w : Nat) : Prop := yq (h (30 + w)) (J 100 w) 0 8 ∧ yq (h (35 + w)) (J 101 w) 0 2 ∧ yq (h (40 + w)) (J 102 w) 0 100 ∧ yq (h (45 + w)) (J 103 w) 0 u ∧ yq (h (50 + w)) (J 104 w) 0 c ∧ yq (h (55 + w)) (J 105 w) 0 c ∧ yq (h (60 + w)) (J 106 w) 0 2 ∧ (u = 8 → J 101 w ≠ 1 → 1 ≤ (J 102 w).toInt)
/-- a heap -/
def yH (c : Int) (J : zMI) (h : zML) (k : Nat) : Prop := yq (h (70 + k)) (J 107 k) 0 200 ∧ yq (h (80 + k)) (J 108 k) 0 c ∧ yq (h (90 + k)) (J 109 k) (-1) 1000
/-- the counts -/
def yG (J : zMI) (h : zML) : Prop := yq (h 101) (J 81 47) 0 400 ∧ yq (h 104) (J 81 48) (-1) 1000 ∧ (h 102).toInt = (zcnt (J 110) 1 (J 81 47).toInt.toNat : Int) ∧ (h 103).toInt = (zcnt (J 110) 2 (J 81 47).toInt.toNat : Int)
/-- what the script says of heaps and walkers -/
def yD (sl : Nat) (sf : Nat → Int32) (h : zML) : Prop := (∀ k, k < 9 → (h k).toInt = (sHigh sl sf k).toInt ∧ (h (9 + k)).toInt = (sStick sl sf k).toInt) ∧ ∀ w, w < (sMany sl sf).toInt.toNat → (h (20 + w)).toInt = (sKind sl sf w).toInt ∧ (h (25 + w)).toInt = (sFrom sl sf w).toInt
def ysum (f : Nat → Int) : Nat → Int
  | 0 => 0
  | n + 1 => ysum f n + f n
/-- what one took, what is gone -/
def yheld (h : zML) (m : Nat) : Int := ysum (fun w => 9 * (h (50 + w)).toInt + (h (45 + w)).toInt) m
def ygone (h : zML) : Int := ysum (fun k => (h k).toInt - (h (70 + k)).toInt) 9
def yI (h : zML) (m : Nat) : Prop := (h 100).toInt = 0 → yheld h m ≤ ygone h
/-- e: the walker that may have nine now -/
def yRel (sl : Nat) (sf : Nat → Int32) (c : Int) (e : Nat) (J : zMI) (h : zML) : Prop := (∀ w, w < (sMany sl sf).toInt.toNat → yW c (if w = e then 9 else 8) J h w) ∧ (∀ k, k < 9 → yH c J h k) ∧ yG J h ∧ yD sl sf h ∧ yI h (sMany sl sf).toInt.toNat ∧ zDef sl sf J
theorem ysum_eq {f g : Nat → Int} : ∀ m, (∀ i, i < m → g i = f i) → ysum g m = ysum f m
  | 0, _ => rfl
  | m + 1, h => by
    show ysum g m + g m = ysum f m + f m
    rw [ysum_eq m (fun i hi => h i (by omega)), h m (by omega)]
theorem ysum_up {f g : Nat → Int} {w : Nat} : ∀ m, w < m → (∀ i, i < m → i ≠ w → g i = f i) → ysum g m = ysum f m - f w + g w
  | 0, h, _ => absurd h (Nat.not_lt_zero w)
  | m + 1, h, e => by
    show ysum g m + g m = ysum f m + f m - f w + g w
    by_cases c : w = m
    · rw [ysum_eq m (fun i hi => e i (by omega) (by omega)), c]
      omega
    · rw [ysum_up m (by omega) (fun i hi hn => e i (by omega) hn), e m (by omega) (by omega)]
      omega
theorem zDef_fr {sl : Nat} {sf : Nat → Int32} {J J' : zMI} (h : zDef sl sf J) (e : ∀ b, 82 ≤ b → b ≤ 89 → J' b = J b) (e2 : J' 81 2 = J 81 2) (e3 : J' 81 3 = J 81 3) (e12 : J' 81 12 = J 81 12) : zDef sl sf J' := by
  obtain ⟨h1, h2, h3, h4⟩ := h
  refine ⟨fun k hk => ?_, by rw [e2]; exact h2, ⟨by rw [e3]; exact h3.1, fun w hw => ?_⟩, zTold_eq h4 e12 (e 88 (by decide) (by decide)) (e 89 (by decide) (by decide))⟩
  · rw [e 82 (by decide) (by decide), e 83 (by decide) (by decide)]
    exact h1 k hk
  · rw [e 84 (by decide) (by decide), e 85 (by decide) (by decide), e 86 (by decide) (by decide)]
    exact h3.2 w hw
section
variable {sl : Nat} {sf : Nat → Int32} {J J' : zMI} {h h' : zML} {c c' u u' : Int} {e w k a : Nat}
theorem yW_eq (H : yW c u J h w) (hc : c ≤ c') (ej : ∀ b, 100 ≤ b → b ≤ 106 → J' b w = J b w) (eh : ∀ x, x ∈ [30, 35, 40, 45, 50, 55, 60] → h' (x + w) = h (x + w)) : yW c' u J' h' w := by
  obtain ⟨h1, h2, h3, h4, h5, h6, h7, h8⟩ := H
  unfold yq at h1 h2 h3 h4 h5 h6 h7
  unfold yW yq
  rw [ej 100 (by decide) (by decide), ej 101 (by decide) (by decide), ej 102 (by decide) (by decide), ej 103 (by decide) (by decide), ej 104 (by decide) (by decide), ej 105 (by decide) (by decide), ej 106 (by decide) (by decide), eh 30 (by decide), eh 35 (by decide), eh 40 (by decide), eh 45 (by decide), eh 50 (by decide), eh 55 (by decide), eh 60 (by decide)]
  exact ⟨h1, h2, h3, h4, ⟨h5.1, h5.2.1, by omega⟩, ⟨h6.1, h6.2.1, by omega⟩, h7, h8⟩
theorem yH_eq (H : yH c J h k) (hc : c ≤ c') (ej : ∀ b, 107 ≤ b → b ≤ 109 → J' b k = J b k) (eh : ∀ x, x ∈ [70, 80, 90] → h' (x + k) = h (x + k)) : yH c' J' h' k := by
  obtain ⟨h1, h2, h3⟩ := H
  unfold yq at h1 h2 h3
  unfold yH yq
  rw [ej 107 (by decide) (by decide), ej 108 (by decide) (by decide), ej 109 (by decide) (by decide), eh 70 (by decide), eh 80 (by decide), eh 90 (by decide)]
  exact ⟨h1, ⟨h2.1, h2.2.1, by omega⟩, h3⟩
theorem yG_eq (H : yG J h) (e7 : J' 81 47 = J 81 47) (e8 : J' 81 48 = J 81 48) (e110 : J' 110 = J 110) (eh : ∀ x, 101 ≤ x → x ≤ 104 → h' x = h x) : yG J' h' := by
  unfold yG at H ⊢
  rw [e7, e8, e110, eh 101 (by decide) (by decide), eh 102 (by decide) (by decide), eh 103 (by decide) (by decide), eh 104 (by decide) (by decide)]
  exact H
theorem yD_eq (hm : (sMany sl sf).toInt ≤ 3) (H : yD sl sf h) (eh : ∀ x, x < 30 → h' x = h x) : yD sl sf h' :=
  ⟨fun k hk => by rw [eh k (by omega), eh (9 + k) (by omega)]; exact H.1 k hk, fun w hw => by rw [eh (20 + w) (by omega), eh (25 + w) (by omega)]; exact H.2 w hw⟩
theorem yI_eq {m : Nat} (hm : m ≤ 5) (H : yI h m) (eh : ∀ x, (x < 9 ∨ (45 ≤ x ∧ x < 55) ∨ (70 ≤ x ∧ x < 79) ∨ x = 100) → h' x = h x) : yI h' m := by
  unfold yI yheld ygone at H ⊢
  rw [eh 100 (by omega), ysum_eq m (f := fun w => 9 * (h (50 + w)).toInt + (h (45 + w)).toInt) (fun i hi => by rw [eh (50 + i) (by omega), eh (45 + i) (by omega)]), ysum_eq 9 (f := fun k => (h k).toInt - (h (70 + k)).toInt) (fun i hi => by rw [eh i (by omega), eh (70 + i) (by omega)])]
  exact H
/-- something is lifted -/
theorem y_step (hm : (sMany sl sf).toInt ≤ 3) (R : yRel sl sf c w J h) (hw : w < (sMany sl sf).toInt.toNat) (ha : a < 9)
    (hj : ∀ b k, ¬ ((b = 103 ∨ b = 106) ∧ k = w) → ¬ ((b = 107 ∨ b = 108 ∨ b = 109) ∧ k = a) → ¬ (b = 81 ∧ k = 45) → J' b k = J b k)
    (hh : ∀ j, j ≠ 45 + w → j ≠ 60 + w → j ≠ 70 + a → j ≠ 80 + a → j ≠ 90 + a → j ≠ 100 → h' j = h j)
    (q45 : yq (h' (45 + w)) (J' 103 w) 0 9) (q60 : yq (h' (60 + w)) (J' 106 w) 0 2) (q70 : yq (h' (70 + a)) (J' 107 a) 0 200) (q80 : yq (h' (80 + a)) (J' 108 a) 0 (c + 1)) (q90 : yq (h' (90 + a)) (J' 109 a) (-1) 1000) (inv : yI h' (sMany sl sf).toInt.toNat) : yRel sl sf (c + 1) w J' h' := by
  obtain ⟨r1, r2, r3, r4, r5, r6⟩ := R
  have row : ∀ b, b ≠ 103 → b ≠ 106 → b ≠ 107 → b ≠ 108 → b ≠ 109 → b ≠ 81 → J' b = J b := fun b x1 x2 x3 x4 x5 x6 => funext fun k => hj b k (by omega) (by omega) (by omega)
  have e81 : ∀ k, k ≠ 45 → J' 81 k = J 81 k := fun k hk => hj 81 k (by omega) (by omega) (by omega)
  refine ⟨fun w' hw' => ?_, fun k hk => ?_, yG_eq r3 (e81 47 (by decide)) (e81 48 (by decide)) (row 110 (by decide) (by decide) (by decide) (by decide) (by decide) (by decide)) (fun x x1 x2 => hh x (by omega) (by omega) (by omega) (by omega) (by omega) (by omega)), yD_eq hm r4 (fun x hx => hh x (by omega) (by omega) (by omega) (by omega) (by omega) (by omega)), inv, zDef_fr r6 (fun b x1 x2 => row b (by omega) (by omega) (by omega) (by omega) (by omega) (by omega)) (e81 2 (by decide)) (e81 3 (by decide)) (e81 12 (by decide))⟩
  · have H := r1 w' hw'
    by_cases q : w' = w
    · subst q
      rw [if_pos rfl] at H ⊢
      obtain ⟨h1, h2, h3, h4, h5, h6, h7, h8⟩ := H
      unfold yq at h1 h2 h3 h5 h6
      unfold yW yq
      rw [row 100 (by decide) (by decide) (by decide) (by decide) (by decide) (by decide), row 101 (by decide) (by decide) (by decide) (by decide) (by decide) (by decide), row 102 (by decide) (by decide) (by decide) (by decide) (by decide) (by decide), row 104 (by decide) (by decide) (by decide) (by decide) (by decide) (by decide), row 105 (by decide) (by decide) (by decide) (by decide) (by decide) (by decide), hh (30 + w') (by omega) (by omega) (by omega) (by omega) (by omega) (by omega), hh (35 + w') (by omega) (by omega) (by omega) (by omega) (by omega) (by omega), hh (40 + w') (by omega) (by omega) (by omega) (by omega) (by omega) (by omega), hh (50 + w') (by omega) (by omega) (by omega) (by omega) (by omega) (by omega), hh (55 + w') (by omega) (by omega) (by omega) (by omega) (by omega) (by omega)]
      exact ⟨h1, h2, h3, q45, ⟨h5.1, h5.2.1, by omega⟩, ⟨h6.1, h6.2.1, by omega⟩, q60, fun z => absurd z (by decide)⟩
    · rw [if_neg q] at H ⊢
      refine yW_eq H (by omega) (fun b x1 x2 => hj b w' (by omega) (by omega) (by omega)) (fun x hx => ?_)
      simp only [List.mem_cons, List.not_mem_nil, or_false] at hx
      exact hh (x + w') (by omega) (by omega) (by omega) (by omega) (by omega) (by omega)
  · have H := r2 k hk
    by_cases q : k = a
    · subst q
      exact ⟨q70, q80, q90⟩
    · refine yH_eq H (by omega) (fun b x1 x2 => hj b k (by omega) (by omega) (by omega)) (fun x hx => ?_)
      simp only [List.mem_cons, List.not_mem_nil, or_false] at hx
      exact hh (x + k) (by omega) (by omega) (by omega) (by omega) (by omega) (by omega)
end
