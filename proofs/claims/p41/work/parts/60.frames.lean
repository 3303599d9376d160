/-! pure part: what a step of one who goes may change (zDx: the class; zEx: the reference) -/
def zDx (a s : Nat) (I I' : zMI) : Prop := ∀ b j, ¬ (b = a ∧ 3 ≤ j) → ¬ (b = 42 ∧ 5 ≤ j) → b ≠ 45 → ¬ (46 ≤ b ∧ b ≤ 54 ∧ j ≠ 0 ∧ j ≠ 2) → b ≠ s → b ≠ s + 1 → I' b j = I b j
def zEx (w : Nat) (J J' : zMI) : Prop := (∀ b j, b ≠ 97 → b ≠ 98 → b ≠ 110 → (b < 100 ∨ 110 < b) → (b ≠ 81 ∨ j < 45) → J' b j = J b j) ∧ ∀ b w', 100 ≤ b → b ≤ 106 → w' ≠ w → J' b w' = J b w'
section
variable {a s w : Nat} {I I' I'' J J' J'' : zMI} {x : Int32} {j : Nat}
theorem zDx_rfl : zDx a s I I := fun _ _ _ _ _ _ _ _ => rfl
theorem zDx_tr (h1 : zDx a s I I') (h2 : zDx a s I' I'') : zDx a s I I'' := fun b j x1 x2 x3 x4 x5 x6 => by rw [h2 b j x1 x2 x3 x4 x5 x6, h1 b j x1 x2 x3 x4 x5 x6]
theorem zDx_a (hj : 3 ≤ j) : zDx a s I (uI I a j x) := fun b i x1 _ _ _ _ _ => by
  by_cases e : b = a
  · rw [e, uI_off (by omega)]
  · rw [uI_ne e]
theorem zDx_42 (hj : 5 ≤ j) : zDx a s I (uI I 42 j x) := fun b i _ x1 _ _ _ _ => by
  by_cases e : b = 42
  · rw [e, uI_off (by omega)]
  · rw [uI_ne e]
theorem zDx_45 : zDx a s I (uI I 45 j x) := fun b i _ _ x1 _ _ _ => by rw [uI_ne x1]
theorem zDx_h {h : Nat} (h9 : h < 9) (h0 : j ≠ 0) (h2 : j ≠ 2) : zDx a s I (uI I (46 + h) j x) := fun b i _ _ _ x1 _ _ => by
  by_cases e : b = 46 + h
  · rw [e, uI_off (by omega)]
  · rw [uI_ne e]
theorem zDx_s (h : ∀ b, b ≠ s → b ≠ s + 1 → I' b = I b) : zDx a s I I' := fun b i _ _ _ _ x1 x2 => by rw [h b x1 x2]
theorem zEx_rfl : zEx w J J := ⟨fun _ _ _ _ _ _ _ => rfl, fun _ _ _ _ _ => rfl⟩
theorem zEx_tr (h1 : zEx w J J') (h2 : zEx w J' J'') : zEx w J J'' := ⟨fun b j x1 x2 x3 x4 x5 => by rw [h2.1 b j x1 x2 x3 x4 x5, h1.1 b j x1 x2 x3 x4 x5], fun b j x1 x2 x3 => by rw [h2.2 b j x1 x2 x3, h1.2 b j x1 x2 x3]⟩
theorem zEx_w {r : Nat} (h0 : 100 ≤ r) (h1 : r ≤ 106) : zEx w J (uI J r w x) := ⟨fun b j _ _ _ x1 _ => by rw [uI_ne (by omega)], fun b w' _ _ x3 => by
  by_cases e : b = r
  · rw [e, uI_off x3]
  · rw [uI_ne e]⟩
theorem zEx_r {r : Nat} (h0 : 107 ≤ r) (h1 : r ≤ 110) : zEx w J (uI J r j x) := ⟨fun b j _ _ _ x1 _ => by rw [uI_ne (by omega)], fun b w' _ _ x3 => by rw [uI_ne (by omega)]⟩
theorem zEx_81 (h0 : 45 ≤ j) : zEx w J (uI J 81 j x) := ⟨fun b i _ _ _ _ x1 => by
  by_cases e : b = 81
  · rw [e, uI_off (by omega)]
  · rw [uI_ne e], fun b w' _ _ x3 => by rw [uI_ne (by omega)]⟩
theorem zEx_s (h : ∀ b, b ≠ 97 → b ≠ 98 → J' b = J b) : zEx w J J' := ⟨fun b j x1 x2 _ _ _ => by rw [h b x1 x2], fun b j _ _ _ => by rw [h b (by omega) (by omega)]⟩
theorem zEx_row (h : zEx w J J') {b : Nat} (h1 : b ≠ 97) (h2 : b ≠ 98) (h3 : b < 100 ∨ 110 < b) (h4 : b ≠ 81) : J' b = J b := funext fun j => h.1 b j h1 h2 (by omega) (by omega) (Or.inl h4)
theorem zEx_81j (h : zEx w J J') (hj : j < 45) : J' 81 j = J 81 j := h.1 81 j (by decide) (by decide) (by decide) (by decide) (Or.inr hj)
theorem zFJ_E (h : zEx w J J') : zFJ J J' := ⟨fun b x1 x2 => zEx_row h (by omega) (by omega) (by omega) x1, fun j hj => zEx_81j h (by omega)⟩
theorem zFI_D {A : Nat → Nat} {kd : zMK} (ha : w < 5 ∧ a = A w) (hA : ∀ w, w < 5 → A w = 0 ∨ (114 ≤ A w ∧ (kd (A w)).1 ≠ 0)) (hs : 68 ≤ s) (k0 : (kd s).1 = 0) (k1 : (kd (s + 1)).1 = 0) (h : zDx a s I I') : zFI A s I I' := by
  have hAw := hA w ha.1
  have haw := ha.2
  refine ⟨fun b x1 x2 x3 x4 x5 x6 => funext fun j => h b j (fun q => x4 w ha.1 (by omega)) (by omega) x2 (by omega) x5 x6, fun w' j x1 x2 => ?_, fun j x1 x2 => h 42 j (by omega) (by omega) (by omega) (by omega) (by omega) (by omega), fun h' x1 => ⟨h _ 0 (by omega) (by omega) (by omega) (by omega) (by omega) (by omega), h _ 2 (by omega) (by omega) (by omega) (by omega) (by omega) (by omega)⟩⟩
  rcases hA w' x1 with q | ⟨q1, q2⟩
  · exact h _ j (by omega) (by omega) (by omega) (by omega) (by omega) (by omega)
  · exact h _ j (by omega) (by omega) (by omega) (by omega) (fun q => q2 (by rw [q]; exact k0)) (fun q => q2 (by rw [q]; exact k1))
end
/-! the parts of a going that a step leaves as they are -/
section
variable {n : Nat} {kd : zMK} {R : zMR} {L s t a w : Nat} {A : Nat → Nat} {I I' J J' : zMI}
theorem zLx_eq {len : Nat} (h : zLx len s I J t) (e2 : I' (s + 2) = I (s + 2)) (e3 : I' (s + 3) = I (s + 3)) (e4 : I' (s + 4) = I (s + 4)) (e88 : J' 88 = J 88) (e89 : J' 89 = J 89) : zLx len s I' J' t := by
  unfold zLx at h ⊢
  rw [e2, e3, e4, e88, e89]
  exact h
theorem zGl_eq (hg : zGl n kd R L s t I J) (ha : 114 ≤ a ∧ (kd a).1 ≠ 0) (hD : zDx a s I I') (hE : zEx w J J') : zGl n kd R L s t I' J' := by
  obtain ⟨h1, h2, h3, h4, h5, h6, h7, h8⟩ := hg
  have hs := h2.1
  unfold zLo at hs
  obtain ⟨-, g2, g3, g4, g5, g6, g7, g8, g9, -⟩ := hs
  have row : ∀ b, 70 ≤ b → b ≠ s → b ≠ s + 1 → (kd b).1 = 0 → I' b = I b := fun b x0 x1 x2 x3 => funext fun j => hD b j (fun q => ha.2 (by rw [← q.1]; exact x3)) (by omega) (by omega) (by omega) x1 x2
  have f42 : ∀ j, j < 5 → I' 42 j = I 42 j := fun j hj => hD 42 j (by omega) (by omega) (by omega) (by omega) (by omega) (by omega)
  refine ⟨h1, ⟨h2.1, zLx_eq h2.2 (row _ (by omega) (by omega) (by omega) (by rw [g6])) (row _ (by omega) (by omega) (by omega) g7) (row _ (by omega) (by omega) (by omega) (by rw [g9])) (zEx_row hE (by decide) (by decide) (by decide) (by decide)) (zEx_row hE (by decide) (by decide) (by decide) (by decide))⟩, ?_, h4, ?_, ?_, ?_, ?_⟩
  · rw [zEx_81j hE (by decide)]; exact h3
  · rw [f42 3 (by decide), zEx_81j hE (by decide)]; exact h5
  · rw [f42 4 (by decide), zEx_81j hE (by decide)]; exact h6
  · rw [f42 2 (by decide), zEx_81j hE (by decide)]; exact h7
  · rw [zEx_81j hE (by decide)]; exact h8
theorem zGo_eq (hg : zGo R A J) (hE : zEx w J J') : zGo R A J' := by
  unfold zGo at hg ⊢
  rw [zEx_81j hE (by decide), zEx_row hE (by decide) (by decide) (by decide) (by decide)]
  exact hg
theorem zgo_eq (hE : zEx w J J') (w' : Nat) : zgo J' w' ↔ zgo J w' := by
  unfold zgo
  rw [zEx_81j hE (by decide), zEx_row hE (by decide) (by decide) (by decide) (by decide)]
theorem zwl_eq {wi : Int32} (h : zwl n kd I J a wi) (e0 : I' a 0 = I a 0) (e1 : I' a 1 = I a 1) (e84 : J' 84 = J 84) (e85 : J' 85 = J 85) : zwl n kd I' J' a wi := by
  unfold zwl at h ⊢
  rw [e0, e1, e84, e85]
  exact h
/-- the others: as they were -/
theorem zGa_other (hS : zSh n kd) (hg : zGa n kd A I J) (hs : 68 ≤ s) (k0 : (kd s).1 = 0) (k1 : (kd (s + 1)).1 = 0) (hw : w < 5) (hgw : zgo J w) (hD : zDx (A w) s I I') (hE : zEx w J J') (hme : zGw I' J' (A w) w) : zGa n kd A I' J' := by
  intro w' hw'
  obtain ⟨g1, g2⟩ := hg w' hw'
  obtain ⟨me, -⟩ := hg w hw
  obtain ⟨m1, m2⟩ := me hgw
  have hb := zwl_big hS m1
  rw [zgo_eq hE]
  have e84 : J' 84 = J 84 := zEx_row hE (by decide) (by decide) (by decide) (by decide)
  have e85 : J' 85 = J 85 := zEx_row hE (by decide) (by decide) (by decide) (by decide)
  have ka : A w ≠ s := zwl_ne m1 k0
  have ka1 : A w ≠ s + 1 := zwl_ne m1 k1
  by_cases e : w' = w
  · subst e
    refine ⟨fun q => ⟨zwl_eq m1 (hD _ 0 (by omega) (by omega) (by omega) (by omega) ka ka1) (hD _ 1 (by omega) (by omega) (by omega) (by omega) ka ka1) e84 e85, hme⟩, fun q => absurd hgw q⟩
  · refine ⟨fun q => ?_, fun q => ?_⟩
    · obtain ⟨r1, r2⟩ := g1 q
      have hb' := zwl_big hS r1
      have kb : A w' ≠ s := zwl_ne r1 k0
      have kb1 : A w' ≠ s + 1 := zwl_ne r1 k1
      have ne : A w' ≠ A w := fun x => by
        have q1 := r1.2.2.2.1
        have q2 := m1.2.2.2.1
        rw [x, q2] at q1
        have := congrArg Int32.toInt q1
        rw [zofn_i (by omega), zofn_i (by omega)] at this
        omega
      have row : I' (A w') = I (A w') := funext fun j => hD _ j (by omega) (by omega) (by omega) (by omega) kb kb1
      refine ⟨zwl_eq r1 (by rw [row]) (by rw [row]) e84 e85, ?_⟩
      unfold zGw at r2 ⊢
      rw [row, hE.2 100 w' (by decide) (by decide) e, hE.2 101 w' (by decide) (by decide) e, hE.2 102 w' (by decide) (by decide) e, hE.2 103 w' (by decide) (by decide) e, hE.2 104 w' (by decide) (by decide) e, hE.2 105 w' (by decide) (by decide) e, hE.2 106 w' (by decide) (by decide) e]
      exact r2
    · rw [hE.2 101 w' (by decide) (by decide) e, hE.2 103 w' (by decide) (by decide) e]
      exact g2 q
theorem zGh_eq {h : Nat} (hg : zGhq I J h) (e : ∀ j, j ≠ 4 → I' (46 + h) j = I (46 + h) j) (e1 : J' 107 h = J 107 h) (e2 : J' 83 h = J 83 h) (e3 : J' 108 h = J 108 h) (e4 : J' 109 h = J 109 h) (e5 : J' 81 45 = J 81 45) : zGhq I' J' h := by
  unfold zGhq at hg ⊢
  rw [e 0 (by decide), e 1 (by decide), e 2 (by decide), e 3 (by decide), e 5 (by decide), e 6 (by decide), e1, e2, e3, e4, e5]
  exact hg
theorem ztks_eq (h : Nat) (e0 : J' 100 = J 100) (e1 : J' 101 = J 101) : ztks J' h = ztks J h := by
  unfold ztks ztk
  rw [e0, e1]
theorem zGp_eq {c c' tm : Int} (hg : zGp I J c tm) (hc : c ≤ c') (e : ∀ j, 5 ≤ j → I' 42 j = I 42 j) (e45 : I' 45 = I 45) (e81 : J' 81 = J 81) (e103 : J' 103 = J 103) (e110 : J' 110 = J 110) : zGp I' J' c' tm := by
  unfold zGp at hg ⊢
  rw [e 5 (by decide), e 8 (by decide), e 9 (by decide), e 10 (by decide), e 11 (by decide), e 12 (by decide), e45, e81, e103, e110]
  exact ⟨hg.1, hg.2.1, hg.2.2.1, ⟨hg.2.2.2.1.1, by omega⟩, hg.2.2.2.2⟩
end
