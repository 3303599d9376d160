/-! pure part: the class's sharing is the first of the best -/
theorem zmx_le {a b m : Int} : (if a < b then b else a) ≤ m ↔ a ≤ m ∧ b ≤ m := by
  split <;> omega
section
variable {nx f : Nat → Int} {m : Int}
theorem zfw_le : ∀ d best own e, zfw nx f d best own e ≤ best := by
  intro d
  induction d with
  | zero => intro best own e; exact Int.le_refl _
  | succ d ih =>
    intro best own e
    rw [zfw]
    refine Int.le_trans (ih _ _ _) ?_
    split <;> omega
theorem zfw_le2 : ∀ d best own e j, e + d = 10 → j < d → own + zsm f e j ≤ m → nx (e + j) ≤ m → zfw nx f d best own e ≤ m := by
  intro d
  induction d with
  | zero => intro best own e j _ hj; omega
  | succ d ih =>
    intro best own e j he hj h1 h2
    rw [zfw]
    by_cases c : j = 0
    · subst c
      simp only [zsm, Int.add_zero, Nat.add_zero] at h1 h2
      refine Int.le_trans (zfw_le _ _ _ _) ?_
      have := (zmx_le (a := own) (b := nx e) (m := m)).mpr ⟨h1, h2⟩
      split <;> omega
    · obtain ⟨j, rfl⟩ : ∃ i, j = i + 1 := ⟨j - 1, by omega⟩
      rw [zsm_tail] at h1
      refine ih _ _ _ j (by omega) (by omega) ?_ (by rw [show e + 1 + j = e + (j + 1) by omega]; exact h2)
      rw [if_neg (by omega)]
      omega
theorem zfw_at : ∀ d best own e, e + d = 10 → zfw nx f d best own e ≤ m → best ≤ m ∨ ∃ j, j < d ∧ own + zsm f e j ≤ m ∧ nx (e + j) ≤ m := by
  intro d
  induction d with
  | zero => intro best own e _ h; exact Or.inl h
  | succ d ih =>
    intro best own e he h
    rw [zfw] at h
    rcases ih _ _ _ (by omega) h with q | ⟨j, q1, q2, q3⟩
    · by_cases c : (if own < nx e then nx e else own) < best
      · rw [if_pos c] at q
        obtain ⟨y1, y2⟩ := zmx_le.mp q
        exact Or.inr ⟨0, by omega, by simp only [zsm, Int.add_zero]; exact y1, y2⟩
      · rw [if_neg c] at q
        exact Or.inl q
    · refine Or.inr ⟨j + 1, by omega, ?_, by rw [show e + (j + 1) = e + 1 + j by omega]; exact q3⟩
      rw [if_neg (by omega)] at q2
      rw [zsm_tail]
      omega
theorem zgr_spec : ∀ d e j, j ≤ d → nx (e + j) ≤ m → zgr nx m d e ≤ j ∧ nx (e + zgr nx m d e) ≤ m := by
  intro d
  induction d with
  | zero =>
    intro e j hj h
    have : j = 0 := by omega
    subst this
    exact ⟨Nat.le_refl _, h⟩
  | succ d ih =>
    intro e j hj h
    rw [zgr]
    by_cases c : nx e ≤ m
    · rw [if_pos c]
      exact ⟨Nat.zero_le _, c⟩
    · rw [if_neg c]
      have j0 : j ≠ 0 := fun q => c (by rw [q] at h; exact h)
      obtain ⟨h1, h2⟩ := ih (e + 1) (j - 1) (by omega) (by rw [show e + 1 + (j - 1) = e + j by omega]; exact h)
      exact ⟨by omega, by rw [show e + (zgr nx m d (e + 1) + 1) = e + 1 + zgr nx m d (e + 1) by omega]; exact h2⟩
theorem zsm_mono {a : Nat} : ∀ k g, g ≤ k → (∀ i, i < k → 0 ≤ f (a + i)) → zsm f a g ≤ zsm f a k := by
  intro k
  induction k with
  | zero => intro g h _; rw [show g = 0 by omega]; exact Int.le_refl _
  | succ k ih =>
    intro g h h0
    by_cases c : g = k + 1
    · rw [c]; exact Int.le_refl _
    · have h1 := ih g (by omega) (fun i hi => h0 i (by omega))
      have h2 := h0 k (by omega)
      rw [zsm]
      omega
end
section
variable {F : Nat → Nat → Int} {c : Nat} {m : Int} {st : Nat → Nat}
theorem zDt_any (hst : zst' c st) (h9 : st c = 9) (h0 : 0 ≤ m) : ∀ k w, w + k = c → (∀ i, w ≤ i → i < c → zsg F st i ≤ m) → zDt F k w (st w) ≤ m := by
  intro k
  induction k with
  | zero =>
    intro w e _
    rw [zDt, show w = c by omega, if_pos h9]
    exact h0
  | succ k ih =>
    intro w e h
    obtain ⟨h1, h2⟩ := hst w (by omega)
    rw [zDt]
    have hs := h w (Nat.le_refl _) (by omega)
    unfold zsg at hs
    refine zfw_le2 (10 - st w) _ _ _ (st (w + 1) - st w) (by omega) (by omega) (by omega) ?_
    rw [show st w + (st (w + 1) - st w) = st (w + 1) by omega]
    exact ih (w + 1) (by omega) (fun i hi hic => h i (by omega) hic)
theorem zat_ok (hF : ∀ w h, w < c → h < 9 → 0 ≤ F w h) (hm : m < 1000000) : ∀ w, w < c → zDt F (c - w) w (zat F c m w) ≤ m → zsg F (zat F c m) w ≤ m ∧ zDt F (c - (w + 1)) (w + 1) (zat F c m (w + 1)) ≤ m := by
  intro w hw h
  have a9 := zat_9 (F := F) (c := c) (m := m) w
  rw [show c - w = (c - (w + 1)) + 1 by omega, zDt] at h
  rcases zfw_at (10 - zat F c m w) _ _ _ (by omega) h with q | ⟨j, q1, q2, q3⟩
  · omega
  · obtain ⟨g1, g2⟩ := zgr_spec (9 - zat F c m w) (zat F c m w) j (by omega) q3
    have es : zat F c m (w + 1) = zat F c m w + zgr (zDt F (c - (w + 1)) (w + 1)) m (9 - zat F c m w) (zat F c m w) := rfl
    refine ⟨?_, by rw [es]; exact g2⟩
    unfold zsg
    rw [es, show zat F c m w + zgr (zDt F (c - (w + 1)) (w + 1)) m (9 - zat F c m w) (zat F c m w) - zat F c m w = zgr (zDt F (c - (w + 1)) (w + 1)) m (9 - zat F c m w) (zat F c m w) by omega]
    have := zsm_mono (f := F w) (a := zat F c m w) j _ g1 (fun i hi => hF w _ hw (by omega))
    omega
theorem zat_all (hF : ∀ w h, w < c → h < 9 → 0 ≤ F w h) (hm : m < 1000000) (h0 : zDt F c 0 0 ≤ m) : ∀ w, w ≤ c → zDt F (c - w) w (zat F c m w) ≤ m := by
  intro w
  induction w with
  | zero => intro _; exact h0
  | succ w ih => intro hw; exact (zat_ok hF hm w (by omega) (ih (by omega))).2
theorem zat_st : zst' c (zat F c m) := fun w _ => ⟨by rw [zat]; omega, zat_9 _⟩
theorem zat_end (hF : ∀ w h, w < c → h < 9 → 0 ≤ F w h) (hm : m < 1000000) (h0 : zDt F c 0 0 ≤ m) : zat F c m c = 9 := by
  have := zat_all hF hm h0 c (Nat.le_refl _)
  rw [Nat.sub_self, zDt] at this
  by_cases q : zat F c m c = 9
  · exact q
  · rw [if_neg q] at this
    omega
theorem zmo_le : ∀ d w x, zmo F st d w x ≤ m ↔ x ≤ m ∧ ∀ i, i < d → zsg F st (w + i) ≤ m := by
  intro d
  induction d with
  | zero => intro w x; exact ⟨fun h => ⟨h, fun i hi => absurd hi (Nat.not_lt_zero i)⟩, fun h => h.1⟩
  | succ d ih =>
    intro w x
    rw [zmo, ih]
    constructor
    · intro ⟨h1, h2⟩
      have h3 : x ≤ m ∧ zsg F st w ≤ m := by
        split at h1 <;> omega
      refine ⟨h3.1, fun i hi => ?_⟩
      by_cases q : i = 0
      · rw [q]; exact h3.2
      · have := h2 (i - 1) (by omega)
        rw [show w + 1 + (i - 1) = w + i by omega] at this
        exact this
    · intro ⟨h1, h2⟩
      have h3 := h2 0 (by omega)
      rw [Nat.add_zero] at h3
      refine ⟨by split <;> omega, fun i hi => ?_⟩
      rw [show w + 1 + i = w + (i + 1) by omega]
      exact h2 (i + 1) (by omega)
/-- none is better than the plan -/
theorem zmo_ge (hst : zst' c st) (h00 : st 0 = 0) (h9 : st c = 9) : zDt F c 0 0 ≤ zmo F st c 0 0 := by
  have h := (zmo_le (F := F) (st := st) (m := zmo F st c 0 0) c 0 0).mp (Int.le_refl _)
  have := zDt_any (F := F) hst h9 h.1 c 0 (by omega) (fun i _ hi => by have := h.2 i hi; rw [Nat.zero_add] at this; exact this)
  rw [h00] at this
  exact this
/-- the class's is as good -/
theorem zmo_at (hF : ∀ w h, w < c → h < 9 → 0 ≤ F w h) (hm : zDt F c 0 0 < 1000000) : zmo F (zat F c (zDt F c 0 0)) c 0 0 = zDt F c 0 0 := by
  have h9 := zat_end hF hm (Int.le_refl _)
  have ge := zmo_ge (F := F) (zat_st (F := F) (c := c) (m := zDt F c 0 0)) rfl h9
  have le := (zmo_le (F := F) (st := zat F c (zDt F c 0 0)) (m := zDt F c 0 0) c 0 0).mpr ⟨?_, fun i hi => ?_⟩
  · omega
  · have := zat_all hF hm (Int.le_refl _) c (Nat.le_refl _)
    rw [Nat.sub_self, zDt, if_pos h9] at this
    exact this
  · rw [Nat.zero_add]
    exact (zat_ok hF hm i hi (zat_all hF hm (Int.le_refl _) i (by omega))).1
/-- and is the first such -/
theorem zat_first (hst : zst' c st) (h9 : st c = 9) (hb : zmo F st c 0 0 ≤ m) : ∀ w, w < c → st w = zat F c m w → zat F c m (w + 1) ≤ st (w + 1) := by
  intro w hw e
  obtain ⟨h1, h2⟩ := hst w hw
  have h := (zmo_le (F := F) (st := st) (m := m) c 0 0).mp hb
  have := zDt_any (F := F) hst h9 h.1 (c - (w + 1)) (w + 1) (by omega) (fun i _ hi => by have := h.2 i hi; rw [Nat.zero_add] at this; exact this)
  have g := (zgr_spec (nx := zDt F (c - (w + 1)) (w + 1)) (m := m) (9 - zat F c m w) (zat F c m w) (st (w + 1) - st w) (by omega) (by rw [show zat F c m w + (st (w + 1) - st w) = st (w + 1) by omega]; exact this)).1
  rw [zat]
  omega
end
