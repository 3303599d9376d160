/-! pure part: the search for stretches -/
theorem zmo_eq {F : Nat → Nat → Int} {c : Nat} {st st' : Nat → Nat} (h : ∀ i, i ≤ c → st i = st' i) : ∀ d w x, w + d ≤ c → zmo F st d w x = zmo F st' d w x := by
  intro d
  induction d with
  | zero => intro w x _; rfl
  | succ d ih =>
    intro w x hw
    have e : zsg F st w = zsg F st' w := by
      unfold zsg
      rw [h w (by omega), h (w + 1) (by omega)]
    rw [zmo, zmo, e, ih _ _ (by omega)]
def zV (c : Nat) (st : Nat → Nat) : Prop := zst' c st ∧ st 0 = 0 ∧ st c = 9
def zfnd (F : Nat → Nat → Int) (c : Nat) (N b : Int) (row : Nat → Int32) : Prop := (b = -1 ∧ ∀ st, zV c st → ¬ zNn st (c - 1) < N) ∨ ∃ st, zV c st ∧ zNn st (c - 1) < N ∧ b = zmo F st c 0 0 ∧ zgv c st row ∧ ∀ st', zV c st' → zNn st' (c - 1) < N → b ≤ zmo F st' c 0 0 ∧ (zNn st' (c - 1) < zNn st (c - 1) → b < zmo F st' c 0 0)
theorem zV_same {c : Nat} {st st' : Nat → Nat} (h : zV c st) (h' : zV c st') (c1 : 1 ≤ c) (e : zNn st (c - 1) = zNn st' (c - 1)) : ∀ i, i ≤ c → st i = st' i := fun i hi => by
  by_cases x : i = c
  · rw [x, h.2.2, h'.2.2]
  · exact zNn_inj h.1 h'.1 (by rw [h.2.1, h'.2.1]) (c - 1) (by omega) e i (by omega)
/-- no sharing has this number -/
theorem zfnd_skip {F : Nat → Nat → Int} {c : Nat} {N b : Int} {row : Nat → Int32} (h : zfnd F c N b row) (hn : ∀ st, zV c st → zNn st (c - 1) ≠ N) : zfnd F c (N + 1) b row := by
  have lt : ∀ st, zV c st → zNn st (c - 1) < N + 1 → zNn st (c - 1) < N := fun st hv h1 => by
    have := hn st hv
    omega
  rcases h with ⟨h1, h2⟩ | ⟨st, h1, h2, h3, h4, h5⟩
  · exact Or.inl ⟨h1, fun st hv x => h2 st hv (lt st hv x)⟩
  · exact Or.inr ⟨st, h1, by omega, h3, h4, fun st' hv x => h5 st' hv (lt st' hv x)⟩
/-- one has, and is no better -/
theorem zfnd_worse {F : Nat → Nat → Int} {c : Nat} {N b : Int} {row : Nat → Int32} {s1 : Nat → Nat} (c1 : 1 ≤ c) (h : zfnd F c N b row) (hv1 : zV c s1) (e1 : zNn s1 (c - 1) = N) (hb : b ≠ -1) (hle : b ≤ zmo F s1 c 0 0) : zfnd F c (N + 1) b row := by
  rcases h with ⟨h1, h2⟩ | ⟨st, h1, h2, h3, h4, h5⟩
  · exact absurd h1 hb
  · refine Or.inr ⟨st, h1, by omega, h3, h4, fun st' hv x => ?_⟩
    by_cases y : zNn st' (c - 1) = N
    · have e := zmo_eq (F := F) (zV_same hv hv1 c1 (by rw [y, e1])) c 0 0 (by omega)
      rw [e]
      exact ⟨hle, fun z => by omega⟩
    · exact h5 st' hv (by omega)
/-- one has, and is better -/
theorem zfnd_better {F : Nat → Nat → Int} {c : Nat} {N b : Int} {row row' : Nat → Int32} {s1 : Nat → Nat} (c1 : 1 ≤ c) (h : zfnd F c N b row) (hv1 : zV c s1) (e1 : zNn s1 (c - 1) = N) (hb : b = -1 ∨ zmo F s1 c 0 0 < b) (hr : zgv c s1 row') (h0 : 0 ≤ zmo F s1 c 0 0) : zfnd F c (N + 1) (zmo F s1 c 0 0) row' := by
  refine Or.inr ⟨s1, hv1, by omega, rfl, hr, fun st' hv x => ?_⟩
  by_cases y : zNn st' (c - 1) = N
  · have e := zmo_eq (F := F) (zV_same hv hv1 c1 (by rw [y, e1])) c 0 0 (by omega)
    rw [e]
    exact ⟨Int.le_refl _, fun z => by omega⟩
  · have lt : zNn st' (c - 1) < N := by omega
    rcases h with ⟨h1, h2⟩ | ⟨st, h1, h2, h3, h4, h5⟩
    · exact absurd lt (h2 st' hv)
    · have q := (h5 st' hv lt).1
      rcases hb with z | z
      · exfalso
        have := (zmo_le (F := F) (st := st) (m := zmo F st c 0 0) c 0 0).mp (Int.le_refl _)
        omega
      · exact ⟨by omega, fun _ => by omega⟩
/-- at the end: the plan's -/
theorem zfnd_end {F : Nat → Nat → Int} {c : Nat} {N b : Int} {row : Nat → Int32} (c1 : 1 ≤ c) (hF : ∀ w h, w < c → h < 9 → 0 ≤ F w h) (hm : zDt F c 0 0 < 1000000) (h : zfnd F c N b row) (hN : zNn (zat F c (zDt F c 0 0)) (c - 1) < N) : b = zDt F c 0 0 ∧ zgv c (zat F c (zDt F c 0 0)) row := by
  have h9 := zat_end hF hm (Int.le_refl _)
  have hv : zV c (zat F c (zDt F c 0 0)) := ⟨zat_st, rfl, h9⟩
  have at' := zmo_at hF hm
  rcases h with ⟨h1, h2⟩ | ⟨st, h1, h2, h3, h4, h5⟩
  · exact absurd hN (h2 _ hv)
  · obtain ⟨q1, q2⟩ := h5 _ hv hN
    rw [at'] at q1 q2
    have ge := zmo_ge (F := F) h1.1 h1.2.1 h1.2.2
    have eb : b = zDt F c 0 0 := by omega
    refine ⟨eb, ?_⟩
    have lex := zNn_zat (F := F) (m := zDt F c 0 0) h1.1 h1.2.1 h1.2.2 (by omega) (c - 1) (by omega)
    have same : ∀ i, i ≤ c → st i = zat F c (zDt F c 0 0) i := fun i hi => by
      by_cases x : i = c
      · rw [x, h9, h1.2.2]
      · rcases lex with y | y
        · exact y i (by omega)
        · exact absurd (q2 y) (by omega)
    intro w hw
    rw [← same w (by omega), ← same (w + 1) (by omega)]
    exact h4 w hw
