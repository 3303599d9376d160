/-! pure part: best answers alike -/
def zFO (A : Nat → Nat) (s : Nat) (I I' : zMI) : Prop := (∀ b, b ≠ 42 → b ≠ 45 → (b < 46 ∨ 55 < b) → (∀ w, w < 5 → b ≠ A w) → b ≠ s → b ≠ s + 1 → I' b = I b) ∧ (∀ w j, w < 5 → j < 3 → I' (A w) j = I (A w) j) ∧ ∀ h, h < 9 → I' (46 + h) 0 = I (46 + h) 0
theorem zFO_rfl {A : Nat → Nat} {s : Nat} {I : zMI} : zFO A s I I := ⟨fun _ _ _ _ _ _ _ => rfl, fun _ _ _ _ => rfl, fun _ _ => rfl⟩
theorem zFO_X {A : Nat → Nat} {s : Nat} {I I' : zMI} (h : zFX A s I I') : zFO A s I I' := ⟨fun b x1 x2 x3 x4 x5 x6 => h.1 b x1 x2 (by omega) x4 x5 x6, h.2.1, h.2.2⟩
theorem zFO_tr {A : Nat → Nat} {s : Nat} {I I' I'' : zMI} (h1 : zFO A s I I') (h2 : zFO A s I' I'') : zFO A s I I'' := ⟨fun b x1 x2 x3 x4 x5 x6 => by rw [h2.1 b x1 x2 x3 x4 x5 x6, h1.1 b x1 x2 x3 x4 x5 x6], fun w j x y => by rw [h2.2.1 w j x y, h1.2.1 w j x y], fun h x => by rw [h2.2.2 h x, h1.2.2 h x]⟩
theorem zFO_55 {A : Nat → Nat} {s : Nat} {I I' : zMI} (hA : ∀ w, w < 5 → A w = 0 ∨ 114 ≤ A w) (e : ∀ b, b ≠ 55 → I' b = I b) : zFO A s I I' := ⟨fun b _ _ x3 _ _ _ => e b (by omega), fun w j x _ => by have := hA w x; rw [e (A w) (by omega)], fun h x => by rw [e (46 + h) (by omega)]⟩
theorem zC_row55 {n : Nat} {kd : zMK} {I J : zMI} {R : zMR} (hC : zC zT0 n kd I R) (eI : ∀ b, b ≠ 55 → J b = I b) : zC zT0 n kd J R := by
  obtain ⟨h1, h2, h3, h4, h5, h6, h7, hT⟩ := hC
  have hn := h1.1
  have e81 : J 81 = I 81 := eI 81 (by omega)
  refine ⟨h1, ?_, zCh_eq h3 (eI _ (by omega)) (eI _ (by omega)) (eI _ (by omega)) (eI _ (by omega)), zCt_eq h4 (by rw [e81]) (eI _ (by omega)) (eI _ (by omega)), zCs_eq h5 (fun a x y => eI _ (by omega)) (eI _ (by omega)) (eI _ (by omega)) (eI _ (by omega)), ?_, fun i hi => ?_, zT0_q n n kd kd I J R R h1 (Nat.le_refl _) (fun _ _ => rfl) (fun a _ hta _ => eI a (by unfold zTa at hta; omega)) (fun h hh => by rw [eI _ (by omega)]) (by rw [e81]) (fun _ _ _ => rfl) hT⟩
  · unfold zCn at h2 ⊢
    rw [eI 32 (by omega), eI 37 (by omega), e81]
    exact h2
  · unfold zCi at h6 ⊢
    rw [eI 32 (by omega), eI 64 (by omega), eI 65 (by omega), eI 66 (by omega), eI 90 (by omega), e81]
    exact h6
  · rw [e81] at hi
    obtain ⟨a, q1, q2, q3, q4⟩ := h7 i hi
    refine ⟨a, q1, q2, q3, ?_⟩
    rw [eI a (by omega), eI 84 (by omega), eI 85 (by omega), eI 86 (by omega)]
    exact q4
theorem zC_best {n : Nat} {kd : zMK} {I I' M : zMI} {R R' : zMR} {L s t : Nat} {A : Nat → Nat} (hC : zC zT0 n kd I R) (hB : zB0 n kd R L s t A I I) (hA : ∀ w, (I 81 3).toInt.toNat ≤ w → A w = 0) (h1 : zFO A s I I') (hM : zFM I' M) (hR : ∀ b, b ≠ 42 → b ≠ 44 → R' b = R b) : zC zT0 n kd M R' := by
  obtain ⟨ha, hb, hs, hn, hc⟩ := zB0_A hB
  have hY : zFX A s I (fun b => if b = 55 then I b else I' b) := by
    refine ⟨fun b x1 x2 x3 x4 x5 x6 => ?_, fun w j x y => ?_, fun h x => ?_⟩
    · dsimp only
      by_cases k : b = 55
      · rw [if_pos k]
      · rw [if_neg k]
        exact h1.1 b x1 x2 (by omega) x4 x5 x6
    · have := hb w x
      dsimp only
      rw [if_neg (by omega)]
      exact h1.2.1 w j x y
    · dsimp only
      rw [if_neg (by omega)]
      exact h1.2.2 h x
  have hM' : zFM (fun b => if b = 55 then I b else I' b) (fun b => if b = 55 then I b else M b) := by
    refine ⟨fun b x1 x2 => ?_, fun j hj => ?_⟩
    · dsimp only
      by_cases k : b = 55
      · rw [if_pos k, if_pos k]
      · rw [if_neg k, if_neg k]
        exact hM.1 b x1 x2
    · dsimp only
      rw [if_neg (by omega), if_neg (by omega)]
      exact hM.2 j hj
  refine zC_row55 (zC_going hC hB hA hY hM' hR) (fun b hb' => ?_)
  try dsimp only
  rw [if_neg hb']
section
variable {n : Nat} {kd : zMK} {R : zMR} {L s t : Nat} {A : Nat → Nat} {I J I' : zMI}
theorem zB0_55 (h : zB0 n kd R L s t A I J) (e : ∀ b, b ≠ 55 → I' b = I b) : zB0 n kd R L s t A I' J := by
  obtain ⟨ha, hb, hs, hn, hc⟩ := zB0_A h
  obtain ⟨hX, ⟨e4, e2, r3, r2⟩, hw, hh, l1, l2, l3, l4, l5, l6⟩ := h
  have e32 := e 32 (by decide)
  refine ⟨hX, ⟨by rw [e32]; exact e4, by rw [e32]; exact e2, r3, r2⟩, fun w x => ?_, fun h x => ?_, by rw [e32]; exact l1, by rw [e32]; exact l2, by rw [e32]; exact l3, l4, ⟨l5.1, zLx_eq l5.2 (e _ (by omega)) (e _ (by omega)) (e _ (by omega)) rfl rfl⟩, l6⟩
  · obtain ⟨w1, w2, w3, w4⟩ := hw w x
    have big := zwl_big hX.1 w2
    have r := e (A w) (by omega)
    exact ⟨w1, zwl_eq w2 (by rw [r]) (by rw [r]) rfl rfl, by rw [r]; exact w3, w4⟩
  · rw [e 33 (by decide), e 34 (by decide), e (46 + h) (by omega)]
    exact hh h x
end
/-- one order tried, the reference -/
def zbt (any w e3 P e4 : Int32) : Prop := any = 0 ∨ w < e3 ∨ (w = e3 ∧ ¬ P ≤ e4)
section
variable {k158 : Int32 → Int32 → Int32 → Int32 → zMI → Option (Int32 × zMI)} {q : Nat} {l1 any e3 e4 e5 l6 P dg w : Int32} {J J0 M : zMI}
theorem g12_bestY (h1 : f12_powerOf (J 81 3) = some P) (h2 : ¬ P ≤ l6) (h3 : f12_tells l6 J = some (1, J0)) (h4 : f12_goesFor 600 J0 = some M) (h5 : f12_digitsNow M = some dg) (hw : (if M 81 48 = -1 then (600 : Int32) else M 81 48) = w) (hb : zbt any w e3 (M 81 47) e4) :
    f12_best_L25 k158 (q + 1) l1 any e3 e4 e5 l6 J = f12_best_L25 k158 q l1 1 w (M 81 47) dg (l6 + 1) M := by
  have h10 : ¬ (1 : Int32) = 0 := by decide
  have hx : (if any = (0 : Int32) then (1 : Int32) else if w < e3 then (1 : Int32) else if w = e3 then if M 81 47 ≤ e4 then (0 : Int32) else (1 : Int32) else (0 : Int32)) = 1 := by
    rcases hb with b | b | ⟨b1, b2⟩
    · rw [if_pos b]
    · by_cases c : any = 0
      · rw [if_pos c]
      · rw [if_neg c, if_pos b]
    · by_cases c : any = 0
      · rw [if_pos c]
      · by_cases c2 : w < e3
        · rw [if_neg c, if_pos c2]
        · rw [if_neg c, if_neg c2, if_pos b1, if_neg b2]
  rw [f12_best_L25]
  rw [h1, zb_some, if_neg h2, h3, zb_some]
  dsimp only
  rw [if_neg h10, h4, zb_some]
  simp only [zl_eq]
  rw [hw, hx]
  simp only [if_neg h10]
  rw [h5, zb_some]
  rfl
theorem g12_bestN (h1 : f12_powerOf (J 81 3) = some P) (h2 : ¬ P ≤ l6) (h3 : f12_tells l6 J = some (1, J0)) (h4 : f12_goesFor 600 J0 = some M) (hw : (if M 81 48 = -1 then (600 : Int32) else M 81 48) = w) (hb : ¬ zbt any w e3 (M 81 47) e4) :
    f12_best_L25 k158 (q + 1) l1 any e3 e4 e5 l6 J = f12_best_L25 k158 q l1 1 e3 e4 e5 (l6 + 1) M := by
  have h10 : ¬ (1 : Int32) = 0 := by decide
  have hx : (if any = (0 : Int32) then (1 : Int32) else if w < e3 then (1 : Int32) else if w = e3 then if M 81 47 ≤ e4 then (0 : Int32) else (1 : Int32) else (0 : Int32)) = 0 := by
    unfold zbt at hb
    rw [if_neg (fun x => hb (Or.inl x)), if_neg (fun x => hb (Or.inr (Or.inl x)))]
    by_cases c : w = e3
    · rw [if_pos c]
      by_cases c2 : M 81 47 ≤ e4
      · rw [if_pos c2]
      · exact absurd (Or.inr (Or.inr ⟨c, c2⟩)) hb
    · rw [if_neg c]
  rw [f12_best_L25]
  rw [h1, zb_some, if_neg h2, h3, zb_some]
  dsimp only
  rw [if_neg h10, h4, zb_some]
  simp only [zl_eq]
  rw [hw, hx]
  simp only [if_true]
  rfl
theorem g12_bestO (h1 : f12_powerOf (J 81 3) = some P) (h2 : ¬ P ≤ l6) (h3 : f12_tells l6 J = some (0, J0)) :
    f12_best_L25 k158 (q + 1) l1 any e3 e4 e5 l6 J = f12_best_L25 k158 q l1 any e3 e4 e5 (l6 + 1) J0 := by
  rw [f12_best_L25]
  rw [h1, zb_some, if_neg h2, h3, zb_some]
  dsimp only
  rw [if_pos rfl]
  rfl
end

section
variable {n : Nat} {kd : zMK} {R R1 : zMR} {k181 : Int32 → Int32 → Int32 → Int32 → zMI → zMR → Option (Int32 × zMI × zMR)} {q : Nat} {l1 l2 l3 l4 l5 l6 T s0 s1 dg : Int32} {I I1 I2 I3 : zMI}
theorem g11_bestF (h6 : ¬ (120 : Int32) ≤ l6) (h5 : ¬ l5 = 0) (h1 : f11_layByOrder n kd I R = some (I1, R1)) (hT : (if (600 : Int32) < l2 + 1 then (600 : Int32) else l2 + 1) = T) (h2 : f0_pass n kd R1 T I1 = some I2) (hs : (if I2 42 12 = -1 then (1000000 : Int32) else I2 42 12) = s0) :
    f11_best_L30 n kd k181 (q + 1) l1 l2 l3 l4 l5 l6 I R = f11_best_B89 n kd (f11_best_L30 n kd k181 q) l1 l2 l3 l4 l6 T s0 I2 R1 := by
  rw [f11_best_L30]
  rw [if_neg h6, if_neg h5, h1, zb_some]
  dsimp only
  rw [zl_eq, hT, h2, zb_some]
  by_cases c : I2 42 12 = -1
  · rw [if_pos c] at hs ⊢
    rw [hs]
  · rw [if_neg c] at hs ⊢
    rw [hs]
variable {k30 : Int32 → Int32 → Int32 → Int32 → Int32 → Int32 → zMI → zMR → Option (Int32 × zMI × zMR)}
theorem g11_bestS (h : l2 < s0) : f11_best_B89 n kd k30 l1 l2 l3 l4 l6 T s0 I2 R1 = f11_best_B169 n kd k30 l1 l2 l3 l4 l6 I2 R1 := by
  unfold f11_best_B89
  rw [if_pos h]
theorem g11_bestG (h : ¬ l2 < s0) (h3 : f0_pass n kd R1 (600 - T) I2 = some I3) (hs : (if I3 42 12 = -1 then (1000000 : Int32) else I3 42 12) = s1) : f11_best_B89 n kd k30 l1 l2 l3 l4 l6 T s0 I2 R1 = f11_best_B133 n kd k30 l1 l2 l3 l4 l6 s1 I3 R1 := by
  unfold f11_best_B89
  rw [if_neg h, h3, zb_some]
  by_cases c : I3 42 12 = -1
  · rw [if_pos c] at hs ⊢
    rw [hs]
  · rw [if_neg c] at hs ⊢
    rw [hs]
theorem g11_bestY (hd : f11_orderAsDigits I3 = some dg) (h : s1 < l2 ∨ ¬ I3 42 9 ≤ l3) : f11_best_B133 n kd k30 l1 l2 l3 l4 l6 s1 I3 R1 = f11_best_B169 n kd k30 l1 s1 (I3 42 9) dg l6 I3 R1 := by
  unfold f11_best_B133 f11_best_B152
  rw [hd, zb_some]
  by_cases c : s1 < l2
  · rw [if_pos c]
  · rw [if_neg c]
    rcases h with x | x
    · exact absurd x c
    · rw [if_neg x]
theorem g11_bestN (h : ¬ (s1 < l2 ∨ ¬ I3 42 9 ≤ l3)) : f11_best_B133 n kd k30 l1 l2 l3 l4 l6 s1 I3 R1 = f11_best_B169 n kd k30 l1 l2 l3 l4 l6 I3 R1 := by
  unfold f11_best_B133
  rw [if_neg (fun x => h (Or.inl x))]
  by_cases c : I3 42 9 ≤ l3
  · rw [if_pos c]
  · exact absurd (Or.inr c) h
end
def zbr (any l2 l3 l4 e3 e4 e5 : Int32) : Prop := (any = 0 ∧ l2 = 1000000 ∧ l3 = -1 ∧ l4 = 0) ∨ (any = 1 ∧ l3 = e4 ∧ l4 = e5 ∧ ((l2 = 1000000 ∧ e3 = 600) ∨ (l2 = e3 ∧ 0 ≤ e3.toInt ∧ e3.toInt < 600)))
