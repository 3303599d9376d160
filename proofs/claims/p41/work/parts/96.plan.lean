/-! pure part: the class's plan of stretches -/
/-- the least of the most, from own and best so far -/
def zfw (nx f : Nat → Int) : Nat → Int → Int → Nat → Int
  | 0, best, _, _ => best
  | d + 1, best, own, e => zfw nx f d (if (if own < nx e then nx e else own) < best then (if own < nx e then nx e else own) else best) (own + (if e = 9 then 0 else f e)) (e + 1)
def zDt (F : Nat → Nat → Int) : Nat → Nat → Nat → Int
  | 0, _, a => if a = 9 then 0 else 1000000
  | k + 1, w, a => zfw (zDt F k (w + 1)) (F w) (10 - a) 1000000 0 a
theorem zite_toInt {p : Prop} [Decidable p] {a b : Int32} : (if p then a else b).toInt = if p then a.toInt else b.toInt := by
  split <;> rfl
section
variable {n : Nat} {kd : zMK} {R : zMR} {L s t w : Nat} {A : Nat → Nat} {I J : zMI}
theorem g11_fewL {nx : Nat → Int} {l1 : Int32} (e1 : l1.toInt = (w : Int)) (hw : w < (J 81 3).toInt.toNat) (hw5 : w < 5) (hs : 68 ≤ s) : ∀ (d q : Nat) (best own e : Int32) (I : zMI), zQ n kd R L s t A I J → (∀ x, x < 10 → (I (57 + (w + 1)) x).toInt = nx x) → e.toInt + d = 10 → 0 ≤ e.toInt → d < q → (0 ≤ own.toInt ∧ own.toInt ≤ 80 * e.toInt) →
    ∃ v I', f11_fewestFrom_L9 n kd R q l1 best own e I = some (v, I') ∧ v.toInt = zfw nx (zct J w) d best.toInt own.toInt e.toInt.toNat ∧ ∀ b, b ≠ s → b ≠ s + 1 → I' b = I b := by
  have l1s : (l1 + 1).toInt = l1.toInt + 1 := by rw [zadd (by rw [z1]; omega) (by rw [z1]; omega), z1]
  have nl : (l1 + 1).toNatClampNeg = w + 1 := by rw [zcl_iff, l1s, e1]; omega
  intro d
  induction d with
  | zero =>
    intro q best own e I hQ hr ee h0 hq ho
    obtain ⟨q, rfl⟩ : ∃ p, q = p + 1 := ⟨q - 1, by omega⟩
    refine ⟨best, I, ?_, rfl, fun _ _ _ => rfl⟩
    unfold f11_fewestFrom_L9
    rw [if_pos (by rw [zlt_iff, z9]; omega)]
  | succ d ih =>
    intro q best own e I hQ hr ee h0 hq ho
    obtain ⟨q, rfl⟩ : ∃ p, q = p + 1 := ⟨q - 1, by omega⟩
    have es : (e + 1).toInt = e.toInt + 1 := by rw [zadd (by rw [z1]; omega) (by rw [z1]; omega), z1]
    have ne : e.toNatClampNeg = e.toInt.toNat := zcl_iff e
    obtain ⟨v1, I1, p1, p2, p3⟩ : ∃ v1 I1, f11_ownSeconds n kd R l1 e 1 I = some (v1, I1) ∧ v1.toInt = (if e.toInt.toNat = 9 then 0 else zct J w e.toInt.toNat) ∧ ∀ b, b ≠ s → b ≠ s + 1 → I1 b = I b := by
      by_cases c : e.toInt = 9
      · obtain ⟨v1, I1, p1, p2, p3⟩ := g11_own (l1 := l1) (l2 := e) (l3 := 1) (E := 9) hQ (by omega) (by rw [e1]; exact hw) ⟨by omega, Or.inr ⟨rfl, by omega⟩⟩ ⟨h0, by omega⟩
        refine ⟨v1, I1, p1, ?_, p3⟩
        rw [p2, if_pos (by omega), show 9 - e.toInt.toNat = 0 by omega]
        rfl
      · obtain ⟨v1, I1, p1, p2, p3⟩ := g11_own (l1 := l1) (l2 := e) (l3 := 1) (E := e.toInt.toNat + 1) hQ (by omega) (by rw [e1]; exact hw) ⟨by omega, Or.inl (by omega)⟩ ⟨h0, by omega⟩
        refine ⟨v1, I1, p1, ?_, p3⟩
        rw [p2, if_neg (by omega), show e.toInt.toNat + 1 - e.toInt.toNat = 1 by omega, show l1.toInt.toNat = w by omega]
        simp [zsm]
    have vr : 0 ≤ v1.toInt ∧ v1.toInt ≤ 80 := by
      rw [p2]
      by_cases c : e.toInt.toNat = 9
      · rw [if_pos c]; omega
      · rw [if_neg c]
        have := zct_r hQ hw (h := e.toInt.toNat) (by omega)
        omega
    have so : (own + v1).toInt = own.toInt + v1.toInt := zadd (by omega) (by omega)
    have q1 : zQI s I I1 := fun b _ y z => p3 b y z
    obtain ⟨v, I', u1, u2, u3⟩ := ih q (if (if own < I (57 + (w + 1)) e.toInt.toNat then I (57 + (w + 1)) e.toInt.toNat else own) < best then (if own < I (57 + (w + 1)) e.toInt.toNat then I (57 + (w + 1)) e.toInt.toNat else own) else best) (own + v1) (e + 1) I1 (zQ_keep hQ q1 zQJ_rfl) (fun x hx => by rw [p3 _ (by omega) (by omega)]; exact hr x hx) (by omega) (by omega) (by omega) (by omega)
    refine ⟨v, I', ?_, ?_, fun b y z => by rw [u3 b y z, p3 b y z]⟩
    · unfold f11_fewestFrom_L9
      rw [if_neg (by rw [zlt_iff, z9]; omega), if_pos (zib_ok (by omega) (by omega)), if_pos (zib_ok h0 (by omega)), nl, ne, zl_eq, zl_eq, p1, zb_some]
      exact u1
    · rw [u2, zfw]
      have a1 := hr e.toInt.toNat (by omega)
      rw [so, p2, es, show (e.toInt + 1).toNat = e.toInt.toNat + 1 by omega]
      simp only [zite_toInt, zlt_iff, a1]
theorem g11_few {nx : Nat → Int} {l1 e : Int32} (hQ : zQ n kd R L s t A I J) (e1 : l1.toInt = (w : Int)) (hw : w < (J 81 3).toInt.toNat) (hw5 : w < 5) (hs : 68 ≤ s) (hr : ∀ x, x < 10 → (I (57 + (w + 1)) x).toInt = nx x) (h0 : 0 ≤ e.toInt ∧ e.toInt ≤ 9) :
    ∃ v I', f11_fewestFrom n kd R l1 e I = some (v, I') ∧ v.toInt = zfw nx (zct J w) (10 - e.toInt.toNat) 1000000 0 e.toInt.toNat ∧ ∀ b, b ≠ s → b ≠ s + 1 → I' b = I b := by
  obtain ⟨v, I', u1, u2, u3⟩ := g11_fewL (nx := nx) e1 hw hw5 hs (10 - e.toInt.toNat) zF 1000000 0 e I hQ hr (by omega) h0.1 (by unfold zF; omega) (by rw [z0]; omega)
  exact ⟨v, I', u1, u2, u3⟩
theorem g11_planL40 {k66 : Int32 → zMI → Option (Int32 × zMI)} {nx : Nat → Int} {l2 : Int32} (e1 : l2.toInt = (w : Int)) (hw : w < (J 81 3).toInt.toNat) (hw5 : w < 5) (hs : 68 ≤ s) : ∀ (d q : Nat) (e : Int32) (I : zMI), zQ n kd R L s t A I J → (∀ x, x < 10 → (I (57 + (w + 1)) x).toInt = nx x) → (∀ x : Nat, (x : Int) < e.toInt → (I (57 + w) x).toInt = zfw nx (zct J w) (10 - x) 1000000 0 x) → e.toInt + d = 10 → 0 ≤ e.toInt → d < q →
    ∃ I', f11_planStretches_L40 n kd R k66 q l2 e I = k66 l2 I' ∧ (∀ x, x < 10 → (I' (57 + w) x).toInt = zfw nx (zct J w) (10 - x) 1000000 0 x) ∧ ∀ b, b ≠ 57 + w → b ≠ s → b ≠ s + 1 → I' b = I b := by
  have nl : l2.toNatClampNeg = w := by rw [zcl_iff, e1]; omega
  intro d
  induction d with
  | zero =>
    intro q e I hQ hr hd ee h0 hq
    obtain ⟨q, rfl⟩ : ∃ p, q = p + 1 := ⟨q - 1, by omega⟩
    refine ⟨I, ?_, fun x hx => hd x (by omega), fun _ _ _ _ => rfl⟩
    unfold f11_planStretches_L40
    rw [if_pos (by rw [zlt_iff, z9]; omega)]
  | succ d ih =>
    intro q e I hQ hr hd ee h0 hq
    obtain ⟨q, rfl⟩ : ∃ p, q = p + 1 := ⟨q - 1, by omega⟩
    have es : (e + 1).toInt = e.toInt + 1 := by rw [zadd (by rw [z1]; omega) (by rw [z1]; omega), z1]
    have ne : e.toNatClampNeg = e.toInt.toNat := zcl_iff e
    obtain ⟨v1, I1, p1, p2, p3⟩ := g11_few (nx := nx) hQ e1 hw hw5 hs hr ⟨h0, by omega⟩
    obtain ⟨I', u1, u2, u3⟩ := ih q (e + 1) (uI I1 (57 + w) e.toInt.toNat v1) (zQ_keep hQ (fun b x y z => by rw [uI_ne (by omega), p3 b y z]) zQJ_rfl) (fun x hx => by rw [uI_ne (by omega), p3 _ (by omega) (by omega)]; exact hr x hx) (fun x hx => by
      by_cases c : x = e.toInt.toNat
      · rw [c, uI_at, p2]
      · rw [uI_off c, p3 _ (by omega) (by omega)]
        exact hd x (by omega)) (by omega) (by omega) (by omega)
    refine ⟨I', ?_, u2, fun b x y z => by rw [u3 b x y z, uI_ne x, p3 b y z]⟩
    rw [← u1]
    rw [f11_planStretches_L40]
    rw [if_neg (by rw [zlt_iff, z9]; omega), if_pos (zib_ok (by omega) (by omega)), p1, zb_some, if_pos (zib_ok h0 (by omega)), nl, ne, zl_eq]
theorem g11_planL34 {k72 : zMI → Option (Int32 × zMI)} {c : Nat} (hc : (J 81 3).toInt.toNat = c) (hc5 : c ≤ 5) (hs : 68 ≤ s) : ∀ (k q : Nat) (l2 : Int32) (I : zMI), zQ n kd R L s t A I J → l2.toInt = (k : Int) - 1 → k ≤ c → k < q → (∀ w, k ≤ w → w ≤ c → ∀ x, x < 10 → (I (57 + w) x).toInt = zDt (zct J) (c - w) w x) →
    ∃ I', f11_planStretches_L34 n kd R k72 q l2 I = k72 I' ∧ (∀ w, w ≤ c → ∀ x, x < 10 → (I' (57 + w) x).toInt = zDt (zct J) (c - w) w x) ∧ zQI s I I' ∧ I' 63 = I 63 := by
  intro k
  induction k with
  | zero =>
    intro q l2 I hQ e hk hq hr
    obtain ⟨q, rfl⟩ : ∃ p, q = p + 1 := ⟨q - 1, by omega⟩
    refine ⟨I, ?_, fun w hw => hr w (by omega) hw, zQI_rfl, rfl⟩
    unfold f11_planStretches_L34
    rw [if_pos (by rw [zlt_iff, z0]; omega)]
  | succ k ih =>
    intro q l2 I hQ e hk hq hr
    obtain ⟨q, rfl⟩ : ∃ p, q = p + 1 := ⟨q - 1, by omega⟩
    have ed : (l2 + (-1)).toInt = l2.toInt - 1 := by rw [zadd (by rw [znm1]; omega) (by rw [znm1]; omega), znm1]; omega
    obtain ⟨I1, u1, u2, u3⟩ := g11_planL40 (k66 := f11_planStretches_B66 n kd R (f11_planStretches_L34 n kd R k72 q)) (nx := zDt (zct J) (c - (k + 1)) (k + 1)) (w := k) (l2 := l2) (by omega) (by omega) (by omega) hs 10 zF 0 I hQ (fun x hx => hr (k + 1) (by omega) hk x hx) (fun x hx => by rw [z0] at hx; omega) (by rw [z0]; rfl) (by rw [z0]; omega) (by unfold zF; omega)
    have qi : zQI s I I1 := fun b x y z => u3 b (by omega) y z
    obtain ⟨I', v1, v2, v3, v4⟩ := ih q (l2 + (-1)) I1 (zQ_keep hQ qi zQJ_rfl) (by omega) (by omega) (by omega) (fun w h1 h2 x hx => by
      by_cases q : w = k
      · rw [q, u2 x hx, show c - k = (c - (k + 1)) + 1 by omega]
        rfl
      · rw [u3 _ (by omega) (by omega) (by omega)]
        exact hr w (by omega) h2 x hx)
    refine ⟨I', ?_, v2, zQI_tr qi v3, by rw [v4, u3 63 (by omega) (by omega) (by omega)]⟩
    rw [f11_planStretches_L34]
    rw [if_neg (by rw [zlt_iff, z0]; omega), u1]
    unfold f11_planStretches_B66
    exact v1
end
