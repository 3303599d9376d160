/-! pure part: the class shares the heaps out -/
/-- as few heaps as may be, over which the rest can be done within m -/
def zgr (nx : Nat → Int) (m : Int) : Nat → Nat → Nat
  | 0, _ => 0
  | d + 1, e => if nx e ≤ m then 0 else zgr nx m d (e + 1) + 1
theorem zgr_le {nx : Nat → Int} {m : Int} : ∀ d e, zgr nx m d e ≤ d := by
  intro d
  induction d with
  | zero => intro e; exact Nat.le_refl _
  | succ d ih =>
    intro e
    unfold zgr
    have := ih (e + 1)
    split <;> omega
/-- where walker w's stretch begins -/
def zat (F : Nat → Nat → Int) (c : Nat) (m : Int) : Nat → Nat
  | 0 => 0
  | w + 1 => zat F c m w + zgr (zDt F (c - (w + 1)) (w + 1)) m (9 - zat F c m w) (zat F c m w)
theorem zat_9 {F : Nat → Nat → Int} {c : Nat} {m : Int} : ∀ w, zat F c m w ≤ 9 := by
  intro w
  induction w with
  | zero => exact Nat.zero_le _
  | succ w ih =>
    have := zgr_le (nx := zDt F (c - (w + 1)) (w + 1)) (m := m) (9 - zat F c m w) (zat F c m w)
    rw [zat]
    omega
theorem g7_fill {n a : Nat} {kd : zMK} {v : Int32} {I : zMI} (hk : zKdB n kd a 0 = true) (hN : (kd a).2 < 100) : ∃ J, fJ7_fill_53178 n kd a v I = some J ∧ (∀ k, J a k = if k < (kd a).2 then v else I a k) ∧ ∀ b, b ≠ a → J b = I b := by
  have e := zofn_i (m := (kd a).2) (by omega)
  obtain ⟨J, j1, j2, j3⟩ := gJ7_fillL (n := n) (a := a) (v := v) (l3 := Int32.ofNat (kd a).2) hk e (kd a).2 zF 0 I (by rw [z0, e]; omega) (by rw [z0]; omega) (by unfold zF; omega)
  refine ⟨J, ?_, fun k => ?_, j3⟩
  · unfold fJ7_fill_53178
    rw [if_pos hk, zl_eq]
    exact j1
  · rw [j2 k, z0]
    by_cases c : k < (kd a).2
    · rw [if_pos c, if_pos ⟨by omega, c⟩]
    · rw [if_neg c, if_neg (fun q => c q.2)]
section
variable {n : Nat} {kd : zMK} {R : zMR} {L s t w : Nat} {A : Nat → Nat} {I J : zMI}
theorem g11_plan {c : Nat} (hQ : zQ n kd R L s t A I J) (hc : (J 81 3).toInt.toNat = c) (hs : 68 ≤ s) :
    ∃ v I', f11_planStretches n kd R I = some (v, I') ∧ v.toInt = zDt (zct J) c 0 0 ∧ (∀ w, w ≤ c → ∀ x, x < 10 → (I' (57 + w) x).toInt = zDt (zct J) (c - w) w x) ∧ zQI s I I' ∧ I' 63 = I 63 := by
  obtain ⟨hS, ⟨a1, a2, a3⟩, -⟩ := id hQ
  have hc5 : c ≤ 5 := by omega
  have ex : (if (5 : Int32) < I 32 4 then (5 : Int32) else I 32 4) = J 81 3 := by
    rw [a1, if_neg (by rw [zlt_iff, zn5i]; omega)]
  have ek : kd (57 + c) = (0, 10) := by
    rw [hS.2 _ (by omega) (by omega)]
    rcases (show c = 0 ∨ c = 1 ∨ c = 2 ∨ c = 3 ∨ c = 4 ∨ c = 5 by omega) with q | q | q | q | q | q <;> rw [q] <;> rfl
  obtain ⟨K, k1, k2, k3⟩ := g7_fill (n := n) (kd := kd) (a := 57 + c) (v := 1000000) (I := I) (zKd_ok (by omega) (by have := hS.1; omega) (by rw [ek])) (by rw [ek]; decide)
  have nc : (J 81 3).toNatClampNeg = c := by rw [zcl_iff]; exact hc
  have q0 : zQI s I (uI K (57 + c) 9 0) := fun b x y z => by rw [uI_ne (by omega), k3 b (by omega)]
  obtain ⟨I', u1, u2, u3, u4⟩ := g11_planL34 (k72 := f11_planStretches_B72 n kd R) hc hc5 hs c zF (J 81 3 - 1) (uI K (57 + c) 9 0) (zQ_keep hQ q0 zQJ_rfl) (by rw [zsub (by rw [z1]; omega) (by rw [z1]; omega), z1]; omega) (Nat.le_refl _) (by unfold zF; omega) (fun w h1 h2 x hx => by
    have : w = c := by omega
    subst this
    rw [Nat.sub_self, zDt]
    by_cases q : x = 9
    · rw [q, uI_at, if_pos rfl]
      rfl
    · rw [uI_off q, if_neg q, k2 x, ek, if_pos hx]
      rfl)
  refine ⟨I' 57 0, I', ?_, by have := u2 0 (Nat.zero_le _) 0 (by decide); exact this, u2, zQI_tr q0 u3, by rw [u4, uI_ne (by omega), k3 63 (by omega)]⟩
  unfold f11_planStretches
  rw [ex, zl_eq, if_pos (zib_ok (by omega) (by omega)), nc, k1, zb_some, if_pos (by decide), zl_eq]
  show f11_planStretches_L34 n kd R (f11_planStretches_B72 n kd R) zF (J 81 3 - 1) (uI K (57 + c) 9 0) = _
  rw [u1]
  rfl
theorem g11_shareL20 {k52 : Int32 → Int32 → Int32 → Int32 → zMI → Option zMI} {nx : Nat → Int} {l1 l2 l3 : Int32} (e3 : l3.toInt = (w : Int)) (hw5 : w < 5) (h2 : 0 ≤ l2.toInt ∧ l2.toInt ≤ 9) (hr : ∀ x, x < 10 → (I (57 + (w + 1)) x).toInt = nx x) : ∀ (d q : Nat) (l4 : Int32), l2.toInt + l4.toInt + d = 9 → 0 ≤ l4.toInt → d < q →
    ∃ g : Int32, f11_shareHeaps_L20 k52 q l1 l2 l3 l4 I = k52 l1 l2 l3 g I ∧ g.toInt = l4.toInt + (zgr nx l1.toInt d (l2.toInt.toNat + l4.toInt.toNat) : Nat) := by
  have l3s : (l3 + 1).toInt = l3.toInt + 1 := by rw [zadd (by rw [z1]; omega) (by rw [z1]; omega), z1]
  have nl : (l3 + 1).toNatClampNeg = w + 1 := by rw [zcl_iff, l3s, e3]; omega
  intro d
  induction d with
  | zero =>
    intro q l4 e h0 hq
    obtain ⟨q, rfl⟩ : ∃ p, q = p + 1 := ⟨q - 1, by omega⟩
    have es : (l2 + l4).toInt = l2.toInt + l4.toInt := zadd (by omega) (by omega)
    refine ⟨l4, ?_, by simp [zgr]⟩
    unfold f11_shareHeaps_L20
    rw [if_pos (by rw [zle_iff, z9]; omega)]
  | succ d ih =>
    intro q l4 e h0 hq
    obtain ⟨q, rfl⟩ : ∃ p, q = p + 1 := ⟨q - 1, by omega⟩
    have es : (l2 + l4).toInt = l2.toInt + l4.toInt := zadd (by omega) (by omega)
    have es1 : (l4 + 1).toInt = l4.toInt + 1 := by rw [zadd (by rw [z1]; omega) (by rw [z1]; omega), z1]
    have ns : (l2 + l4).toNatClampNeg = l2.toInt.toNat + l4.toInt.toNat := by rw [zcl_iff, es]; omega
    have hx := hr (l2.toInt.toNat + l4.toInt.toNat) (by omega)
    rw [f11_shareHeaps_L20]
    rw [if_neg (by rw [zle_iff, z9]; omega), if_pos (zib_ok (by omega) (by omega)), if_pos (zib_ok (by omega) (by omega)), nl, ns]
    rw [zgr]
    by_cases c : I (57 + (w + 1)) (l2.toInt.toNat + l4.toInt.toNat) ≤ l1
    · rw [if_pos c]
      refine ⟨l4, rfl, ?_⟩
      rw [zle_iff, hx] at c
      rw [if_pos c]
      omega
    · rw [if_neg c]
      rw [zle_iff, hx] at c
      rw [if_neg c]
      obtain ⟨g, u1, u2⟩ := ih q (l4 + 1) (by omega) (by omega) (by omega)
      refine ⟨g, u1, ?_⟩
      rw [u2, es1, show l2.toInt.toNat + (l4.toInt + 1).toNat = l2.toInt.toNat + l4.toInt.toNat + 1 by omega]
      omega
theorem g11_shareL4 {F : Nat → Nat → Int} {c : Nat} {l1 : Int32} (hc5 : c ≤ 5) : ∀ (d q : Nat) (l2 l3 : Int32) (I : zMI), (I 32 4).toInt = (c : Int) → (∀ w, w ≤ c → ∀ x, x < 10 → (I (57 + w) x).toInt = zDt F (c - w) w x) → l3.toInt + d = (c : Int) → 0 ≤ l3.toInt → l2.toInt = (zat F c l1.toInt l3.toInt.toNat : Nat) → (∀ w : Nat, (w : Int) < l3.toInt → (I 63 w).toInt = (zat F c l1.toInt (w + 1) : Nat) - (zat F c l1.toInt w : Nat)) → d < q →
    ∃ I', f11_shareHeaps_L4 q l1 l2 l3 I = some I' ∧ (∀ w, w < c → (I' 63 w).toInt = (zat F c l1.toInt (w + 1) : Nat) - (zat F c l1.toInt w : Nat)) ∧ ∀ b, b ≠ 63 → I' b = I b := by
  intro d
  induction d with
  | zero =>
    intro q l2 l3 I e4 hr e h0 e2 hd hq
    obtain ⟨q, rfl⟩ : ∃ p, q = p + 1 := ⟨q - 1, by omega⟩
    refine ⟨I, ?_, fun w hw => hd w (by omega), fun _ _ => rfl⟩
    unfold f11_shareHeaps_L4
    rw [if_pos (by rw [zle_iff]; omega)]
  | succ d ih =>
    intro q l2 l3 I e4 hr e h0 e2 hd hq
    obtain ⟨q, rfl⟩ : ∃ p, q = p + 1 := ⟨q - 1, by omega⟩
    have es : (l3 + 1).toInt = l3.toInt + 1 := by rw [zadd (by rw [z1]; omega) (by rw [z1]; omega), z1]
    have nl : l3.toNatClampNeg = l3.toInt.toNat := zcl_iff l3
    have a9 := zat_9 (F := F) (c := c) (m := l1.toInt) l3.toInt.toNat
    have a9' := zat_9 (F := F) (c := c) (m := l1.toInt) (l3.toInt.toNat + 1)
    obtain ⟨g, u1, u2⟩ := g11_shareL20 (w := l3.toInt.toNat) (I := I) (k52 := f11_shareHeaps_B52 (f11_shareHeaps_L4 q)) (nx := zDt F (c - (l3.toInt.toNat + 1)) (l3.toInt.toNat + 1)) (l1 := l1) (l2 := l2) (l3 := l3) (by omega) (by omega) (by omega) (fun x hx => hr _ (by omega) x hx) (9 - zat F c l1.toInt l3.toInt.toNat) zF 0 (by rw [z0]; omega) (by rw [z0]; omega) (by unfold zF; omega)
    rw [z0] at u2
    have st : zat F c l1.toInt (l3.toInt.toNat + 1) = zat F c l1.toInt l3.toInt.toNat + zgr (zDt F (c - (l3.toInt.toNat + 1)) (l3.toInt.toNat + 1)) l1.toInt (9 - zat F c l1.toInt l3.toInt.toNat) (zat F c l1.toInt l3.toInt.toNat) := rfl
    have eg : g.toInt = (zgr (zDt F (c - (l3.toInt.toNat + 1)) (l3.toInt.toNat + 1)) l1.toInt (9 - zat F c l1.toInt l3.toInt.toNat) (zat F c l1.toInt l3.toInt.toNat) : Nat) := by
      rw [u2, show l2.toInt.toNat + (0 : Int).toNat = zat F c l1.toInt l3.toInt.toNat by omega]
      omega
    have sg : (l2 + g).toInt = l2.toInt + g.toInt := zadd (by omega) (by omega)
    obtain ⟨I', v1, v2, v3⟩ := ih q (l2 + g) (l3 + 1) (uI I 63 l3.toInt.toNat g) (by rw [uI_ne (by decide)]; exact e4) (fun w hw x hx => by rw [uI_ne (by omega)]; exact hr w hw x hx) (by omega) (by omega) (by rw [sg, es, show (l3.toInt + 1).toNat = l3.toInt.toNat + 1 by omega, st]; omega) (fun w hw => by
      by_cases q : w = l3.toInt.toNat
      · rw [q, uI_at, st]
        omega
      · rw [uI_off q]
        exact hd w (by omega)) (by omega)
    refine ⟨I', ?_, v2, fun b hb => by rw [v3 b hb, uI_ne hb]⟩
    rw [f11_shareHeaps_L4]
    rw [if_neg (by rw [zle_iff]; omega), if_neg (by rw [zle_iff, zn5i]; omega), u1]
    unfold f11_shareHeaps_B52
    rw [if_pos (zib_ok h0 (by omega)), zl_eq, nl]
    exact v1
end
