/-! pure part: what a sharing comes to, both sides -/
def zsg (F : Nat → Nat → Int) (st : Nat → Nat) (w : Nat) : Int := zsm (F w) (st w) (st (w + 1) - st w)
def ztt (F : Nat → Nat → Int) (st : Nat → Nat) : Nat → Nat → Int
  | 0, _ => 0
  | d + 1, w => zsg F st w + ztt F st d (w + 1)
def zsl (F : Nat → Nat → Int) (st : Nat → Nat) (m : Int) : Nat → Nat → Int
  | 0, _ => -1
  | d + 1, w => if zsg F st w = m then w else zsl F st m d (w + 1)
def zdg (st : Nat → Nat) : Nat → Nat → Int → Int
  | 0, _, x => x
  | d + 1, w, x => zdg st d (w + 1) (x * 10 + (st (w + 1) - st w : Nat))
/-- the most -/
def zmo (F : Nat → Nat → Int) (st : Nat → Nat) : Nat → Nat → Int → Int
  | 0, _, x => x
  | d + 1, w, x => zmo F st d (w + 1) (if zsg F st w ≤ x then x else zsg F st w)
def zst' (c : Nat) (st : Nat → Nat) : Prop := ∀ w, w < c → st w ≤ st (w + 1) ∧ st (w + 1) ≤ 9
def zgv (c : Nat) (st : Nat → Nat) (row : Nat → Int32) : Prop := ∀ w, w < c → (row w).toInt = (st (w + 1) - st w : Nat)
theorem zsm_r {f : Nat → Int} {a : Nat} : ∀ k, (∀ i, i < k → 0 ≤ f (a + i) ∧ f (a + i) ≤ 80) → 0 ≤ zsm f a k ∧ zsm f a k ≤ 80 * k := by
  intro k
  induction k with
  | zero => intro _; simp [zsm]
  | succ k ih =>
    intro h
    have h1 := ih (fun i hi => h i (by omega))
    have h2 := h k (by omega)
    rw [zsm]
    omega
section
variable {n : Nat} {kd : zMK} {R : zMR} {L s t w c : Nat} {A : Nat → Nat} {I J : zMI} {st : Nat → Nat}
theorem zsg_r (hQ : zQ n kd R L s t A I J) (hc : (J 81 3).toInt.toNat = c) (hst : zst' c st) (hw : w < c) : 0 ≤ zsg (zct J) st w ∧ zsg (zct J) st w ≤ 720 := by
  obtain ⟨h1, h2⟩ := hst w hw
  have := zsm_r (f := zct J w) (a := st w) (st (w + 1) - st w) (fun i hi => by
    have := zct_r hQ (w := w) (h := st w + i) (by omega) (by omega)
    omega)
  unfold zsg
  omega
theorem g11_ownS {l2 l3 : Int32} (hQ : zQ n kd R L s t A I J) (hc : (J 81 3).toInt.toNat = c) (hst : zst' c st) (hg : zgv c st (I 63)) (h3 : 0 ≤ l3.toInt ∧ l3.toInt < (c : Int)) (h2 : l2.toInt = (st l3.toInt.toNat : Nat)) :
    ∃ v I', f11_ownSeconds n kd R l3 l2 (I 63 l3.toInt.toNat) I = some (v, I') ∧ v.toInt = zsg (zct J) st l3.toInt.toNat ∧ ∀ b, b ≠ s → b ≠ s + 1 → I' b = I b := by
  obtain ⟨g1, g2⟩ := hst l3.toInt.toNat (by omega)
  have g3 := hg l3.toInt.toNat (by omega)
  have sm : (l2 + I 63 l3.toInt.toNat).toInt = l2.toInt + (I 63 l3.toInt.toNat).toInt := zadd (by omega) (by omega)
  obtain ⟨v, I', u1, u2, u3⟩ := g11_own (l1 := l3) (l2 := l2) (l3 := I 63 l3.toInt.toNat) (E := st (l3.toInt.toNat + 1)) hQ h3.1 (by omega) ⟨g2, Or.inl (by omega)⟩ (by omega)
  refine ⟨v, I', u1, ?_, u3⟩
  rw [u2, show l2.toInt.toNat = st l3.toInt.toNat by omega]
  rfl
theorem g11_allL (hc : (J 81 3).toInt.toNat = c) (hc5 : c ≤ 5) (hst : zst' c st) : ∀ (d q : Nat) (acc l2 l3 : Int32) (I : zMI), zQ n kd R L s t A I J → zgv c st (I 63) → l3.toInt + d = (c : Int) → 0 ≤ l3.toInt → l2.toInt = (st l3.toInt.toNat : Nat) → (0 ≤ acc.toInt ∧ acc.toInt ≤ 1000 * l3.toInt) → d < q →
    ∃ v I', f11_secondsOfAll_L6 n kd R q acc l2 l3 I = some (v, I') ∧ v.toInt = acc.toInt + ztt (zct J) st d l3.toInt.toNat ∧ ∀ b, b ≠ s → b ≠ s + 1 → I' b = I b := by
  intro d
  induction d with
  | zero =>
    intro q acc l2 l3 I hQ hg e h0 e2 ha hq
    obtain ⟨q, rfl⟩ : ∃ p, q = p + 1 := ⟨q - 1, by omega⟩
    have a1 := hQ.2.1.1
    refine ⟨acc, I, ?_, by simp [ztt], fun _ _ _ => rfl⟩
    unfold f11_secondsOfAll_L6
    rw [if_pos (by rw [zle_iff, a1]; omega)]
  | succ d ih =>
    intro q acc l2 l3 I hQ hg e h0 e2 ha hq
    obtain ⟨q, rfl⟩ : ∃ p, q = p + 1 := ⟨q - 1, by omega⟩
    have a1 := hQ.2.1.1
    have hb := zLo_big hQ.2.2.1.2.1.1
    have es : (l3 + 1).toInt = l3.toInt + 1 := by rw [zadd (by rw [z1]; omega) (by rw [z1]; omega), z1]
    have en : (l3.toInt + 1).toNat = l3.toInt.toNat + 1 := by omega
    have nl : l3.toNatClampNeg = l3.toInt.toNat := zcl_iff l3
    obtain ⟨v1, I1, p1, p2, p3⟩ := g11_ownS hQ hc hst hg ⟨h0, by omega⟩ e2
    have r := zsg_r hQ hc hst (w := l3.toInt.toNat) (by omega)
    have I63 : I1 63 = I 63 := p3 63 (by omega) (by omega)
    obtain ⟨g1, g2⟩ := hst l3.toInt.toNat (by omega)
    have g3 := hg l3.toInt.toNat (by omega)
    have sm : (l2 + I1 63 l3.toInt.toNat).toInt = l2.toInt + (I 63 l3.toInt.toNat).toInt := by rw [I63]; exact zadd (by omega) (by omega)
    have sa : (acc + v1).toInt = acc.toInt + v1.toInt := zadd (by omega) (by omega)
    obtain ⟨v, I', u1, u2, u3⟩ := ih q (acc + v1) (l2 + I1 63 l3.toInt.toNat) (l3 + 1) I1 (zQ_keep hQ (fun b _ y z => p3 b y z) zQJ_rfl) (by rw [I63]; exact hg) (by omega) (by omega) (by rw [sm, es, en]; omega) (by omega) (by omega)
    refine ⟨v, I', ?_, ?_, fun b y z => by rw [u3 b y z, p3 b y z]⟩
    · unfold f11_secondsOfAll_L6
      rw [if_neg (by rw [zle_iff, a1]; omega), if_neg (by rw [zle_iff, zn5i]; omega), if_pos (zib_ok h0 (by omega)), nl, p1, zb_some, zl_eq]
      exact u1
    · rw [u2, sa, p2, ztt, es, en]
      omega
theorem g11_slowL {l1 : Int32} (hc : (J 81 3).toInt.toNat = c) (hc5 : c ≤ 5) (hst : zst' c st) : ∀ (d q : Nat) (l2 l3 : Int32) (I : zMI), zQ n kd R L s t A I J → zgv c st (I 63) → l3.toInt + d = (c : Int) → 0 ≤ l3.toInt → l2.toInt = (st l3.toInt.toNat : Nat) → d < q →
    ∃ v I', f11_slowest_L27 n kd q l1 l2 l3 I R = some (v, I', R) ∧ v.toInt = zsl (zct J) st l1.toInt d l3.toInt.toNat ∧ ∀ b, b ≠ s → b ≠ s + 1 → I' b = I b := by
  intro d
  induction d with
  | zero =>
    intro q l2 l3 I hQ hg e h0 e2 hq
    obtain ⟨q, rfl⟩ : ∃ p, q = p + 1 := ⟨q - 1, by omega⟩
    have a1 := hQ.2.1.1
    refine ⟨-1, I, ?_, rfl, fun _ _ _ => rfl⟩
    unfold f11_slowest_L27
    rw [if_pos (by rw [zle_iff, a1]; omega)]
  | succ d ih =>
    intro q l2 l3 I hQ hg e h0 e2 hq
    obtain ⟨q, rfl⟩ : ∃ p, q = p + 1 := ⟨q - 1, by omega⟩
    have a1 := hQ.2.1.1
    have hb := zLo_big hQ.2.2.1.2.1.1
    have es : (l3 + 1).toInt = l3.toInt + 1 := by rw [zadd (by rw [z1]; omega) (by rw [z1]; omega), z1]
    have en : (l3.toInt + 1).toNat = l3.toInt.toNat + 1 := by omega
    have nl : l3.toNatClampNeg = l3.toInt.toNat := zcl_iff l3
    obtain ⟨v1, I1, p1, p2, p3⟩ := g11_ownS hQ hc hst hg ⟨h0, by omega⟩ e2
    have I63 : I1 63 = I 63 := p3 63 (by omega) (by omega)
    obtain ⟨g1, g2⟩ := hst l3.toInt.toNat (by omega)
    have g3 := hg l3.toInt.toNat (by omega)
    have sm : (l2 + I1 63 l3.toInt.toNat).toInt = l2.toInt + (I 63 l3.toInt.toNat).toInt := by rw [I63]; exact zadd (by omega) (by omega)
    have F : f11_slowest_L27 n kd (q + 1) l1 l2 l3 I R = if v1 = l1 then some (l3, I1, R) else f11_slowest_L27 n kd q l1 (l2 + I1 63 l3.toInt.toNat) (l3 + 1) I1 R := by
      rw [f11_slowest_L27]
      rw [if_neg (by rw [zle_iff, a1]; omega), if_neg (by rw [zle_iff, zn5i]; omega), if_pos (zib_ok h0 (by omega)), nl, p1, zb_some, zl_eq]
    rw [F, zsl, ← p2]
    by_cases k : v1 = l1
    · rw [if_pos k, if_pos (by rw [k])]
      exact ⟨l3, I1, rfl, by omega, p3⟩
    · rw [if_neg k, if_neg (fun x => k (by rw [zeq_iff]; exact x))]
      obtain ⟨v, I', u1, u2, u3⟩ := ih q (l2 + I1 63 l3.toInt.toNat) (l3 + 1) I1 (zQ_keep hQ (fun b _ y z => p3 b y z) zQJ_rfl) (by rw [I63]; exact hg) (by omega) (by omega) (by rw [sm, es, en]; omega) (by omega)
      exact ⟨v, I', u1, by rw [u2, es, en], fun b y z => by rw [u3 b y z, p3 b y z]⟩
theorem g11_digL (hst : zst' c st) (hc5 : c ≤ 5) (e4 : (I 32 4).toInt = (c : Int)) (hg : zgv c st (I 63)) : ∀ (d q : Nat) (l1 l2 : Int32), l2.toInt + d = (c : Int) → 0 ≤ l2.toInt → (0 ≤ l1.toInt ∧ l1.toInt < 10 ^ l2.toInt.toNat) → d < q →
    ∃ v, f11_sharesAsDigits_L4 I q l1 l2 = some v ∧ v.toInt = zdg st d l2.toInt.toNat l1.toInt := by
  intro d
  induction d with
  | zero =>
    intro q l1 l2 e h0 h1 hq
    obtain ⟨q, rfl⟩ : ∃ p, q = p + 1 := ⟨q - 1, by omega⟩
    refine ⟨l1, ?_, rfl⟩
    unfold f11_sharesAsDigits_L4
    rw [if_pos (by rw [zle_iff]; omega)]
  | succ d ih =>
    intro q l1 l2 e h0 h1 hq
    obtain ⟨q, rfl⟩ : ∃ p, q = p + 1 := ⟨q - 1, by omega⟩
    have es : (l2 + 1).toInt = l2.toInt + 1 := by rw [zadd (by rw [z1]; omega) (by rw [z1]; omega), z1]
    have en : (l2.toInt + 1).toNat = l2.toInt.toNat + 1 := by omega
    have nl : l2.toNatClampNeg = l2.toInt.toNat := zcl_iff l2
    have z10 : (10 : Int32).toInt = 10 := rfl
    obtain ⟨g1, g2⟩ := hst l2.toInt.toNat (by omega)
    have g3 := hg l2.toInt.toNat (by omega)
    have p4 : (10 : Int) ^ l2.toInt.toNat ≤ 10000 := by
      rcases (show l2.toInt.toNat = 0 ∨ l2.toInt.toNat = 1 ∨ l2.toInt.toNat = 2 ∨ l2.toInt.toNat = 3 ∨ l2.toInt.toNat = 4 by omega) with q | q | q | q | q <;> rw [q] <;> decide
    have pe : (10 : Int) ^ (l2.toInt.toNat + 1) = 10 ^ l2.toInt.toNat * 10 := Int.pow_succ _ _
    have m1 : (l1 * 10).toInt = l1.toInt * 10 := by rw [zmul (by rw [z10]; omega) (by rw [z10]; omega), z10]
    have m2 : (l1 * 10 + I 63 l2.toInt.toNat).toInt = l1.toInt * 10 + (st (l2.toInt.toNat + 1) - st l2.toInt.toNat : Nat) := by rw [zadd (by omega) (by omega), m1, g3]
    obtain ⟨v, u1, u2⟩ := ih q (l1 * 10 + I 63 l2.toInt.toNat) (l2 + 1) (by omega) (by omega) (by rw [m2, es, en, pe]; omega) (by omega)
    refine ⟨v, ?_, ?_⟩
    · unfold f11_sharesAsDigits_L4
      rw [if_neg (by rw [zle_iff]; omega), if_neg (by rw [zle_iff, zn5i]; omega), if_pos (zib_ok h0 (by omega)), nl, zl_eq]
      exact u1
    · rw [u2, m2, es, en, zdg]
end
