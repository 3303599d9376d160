/-! pure part: what a sharing comes to, the reference -/
section
variable {n : Nat} {kd : zMK} {R : zMR} {L s t w c : Nat} {A : Nat → Nat} {I J0 : zMI} {st : Nat → Nat}
theorem zsg_keep {J : zMI} (hQ : zQ n kd R L s t A I J0) (hJ : zQJ J0 J) (hc : (J0 81 3).toInt.toNat = c) (hst : zst' c st) (hw : w < c) : zsg (zct J) st w = zsg (zct J0) st w := by
  obtain ⟨h1, h2⟩ := hst w hw
  unfold zsg
  exact zsm_eq _ (fun i hi => zct_keep hQ hJ (by omega) (by omega))
theorem g12_ownS {J : zMI} {l2 l3 : Int32} (hQ : zQ n kd R L s t A I J0) (hJ : zQJ J0 J) (hc : (J0 81 3).toInt.toNat = c) (hst : zst' c st) (hg : zgv c st (J 111)) (h3 : 0 ≤ l3.toInt ∧ l3.toInt < (c : Int)) (h2 : l2.toInt = (st l3.toInt.toNat : Nat)) :
    ∃ v J', f12_secondsOf l3 l2 (J 111 l3.toInt.toNat) J = some (v, J') ∧ v.toInt = zsg (zct J0) st l3.toInt.toNat ∧ ∀ b, b ≠ 97 → b ≠ 98 → J' b = J b := by
  obtain ⟨g1, g2⟩ := hst l3.toInt.toNat (by omega)
  have g3 := hg l3.toInt.toNat (by omega)
  have e3 : J 81 3 = J0 81 3 := hJ.2 3 (by decide)
  have sm : (l2 + J 111 l3.toInt.toNat).toInt = l2.toInt + (J 111 l3.toInt.toNat).toInt := zadd (by omega) (by omega)
  obtain ⟨v, J', u1, u2, u3⟩ := g12_own (wi := l3) (l2 := l2) (l3 := J 111 l3.toInt.toNat) (E := st (l3.toInt.toNat + 1)) (zQ_keep hQ zQI_rfl hJ) h3.1 (by rw [e3]; omega) ⟨g2, by omega⟩ (by omega)
  refine ⟨v, J', u1, ?_, u3⟩
  rw [u2, ← zsg_keep hQ hJ hc hst (by omega), show l2.toInt.toNat = st l3.toInt.toNat by omega]
  rfl
theorem zQJ_97 {J J' : zMI} (h : ∀ b, b ≠ 97 → b ≠ 98 → J' b = J b) : zQJ J J' := ⟨fun b _ y z _ _ => h b y z, fun j _ => by rw [h 81 (by decide) (by decide)]⟩
theorem g12_mostL (hQ : zQ n kd R L s t A I J0) (hc : (J0 81 3).toInt.toNat = c) (hc5 : c ≤ 5) (hst : zst' c st) : ∀ (d q : Nat) (l1 l2 l3 : Int32) (J : zMI), zQJ J0 J → zgv c st (J 111) → l3.toInt + d = (c : Int) → 0 ≤ l3.toInt → l1.toInt = (st l3.toInt.toNat : Nat) → (0 ≤ (J 81 51).toInt ∧ (J 81 51).toInt ≤ 1000 * l3.toInt) → d < q →
    ∃ v J', f12_mostSeconds_L11 q l1 l2 l3 J = some (v, J') ∧ v.toInt = zmo (zct J0) st d l3.toInt.toNat l2.toInt ∧ (J' 81 51).toInt = (J 81 51).toInt + ztt (zct J0) st d l3.toInt.toNat ∧ (∀ b, b ≠ 81 → b ≠ 97 → b ≠ 98 → J' b = J b) ∧ ∀ j, j ≠ 51 → J' 81 j = J 81 j := by
  have a2 := hQ.2.1.2.1
  intro d
  induction d with
  | zero =>
    intro q l1 l2 l3 J hJ hg e h0 e2 ha hq
    obtain ⟨q, rfl⟩ : ∃ p, q = p + 1 := ⟨q - 1, by omega⟩
    have e3 : J 81 3 = J0 81 3 := hJ.2 3 (by decide)
    refine ⟨l2, J, ?_, rfl, by simp [ztt], fun _ _ _ _ => rfl, fun _ _ => rfl⟩
    unfold f12_mostSeconds_L11
    rw [if_pos (by rw [zle_iff, e3]; omega)]
  | succ d ih =>
    intro q l1 l2 l3 J hJ hg e h0 e2 ha hq
    obtain ⟨q, rfl⟩ : ∃ p, q = p + 1 := ⟨q - 1, by omega⟩
    have e3 : J 81 3 = J0 81 3 := hJ.2 3 (by decide)
    have es : (l3 + 1).toInt = l3.toInt + 1 := by rw [zadd (by rw [z1]; omega) (by rw [z1]; omega), z1]
    have en : (l3.toInt + 1).toNat = l3.toInt.toNat + 1 := by omega
    have nl : l3.toNatClampNeg = l3.toInt.toNat := zcl_iff l3
    obtain ⟨v1, J1, p1, p2, p3⟩ := g12_ownS hQ hJ hc hst hg ⟨h0, by omega⟩ e2
    have r := zsg_r hQ hc hst (w := l3.toInt.toNat) (by omega)
    have J111 : J1 111 = J 111 := p3 111 (by decide) (by decide)
    have J81 : J1 81 = J 81 := p3 81 (by decide) (by decide)
    obtain ⟨g1, g2⟩ := hst l3.toInt.toNat (by omega)
    have g3 := hg l3.toInt.toNat (by omega)
    have sm : (l1 + J1 111 l3.toInt.toNat).toInt = l1.toInt + (J 111 l3.toInt.toNat).toInt := by rw [J111]; exact zadd (by omega) (by omega)
    have sa : (J1 81 51 + v1).toInt = (J 81 51).toInt + v1.toInt := by rw [J81]; exact zadd (by omega) (by omega)
    have q1 : zQJ J (uI J1 81 51 (J1 81 51 + v1)) := ⟨fun b y0 y1 y2 _ _ => by rw [uI_ne y0, p3 b y1 y2], fun j hj => by rw [uI_off (by omega), J81]⟩
    obtain ⟨v, J', u1, u2, u3, u4, u5⟩ := ih q (l1 + J1 111 l3.toInt.toNat) (if v1 ≤ l2 then l2 else v1) (l3 + 1) (uI J1 81 51 (J1 81 51 + v1)) (zQJ_tr hJ q1) (by rw [uI_ne (by decide), J111]; exact hg) (by omega) (by omega) (by rw [sm, es, en]; omega) (by rw [uI_at]; omega) (by omega)
    refine ⟨v, J', ?_, ?_, ?_, fun b y z x => by rw [u4 b y z x, uI_ne y, p3 b z x], fun j hj => by rw [u5 j hj, uI_off hj, J81]⟩
    · unfold f12_mostSeconds_L11
      rw [if_neg (by rw [zle_iff, e3]; omega), if_pos (zib_ok h0 (by omega)), nl, p1, zb_some, zl_eq, zl_eq, zl_eq]
      exact u1
    · rw [u2, zmo, es, en, zite_toInt]
      simp only [zle_iff, p2]
    · rw [u3, uI_at, sa, p2, ztt, es, en]
      omega
theorem g12_most {J : zMI} (hQ : zQ n kd R L s t A I J0) (hc : (J0 81 3).toInt.toNat = c) (hst : zst' c st) (hs0 : st 0 = 0) (hJ : zQJ J0 J) (hg : zgv c st (J 111)) :
    ∃ v J', f12_mostSeconds J = some (v, J') ∧ v.toInt = zmo (zct J0) st c 0 0 ∧ (J' 81 51).toInt = ztt (zct J0) st c 0 ∧ zQJ J J' ∧ J' 111 = J 111 ∧ J' 112 = J 112 ∧ (∀ b, b ≠ 81 → b ≠ 97 → b ≠ 98 → J' b = J b) ∧ ∀ j, j ≠ 51 → J' 81 j = J 81 j := by
  have a2 := hQ.2.1.2.1
  have q1 : zQJ J (uI J 81 51 0) := ⟨fun b y0 _ _ _ _ => by rw [uI_ne y0], fun j hj => by rw [uI_off (by omega)]⟩
  obtain ⟨v, J', u1, u2, u3, u4, u5⟩ := g12_mostL hQ hc (by omega) hst c zF 0 0 0 (uI J 81 51 0) (zQJ_tr hJ q1) (by rw [uI_ne (by decide)]; exact hg) (by rw [z0]; omega) (by rw [z0]; omega) (by rw [z0]; show (0 : Int) = (st 0 : Nat); rw [hs0]; rfl) (by rw [uI_at, z0]; omega) (by unfold zF; omega)
  refine ⟨v, J', ?_, u2, ?_, ⟨fun b y0 y1 y2 _ _ => by rw [u4 b y0 y1 y2, uI_ne y0], fun j hj => by rw [u5 j (by omega), uI_off (by omega)]⟩, by rw [u4 111 (by decide) (by decide) (by decide), uI_ne (by decide)], by rw [u4 112 (by decide) (by decide) (by decide), uI_ne (by decide)], fun b y z x => by rw [u4 b y z x, uI_ne y], fun j hj => by rw [u5 j hj, uI_off hj]⟩
  · unfold f12_mostSeconds
    rw [zl_eq]
    exact u1
  · rw [u3, uI_at, z0]
    show 0 + ztt (zct J0) st c 0 = _
    omega
theorem g12_slowL {l1 : Int32} (hQ : zQ n kd R L s t A I J0) (hc : (J0 81 3).toInt.toNat = c) (hc5 : c ≤ 5) (hst : zst' c st) : ∀ (d q : Nat) (l2 l3 : Int32) (J : zMI), zQJ J0 J → zgv c st (J 111) → l3.toInt + d = (c : Int) → 0 ≤ l3.toInt → l2.toInt = (st l3.toInt.toNat : Nat) → d < q →
    ∃ v J', f12_slowest_L9 q l1 l2 l3 J = some (v, J') ∧ v.toInt = zsl (zct J0) st l1.toInt d l3.toInt.toNat ∧ ∀ b, b ≠ 97 → b ≠ 98 → J' b = J b := by
  have a2 := hQ.2.1.2.1
  intro d
  induction d with
  | zero =>
    intro q l2 l3 J hJ hg e h0 e2 hq
    obtain ⟨q, rfl⟩ : ∃ p, q = p + 1 := ⟨q - 1, by omega⟩
    have e3 : J 81 3 = J0 81 3 := hJ.2 3 (by decide)
    refine ⟨-1, J, ?_, rfl, fun _ _ _ => rfl⟩
    unfold f12_slowest_L9
    rw [if_pos (by rw [zle_iff, e3]; omega)]
  | succ d ih =>
    intro q l2 l3 J hJ hg e h0 e2 hq
    obtain ⟨q, rfl⟩ : ∃ p, q = p + 1 := ⟨q - 1, by omega⟩
    have e3 : J 81 3 = J0 81 3 := hJ.2 3 (by decide)
    have es : (l3 + 1).toInt = l3.toInt + 1 := by rw [zadd (by rw [z1]; omega) (by rw [z1]; omega), z1]
    have en : (l3.toInt + 1).toNat = l3.toInt.toNat + 1 := by omega
    have nl : l3.toNatClampNeg = l3.toInt.toNat := zcl_iff l3
    obtain ⟨v1, J1, p1, p2, p3⟩ := g12_ownS hQ hJ hc hst hg ⟨h0, by omega⟩ e2
    have J111 : J1 111 = J 111 := p3 111 (by decide) (by decide)
    obtain ⟨g1, g2⟩ := hst l3.toInt.toNat (by omega)
    have g3 := hg l3.toInt.toNat (by omega)
    have sm : (l2 + J1 111 l3.toInt.toNat).toInt = l2.toInt + (J 111 l3.toInt.toNat).toInt := by rw [J111]; exact zadd (by omega) (by omega)
    have F : f12_slowest_L9 (q + 1) l1 l2 l3 J = if v1 = l1 then some (l3, J1) else f12_slowest_L9 q l1 (l2 + J1 111 l3.toInt.toNat) (l3 + 1) J1 := by
      rw [f12_slowest_L9]
      rw [if_neg (by rw [zle_iff, e3]; omega), if_pos (zib_ok h0 (by omega)), nl, p1, zb_some, zl_eq]
    rw [F, zsl, ← p2]
    by_cases k : v1 = l1
    · rw [if_pos k, if_pos (by rw [k])]
      exact ⟨l3, J1, rfl, by omega, p3⟩
    · rw [if_neg k, if_neg (fun x => k (by rw [zeq_iff]; exact x))]
      obtain ⟨v, J', u1, u2, u3⟩ := ih q (l2 + J1 111 l3.toInt.toNat) (l3 + 1) J1 (zQJ_tr hJ (zQJ_97 p3)) (by rw [J111]; exact hg) (by omega) (by omega) (by rw [sm, es, en]; omega) (by omega)
      exact ⟨v, J', u1, by rw [u2, es, en], fun b y z => by rw [u3 b y z, p3 b y z]⟩
end
