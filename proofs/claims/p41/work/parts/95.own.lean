/-! pure part: the seconds of one stretch -/
theorem zsm_eq {f g : Nat → Int} {a : Nat} : ∀ k, (∀ i, i < k → f (a + i) = g (a + i)) → zsm f a k = zsm g a k := by
  intro k
  induction k with
  | zero => intro _; rfl
  | succ k ih =>
    intro h
    rw [zsm, zsm, ih (fun i hi => h i (by omega)), h k (by omega)]
section
variable {n : Nat} {kd : zMK} {R : zMR} {L s t w : Nat} {A : Nat → Nat} {I J : zMI}
theorem g11_ownL {l2 l3 : Int32} {E : Nat} (hw : w < (J 81 3).toInt.toNat) (hE : E ≤ 9 ∧ ((l2 + l3).toInt = (E : Int) ∨ (E = 9 ∧ 9 ≤ (l2 + l3).toInt))) : ∀ (d q : Nat) (acc i : Int32) (I : zMI), zQ n kd R L s t A I J → i.toInt + d = (E : Int) → 0 ≤ i.toInt → d < q → 0 ≤ acc.toInt → acc.toInt + 80 * d ≤ 100000 →
    ∃ v I', f11_ownSeconds_L13 n kd R q l2 l3 (some (A w)) acc i I = some (v, I') ∧ v.toInt = acc.toInt + zsm (zct J w) i.toInt.toNat d ∧ ∀ b, b ≠ s → b ≠ s + 1 → I' b = I b := by
  intro d
  induction d with
  | zero =>
    intro q acc i I hQ e h0 hq ha hb
    obtain ⟨q, rfl⟩ : ∃ p, q = p + 1 := ⟨q - 1, by omega⟩
    refine ⟨acc, I, ?_, by simp [zsm], fun _ _ _ => rfl⟩
    unfold f11_ownSeconds_L13
    by_cases c : (l2 + l3) ≤ i
    · rw [if_pos c]
    · rw [zle_iff] at c
      rw [if_neg (by rw [zle_iff]; omega), if_pos (by rw [zle_iff, z9]; omega)]
  | succ d ih =>
    intro q acc i I hQ e h0 hq ha hb
    obtain ⟨q, rfl⟩ : ∃ p, q = p + 1 := ⟨q - 1, by omega⟩
    have e1 : (i + 1).toInt = i.toInt + 1 := by rw [zadd (by rw [z1]; omega) (by rw [z1]; omega), z1]
    have hlt : i.toInt < 9 := by omega
    obtain ⟨v1, v2, I1, I2, J1, J2, p1, p2, -, -, p5, -, -, p8, p9, p10⟩ := zcost1 hQ hw (h := i) h0 hlt
    have hc : zct J w i.toInt.toNat = (v1 + v2).toInt := by
      unfold zct
      rw [zofn h0, p9]
      rfl
    have sm : (acc + (v1 + v2)).toInt = acc.toInt + (v1 + v2).toInt := zadd (by omega) (by omega)
    obtain ⟨v, I', u1, u2, u3⟩ := ih q (acc + (v1 + v2)) (i + 1) I2 (zQ_keep hQ p5 zQJ_rfl) (by omega) (by omega) (by omega) (by omega) (by omega)
    refine ⟨v, I', ?_, ?_, fun b x y => by rw [u3 b x y, p8 b x y]⟩
    · unfold f11_ownSeconds_L13
      rw [if_neg (by rw [zle_iff]; omega), if_neg (by rw [zle_iff, z9]; omega), zm_some, zhpAt (h := i.toInt.toNat) (by omega) (by omega), zb_some, p1, zb_some]
      dsimp only
      rw [p2, zb_some]
      exact u1
    · rw [u2, sm, zsm_tail, hc, e1, show (i.toInt + 1).toNat = i.toInt.toNat + 1 by omega]
      omega
theorem g11_own {l1 l2 l3 : Int32} {E : Nat} (hQ : zQ n kd R L s t A I J) (h1 : 0 ≤ l1.toInt) (hw : l1.toInt.toNat < (J 81 3).toInt.toNat) (hE : E ≤ 9 ∧ ((l2 + l3).toInt = (E : Int) ∨ (E = 9 ∧ 9 ≤ (l2 + l3).toInt))) (h2 : 0 ≤ l2.toInt ∧ l2.toInt ≤ (E : Int)) :
    ∃ v I', f11_ownSeconds n kd R l1 l2 l3 I = some (v, I') ∧ v.toInt = zsm (zct J l1.toInt.toNat) l2.toInt.toNat (E - l2.toInt.toNat) ∧ ∀ b, b ≠ s → b ≠ s + 1 → I' b = I b := by
  obtain ⟨v, I', u1, u2, u3⟩ := g11_ownL hw hE (E - l2.toInt.toNat) zF 0 l2 I hQ (by omega) h2.1 (by unfold zF; omega) (by rw [z0]; omega) (by rw [z0]; omega)
  rw [z0, Int.zero_add] at u2
  refine ⟨v, I', ?_, u2, u3⟩
  obtain ⟨-, ⟨a1, a2, a3⟩, -, hw', -⟩ := hQ
  unfold f11_ownSeconds
  rw [g11_walkerOf2 h1 (by rw [a1]; omega) (by rw [a1]; exact a2.2), zb_some, (hw' _ hw).1]
  exact u1
theorem g12_ownL {l2 l3 : Int32} {E : Nat} {wi : Int32} (ew : wi.toInt = (w : Int)) (hE : E ≤ 9 ∧ (l2 + l3).toInt = (E : Int)) : ∀ (d q : Nat) (acc i : Int32) (J : zMI), w < (J 81 3).toInt.toNat → zQ n kd R L s t A I J → i.toInt + d = (E : Int) → 0 ≤ i.toInt → d < q → 0 ≤ acc.toInt → acc.toInt + 80 * d ≤ 100000 →
    ∃ v J', f12_secondsOf_L6 q wi l2 l3 acc i J = some (v, J') ∧ v.toInt = acc.toInt + zsm (zct J w) i.toInt.toNat d ∧ ∀ b, b ≠ 97 → b ≠ 98 → J' b = J b := by
  intro d
  induction d with
  | zero =>
    intro q acc i J hw hQ e h0 hq ha hb
    obtain ⟨q, rfl⟩ : ∃ p, q = p + 1 := ⟨q - 1, by omega⟩
    refine ⟨acc, J, ?_, by simp [zsm], fun _ _ _ => rfl⟩
    unfold f12_secondsOf_L6
    rw [if_pos (by rw [zle_iff]; omega)]
  | succ d ih =>
    intro q acc i J hw hQ e h0 hq ha hb
    obtain ⟨q, rfl⟩ : ∃ p, q = p + 1 := ⟨q - 1, by omega⟩
    have e1 : (i + 1).toInt = i.toInt + 1 := by rw [zadd (by rw [z1]; omega) (by rw [z1]; omega), z1]
    have hlt : i.toInt < 9 := by omega
    have ewi : Int32.ofNat w = wi := by rw [← zofn (x := wi) (by omega), show wi.toInt.toNat = w by omega]
    obtain ⟨v1, v2, I1, I2, J1, J2, -, -, p3, p4, -, p6, p7, -, p9, p10⟩ := zcost1 hQ hw (h := i) h0 hlt
    rw [ewi] at p3 p4
    have hc : zct J w i.toInt.toNat = (v1 + v2).toInt := by
      unfold zct
      rw [zofn h0, p9]
      rfl
    have sm : (acc + (v1 + v2)).toInt = acc.toInt + (v1 + v2).toInt := zadd (by omega) (by omega)
    have e3 : J2 81 3 = J 81 3 := p6.2 3 (by decide)
    obtain ⟨v, J', u1, u2, u3⟩ := ih q (acc + (v1 + v2)) (i + 1) J2 (by rw [e3]; exact hw) (zQ_keep hQ zQI_rfl p6) (by omega) (by omega) (by omega) (by omega) (by omega)
    refine ⟨v, J', ?_, ?_, fun b x y => by rw [u3 b x y, p7 b x y]⟩
    · unfold f12_secondsOf_L6
      rw [if_neg (by rw [zle_iff]; omega), if_pos (zib_ok h0 (by omega)), p3, zb_some]
      dsimp only
      rw [p4, zb_some]
      exact u1
    · have en : (i + 1).toInt.toNat = i.toInt.toNat + 1 := by omega
      rw [u2, sm, zsm_tail, hc, en, zsm_eq (f := zct J2 w) (g := zct J w) d (fun k hk => zct_keep hQ p6 hw (by omega))]
      omega
theorem g12_own {l2 l3 : Int32} {E : Nat} {wi : Int32} (hQ : zQ n kd R L s t A I J) (h1 : 0 ≤ wi.toInt) (hw : wi.toInt.toNat < (J 81 3).toInt.toNat) (hE : E ≤ 9 ∧ (l2 + l3).toInt = (E : Int)) (h2 : 0 ≤ l2.toInt ∧ l2.toInt ≤ (E : Int)) :
    ∃ v J', f12_secondsOf wi l2 l3 J = some (v, J') ∧ v.toInt = zsm (zct J wi.toInt.toNat) l2.toInt.toNat (E - l2.toInt.toNat) ∧ ∀ b, b ≠ 97 → b ≠ 98 → J' b = J b := by
  obtain ⟨v, J', u1, u2, u3⟩ := g12_ownL (w := wi.toInt.toNat) (wi := wi) (by omega) hE (E - l2.toInt.toNat) zF 0 l2 J hw hQ (by omega) h2.1 (by unfold zF; omega) (by rw [z0]; omega) (by rw [z0]; omega)
  rw [z0, Int.zero_add] at u2
  exact ⟨v, J', u1, u2, u3⟩
end
