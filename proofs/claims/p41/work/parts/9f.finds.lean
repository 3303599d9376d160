/-! pure part: the reference's search, run -/
section
variable {n : Nat} {kd : zMK} {R : zMR} {L s t c : Nat} {A : Nat → Nat} {I J0 : zMI}
theorem zP10 (c1 : 1 ≤ c) (c5 : c ≤ 5) : (Int32.ofNat (10 ^ (c - 1))).toInt = (10 : Int) ^ (c - 1) ∧ (10 : Int) ^ (c - 1) ≤ 10000 := by
  rcases (show c = 1 ∨ c = 2 ∨ c = 3 ∨ c = 4 ∨ c = 5 by omega) with q | q | q | q | q <;> subst q <;> exact (by decide)
theorem g12_findL {k85 : Int32 → zMI → Option (Int32 × zMI)} (hQ : zQ n kd R L s t A I J0) (hc : (J0 81 3).toInt.toNat = c) (c1 : 1 ≤ c) : ∀ (d q : Nat) (l1 l2 : Int32) (J : zMI), zQJ J0 J → l2.toInt + d = (10 : Int) ^ (c - 1) → 0 ≤ l2.toInt → d < q → zfnd (zct J0) c l2.toInt l1.toInt (J 112) →
    ∃ v J', f12_findsStretches_L4 k85 q l1 l2 J = k85 v J' ∧ zfnd (zct J0) c ((10 : Int) ^ (c - 1)) v.toInt (J' 112) ∧ zQJ J0 J' := by
  have a2 := hQ.2.1.2.1
  have c5 : c ≤ 5 := by omega
  obtain ⟨hp, hp4⟩ := zP10 c1 c5
  obtain ⟨P, eP⟩ : ∃ P : Int, (10 : Int) ^ (c - 1) = P := ⟨_, rfl⟩
  have tens : ∀ J, zQJ J0 J → f12_tens (J 81 3 - 1) = some (Int32.ofNat (10 ^ (c - 1))) := fun J hJ => by
    have e3 : J 81 3 = J0 81 3 := hJ.2 3 (by decide)
    exact g12_tens (by rw [e3, zsub (by rw [z1]; omega) (by rw [z1]; omega), z1]; omega) (by omega)
  intro d
  induction d with
  | zero =>
    intro q l1 l2 J hJ e h0 hq hf
    obtain ⟨q, rfl⟩ : ∃ p, q = p + 1 := ⟨q - 1, by omega⟩
    refine ⟨l1, J, ?_, ?_, hJ⟩
    · unfold f12_findsStretches_L4
      rw [tens J hJ, zb_some, if_pos (by rw [zle_iff, hp]; omega)]
    · rw [show (10 : Int) ^ (c - 1) = l2.toInt by omega]
      exact hf
  | succ d ih =>
    intro q l1 l2 J hJ e h0 hq hf
    obtain ⟨q, rfl⟩ : ∃ p, q = p + 1 := ⟨q - 1, by omega⟩
    have e3 : J 81 3 = J0 81 3 := hJ.2 3 (by decide)
    have lt : l2.toInt < (10 : Int) ^ (c - 1) := by omega
    have es : (l2 + 1).toInt = l2.toInt + 1 := by
      rw [eP] at lt hp4
      rw [zadd (by rw [z1]; omega) (by rw [z1]; omega), z1]
    obtain ⟨x, J1, u1, u2, u3, u4, u5, u6⟩ := g12_tell (J := J) (c := c) (N := l2) (by rw [e3]; omega) c1 c5 h0 lt
    have q1 : zQJ J J1 := ⟨fun b _ _ _ y _ => u6 b y, fun j _ => by rw [u6 81 (by decide)]⟩
    have J112 : J1 112 = J 112 := u6 112 (by decide)
    have F0 : f12_findsStretches_L4 k85 (q + 1) l1 l2 J = if x = 0 then f12_findsStretches_B79 (f12_findsStretches_L4 k85 q) l1 l2 J1 else zb (f12_mostSeconds J1) fun p12 => if l1 = (-1 : Int32) then f12_findsStretches_B48 (f12_findsStretches_L4 k85 q) l2 p12.1 p12.2 else if l1 ≤ p12.1 then f12_findsStretches_B79 (f12_findsStretches_L4 k85 q) l1 l2 p12.2 else f12_findsStretches_B48 (f12_findsStretches_L4 k85 q) l2 p12.1 p12.2 := by
      rw [f12_findsStretches_L4]
      rw [tens J hJ, zb_some, if_neg (by rw [zle_iff, hp]; omega), if_neg (by rw [zle_iff, e3, z0]; omega), u1, zb_some]
    rw [F0]
    by_cases k : 9 < zsI (J1 111) (c - 1)
    · rw [if_pos k] at u5
      rw [if_pos u5]
      unfold f12_findsStretches_B79
      exact ih q l1 (l2 + 1) J1 (zQJ_tr hJ q1) (by omega) (by omega) (by omega) (by
        rw [es, J112]
        refine zfnd_skip hf (fun st hv eN => ?_)
        have := (zfI_dig (row := J1 111) hv.1 (c - 1) (by omega) u2 (by rw [u3, eN])).2
        have s9 : st (c - 1) ≤ 9 := by
          by_cases y : c = 1
          · rw [y, hv.2.1]; omega
          · have := (hv.1 (c - 2) (by omega)).2
            rw [show c - 2 + 1 = c - 1 by omega] at this
            exact this
        omega)
    · rw [if_neg k] at u5
      rw [if_neg (by rw [u5]; decide)]
      obtain ⟨s1, w1, w2, w3, w4, w5⟩ := zsh_of (row := J1 111) c1 u2 (by omega) u4
      have hv1 : zV c s1 := ⟨w1, w2, w3⟩
      have eN : zNn s1 (c - 1) = l2.toInt := by rw [w5, u3]
      obtain ⟨v1, J2, m1, m2, m3, m4, m5, m6, -⟩ := g12_most hQ hc w1 w2 (zQJ_tr hJ q1) w4
      have hJ2 := zQJ_tr (zQJ_tr hJ q1) m4
      rw [m1, zb_some]
      dsimp only
      have z0' : 0 ≤ zmo (zct J0) s1 c 0 0 := ((zmo_le (F := zct J0) (st := s1) (m := zmo (zct J0) s1 c 0 0) c 0 0).mp (Int.le_refl _)).1
      have better : (l1.toInt = -1 ∨ zmo (zct J0) s1 c 0 0 < l1.toInt) → ∃ v J', f12_findsStretches_B48 (f12_findsStretches_L4 k85 q) l2 v1 J2 = k85 v J' ∧ zfnd (zct J0) c ((10 : Int) ^ (c - 1)) v.toInt (J' 112) ∧ zQJ J0 J' := fun hb => by
        obtain ⟨J3, y1, y2, y3, y4⟩ := g12_keepL (k79 := f12_findsStretches_B79 (f12_findsStretches_L4 k85 q)) (l1 := v1) (l2 := l2) 5 zF 0 J2 (by rw [z0]; rfl) (by rw [z0]; omega) (by unfold zF; omega)
        unfold f12_findsStretches_B48
        rw [y1]
        unfold f12_findsStretches_B79
        refine ih q v1 (l2 + 1) J3 (zQJ_tr hJ2 ⟨fun b _ _ _ _ y => y4 b y, fun j _ => by rw [y4 81 (by decide)]⟩) (by omega) (by omega) (by omega) ?_
        rw [es, m2]
        refine zfnd_better c1 hf hv1 eN hb (fun w hw => ?_) z0'
        rw [y2 w (by rw [z0]; omega) (by omega), m5]
        exact w4 w hw
      by_cases k1 : l1 = -1
      · rw [if_pos k1]
        exact better (Or.inl (by rw [k1]; exact znm1))
      · rw [if_neg k1]
        have k1' : l1.toInt ≠ -1 := fun y => k1 (by rw [zeq_iff, y, znm1])
        by_cases k2 : l1 ≤ v1
        · rw [if_pos k2]
          rw [zle_iff, m2] at k2
          unfold f12_findsStretches_B79
          refine ih q l1 (l2 + 1) J2 hJ2 (by omega) (by omega) (by omega) ?_
          rw [es, m6, J112]
          exact zfnd_worse c1 hf hv1 eN k1' k2
        · rw [if_neg k2]
          rw [zle_iff, m2] at k2
          exact better (Or.inr (by omega))
end
