/-! pure part: the class's reading against the reference's -/
abbrev zKE := f12_eRead_L14 f12_eRead_B159
def zuS (r : Int32) (s : zSt) : zSt := zunq r s.1 s.2.1 s.2.2
/-- the reference, from where an operand is wanted at p to where none is at p' -/
def zRU (T : Nat → Int32) (z t : Nat) (o : Int32) (E : List Int32 → Prop) (mn : Int32 → Int32 → Prop) (A : List Int32 → List Int32 → Int32 → zSt → Prop) (p : Nat) (W : List Int32) (p' : Nat) (W' : List Int32) : Prop := ∀ (q : Nat) (J : zMI) (S : List Int32) (m : Int32), 200 ≤ q + p → E S → mn m (zKk T z p) → zRS T z t J p (S, o, W.map zw2c) → ∃ q' m' J' s', 200 ≤ q' + p' ∧ zKE q 1 m J = zKE q' 0 m' J' ∧ zRS T z t J' p' s' ∧ zFR t J J' ∧ A S (W'.map zw2c) (zKk T z p') s'
/-- the reference finds a fault at b -/
def zRF (T : Nat → Int32) (z t : Nat) (o : Int32) (E : List Int32 → Prop) (mn : Int32 → Int32 → Prop) (p : Nat) (W : List Int32) (b : Nat) : Prop := ∀ (q : Nat) (J : zMI) (S : List Int32) (m : Int32), 200 ≤ q + p → E S → mn m (zKk T z p) → zRS T z t J p (S, o, W.map zw2c) → ∃ J', zKE q 1 m J = some (0, J') ∧ J' 81 23 = Int32.ofNat b ∧ zFR t J J'
/-- N are good words: d numbers on the stack become d + 1 -/
def zGd (o : Int32) (bnd : Nat) (N : List Int32) : Prop := (∀ d, d ≤ 5 * o.toInt.toNat + bnd → zds N d = some (d + 1)) ∧ ∀ x ∈ N, zwk x
/-- what a part of the class's reading comes to -/
def zSR (T : Nat → Int32) (z t : Nat) (o : Int32) (bnd : Nat) (E : List Int32 → Prop) (mn : Int32 → Int32 → Prop) (A : List Int32 → List Int32 → Int32 → zSt → Prop) (p : Nat) (W : List Int32) (I' : zMI) : Prop := (∃ p' N, zCS T z I' p' (N ++ W) ∧ p + N.length ≤ p' ∧ zGd o bnd N ∧ zRU T z t o E mn A p W p' (N ++ W)) ∨ ∃ b, zVS T z b I' ∧ zRF T z t o E mn p W b
def zSP (T : Nat → Int32) (z t : Nat) (f : zMI → Option zMI) (o : Int32) (bnd : Nat) (E : List Int32 → Prop) (mn : Int32 → Int32 → Prop) (A : List Int32 → List Int32 → Int32 → zSt → Prop) : Prop := ∀ I p W, zCS T z I p W → W.length ≤ p → ∃ I', f I = some I' ∧ zFC I I' ∧ zSR T z t o bnd E mn A p W I'
def zmA (m k : Int32) : Prop := ¬ m = 0 → ¬ k = 9
def zmB (m _ : Int32) : Prop := ¬ m = 0
def zopT (k : Int32) : Option Int32 := if k = 42 then some (-17) else none
def zopS (k : Int32) : Option Int32 := if k = 43 then some (-15) else if k = 45 then some (-16) else none
def zopA (k : Int32) : Option Int32 := if k = 8 then some (-12) else none
def zopO (k : Int32) : Option Int32 := if k = 7 then some (-11) else none
def zXk (k' : Int32) (s' : zSt) : Prop := zopT k' = none ∧ zopS k' = none ∧ (k' = 60 ∨ k' = 61 → ∃ x S o C, zuS 5 s' = (x :: S, o, C) ∧ zrk x = 4)
def zA1 (o : Int32) (S Wc : List Int32) (_ : Int32) (s' : zSt) : Prop := s' = zunq 7 S o Wc
def zA2 (o : Int32) (S Wc : List Int32) (k' : Int32) (s' : zSt) : Prop := zuS 6 s' = (S, o, Wc) ∧ zopT k' = none
def zA3 (o : Int32) (S Wc : List Int32) (k' : Int32) (s' : zSt) : Prop := zuS 5 s' = (S, o, Wc) ∧ zopT k' = none ∧ zopS k' = none
def zA4 (o : Int32) (S Wc : List Int32) (k' : Int32) (s' : zSt) : Prop := zuS 3 s' = zunq 3 S o Wc ∧ zXk k' s'
def zA5 (o : Int32) (S Wc : List Int32) (k' : Int32) (s' : zSt) : Prop := zuS 2 s' = (S, o, Wc) ∧ zXk k' s' ∧ zopA k' = none
def zA6 (o : Int32) (S Wc : List Int32) (k' : Int32) (s' : zSt) : Prop := zuS 1 s' = (S, o, Wc) ∧ (zXk k' s' ∧ zopA k' = none) ∧ zopO k' = none
section
variable {T : Nat → Int32} {z t : Nat} {o : Int32}
theorem zuS_zun {r r' : Int32} (h : r ≤ r') (S : List Int32) (o : Int32) (C : List Int32) : zuS r (zunq r' S o C) = zunq r S o C := zun_zun h S o C
theorem zuS_uS {r r' : Int32} (h : r ≤ r') (s : zSt) : zuS r (zuS r' s) = zuS r s := zun_zun h s.1 s.2.1 s.2.2
/-- a loop of the class's reading -/
theorem zLoopSP {fst : zMI → Option zMI} {g : Nat → Int32 → zMI → Option zMI} {op : Int32 → Option Int32} {bnd : Nat} {r : Int32} {X : Int32 → zSt → Prop} {E' : List Int32 → Prop} {mn : Int32 → Int32 → Prop} {A' : List Int32 → List Int32 → Int32 → zSt → Prop}
    (hb : 5 * o.toInt.toNat + bnd + 1 ≤ 31)
    (hg : ∀ q l2 I, g (q + 1) l2 I = if (160 : Int32) ≤ l2 then some I else match op (I 37 3) with
      | none => some I
      | some w => if I 37 6 = -1 then zb (f7_nextToken I) fun p4 => zb (fst p4) fun p6 => zb (f7_put w p6) fun p8 => g q (l2 + 1) p8 else some I)
    (h : zSP T z t fst o (bnd + 1) E' mn A') (hE : ∀ S, ztp r S → E' S) (hE2 : ∀ S sg, zrk sg = r → E' (sg :: S))
    (hA : ∀ S Wc k' s', E' S → A' S Wc k' s' → zuS r s' = zunq r S o Wc ∧ X k' s')
    (hop : ∀ k w, op k = some w → zwk w ∧ zne w = 2 ∧ zrk (zw2c w) = r ∧ zop (zw2c w) = 0 ∧ ((k = 7 ∧ zw2c w = 11) ∨ (k = 8 ∧ zw2c w = 12) ∨ (k = 43 ∧ zw2c w = 16) ∨ (k = 45 ∧ zw2c w = 17) ∨ (k = 42 ∧ zw2c w = 18)) ∧ ∀ k', mn (if (12 : Int32) < zw2c w then 0 else 1) k') :
    zSP T z t (fun I => zb (fst I) fun p10 => g zF 0 p10) o bnd (ztp r) mn (fun S Wc k' s' => zuS r s' = (S, o, Wc) ∧ X k' s' ∧ op k' = none) := by
  have z160 : (160 : Int32).toInt = 160 := rfl
  have hV : ∀ q l2 I b, zVS T z b I → g (q + 1) l2 I = some I := fun q l2 I b hI => by
    rw [hg]
    by_cases c : (160 : Int32) ≤ l2
    · rw [if_pos c]
    · rw [if_neg c]
      cases op (I 37 3) with
      | none => rfl
      | some w =>
        dsimp only
        rw [if_neg (zVS_n1 hI)]
  intro I0 p W hI0 hW
  have hz0 := hI0.2.2.2.2.2.2.2.2.2
  -- the loop
  have loop : ∀ (n q p1 : Nat) (N1 : List Int32) (l2 : Int32) (I1 : zMI), z - p1 ≤ n → n < q → 0 ≤ l2.toInt → l2.toInt ≤ p1 → zCS T z I1 p1 (N1 ++ W) → p + N1.length ≤ p1 → zGd o bnd N1 → zRU T z t o (ztp r) mn (fun S Wc k' s' => zuS r s' = (S, o, Wc) ∧ X k' s') p W p1 (N1 ++ W) → ∃ I', g q l2 I1 = some I' ∧ zFC I1 I' ∧ zSR T z t o bnd (ztp r) mn (fun S Wc k' s' => zuS r s' = (S, o, Wc) ∧ X k' s' ∧ op k' = none) p W I' := by
    intro n
    induction n with
    | zero =>
      intro q p1 N1 l2 I1 hn hq hl0 hl hI hp hN hR
      obtain ⟨q, rfl⟩ : ∃ x, q = x + 1 := ⟨q - 1, by omega⟩
      have hz := hI.2.2.2.2.2.2.2.2.2
      have k0 : zKk T z p1 = 0 := by
        by_cases k : zKk T z p1 = 0
        · exact k
        · have := zKk_pos (T := T) hz.1 k
          have := zKb_r (T := T) hz.1
          omega
      have on : op 0 = none := by
        cases e : op 0 with
        | none => rfl
        | some w =>
          obtain ⟨-, -, -, -, y, -⟩ := hop 0 w e
          rcases y with ⟨y, -⟩ | ⟨y, -⟩ | ⟨y, -⟩ | ⟨y, -⟩ | ⟨y, -⟩ <;> exact absurd y (by decide)
      refine ⟨I1, ?_, zFC_rfl, Or.inl ⟨p1, N1, hI, hp, hN, fun q J S m h1 h2 h3 h4 => ?_⟩⟩
      · rw [hg, hI.2.2.2.1, k0, on]
        split <;> rfl
      · obtain ⟨q', m', J', s', y1, y2, y3, y4, y5, y6⟩ := hR q J S m h1 h2 h3 h4
        exact ⟨q', m', J', s', y1, y2, y3, y4, y5, y6, by rw [k0]; exact on⟩
    | succ n ih =>
      intro q p1 N1 l2 I1 hn hq hl0 hl hI hp hN hR
      obtain ⟨q, rfl⟩ : ∃ x, q = x + 1 := ⟨q - 1, by omega⟩
      have hz := hI.2.2.2.2.2.2.2.2.2
      cases e : op (zKk T z p1) with
      | none =>
        refine ⟨I1, ?_, zFC_rfl, Or.inl ⟨p1, N1, hI, hp, hN, fun q J S m h1 h2 h3 h4 => ?_⟩⟩
        · rw [hg, hI.2.2.2.1, e]
          split <;> rfl
        · obtain ⟨q', m', J', s', y1, y2, y3, y4, y5, y6⟩ := hR q J S m h1 h2 h3 h4
          exact ⟨q', m', J', s', y1, y2, y3, y4, y5, y6, e⟩
      | some w =>
        obtain ⟨o1, o2, o3, o4, o5, o6⟩ := hop _ w e
        have pos := zKk_pos (T := T) hz.1 (fun y => by
          rw [y] at o5
          rcases o5 with ⟨y, -⟩ | ⟨y, -⟩ | ⟨y, -⟩ | ⟨y, -⟩ | ⟨y, -⟩ <;> exact absurd y (by decide))
        have rb := zKb_r (T := T) hz.1
        have re := zKe_r (T := T) hz.1
        have el : (l2 + 1).toInt = l2.toInt + 1 := by rw [zadd (by rw [z1]; omega) (by rw [z1]; omega), z1]
        obtain ⟨I2, u1, u2, u3⟩ := zCS_next hI
        have hlen : (N1 ++ W).length = N1.length + W.length := List.length_append
        obtain ⟨I3, v1, v2, v3⟩ := h I2 (zKe T z p1) (N1 ++ W) u2 (by omega)
        have F : g (q + 1) l2 I1 = zb (f7_put w I3) fun p8 => g q (l2 + 1) p8 := by
          rw [hg, if_neg (by rw [zle_iff, z160]; omega), hI.2.2.2.1, e]
          dsimp only
          rw [if_pos hI.2.2.2.2.2.2.1, u1, zb_some, v1, zb_some]
        -- the reference comes to the operand behind the sign
        have ref : ∀ (q : Nat) (J : zMI) (S : List Int32) (m : Int32), 200 ≤ q + p → ztp r S → mn m (zKk T z p) → zRS T z t J p (S, o, W.map zw2c) → ∃ q' m' J', 200 ≤ q' + zKe T z p1 ∧ zKE q 1 m J = zKE q' 1 m' J' ∧ zRS T z t J' (zKe T z p1) (zw2c w :: S, o, (N1 ++ W).map zw2c) ∧ zFR t J J' ∧ mn m' (zKk T z (zKe T z p1)) ∧ E' (zw2c w :: S) := fun q J S m h1 h2 h3 h4 => by
          obtain ⟨q', m', J', s', y1, y2, y3, y4, y5, y6⟩ := hR q J S m h1 h2 h3 h4
          obtain ⟨q', rfl⟩ : ∃ x, q' = x + 1 := ⟨q' - 1, by omega⟩
          obtain ⟨J2, x1, x2, x3⟩ := zst_sign (q := q') (m := m') (k159 := f12_eRead_B159) y3 o5
          have e5 : zunq (zrk (zw2c w)) s'.1 s'.2.1 s'.2.2 = (S, o, (N1 ++ W).map zw2c) := by rw [o3]; exact y5
          rw [e5] at x2
          exact ⟨q', _, J2, by omega, y2.trans x1, x2, zFR_tr y4 x3, o6 _, hE2 S _ o3⟩
        rcases v3 with ⟨p', N2, w1, w2, w3, w4⟩ | ⟨b, w1, w2⟩
        · have hlen2 : (N2 ++ (N1 ++ W)).length = N2.length + (N1.length + W.length) := by rw [List.length_append, List.length_append]
          have hz' := w1.2.2.2.2.2.2.2.2.2
          obtain ⟨I4, x1, x2, x3⟩ := zCS_put (x := w) w1 (by omega)
          have eN : w :: (N2 ++ (N1 ++ W)) = (w :: (N2 ++ N1)) ++ W := by rw [List.cons_append, List.append_assoc]
          rw [eN] at x2
          have hN' : zGd o bnd (w :: (N2 ++ N1)) := by
            refine ⟨fun d hd => ?_, fun x hx => ?_⟩
            · show (zds (N2 ++ N1) d).bind _ = _
              rw [zds_app, hN.1 d hd]
              show (zds N2 (d + 1)).bind _ = _
              rw [w3.1 (d + 1) (by omega)]
              show (if zne w ≤ d + 1 + 1 ∧ d + 1 + 1 < 40 then some (d + 1 + 1 - zne w + 1) else none) = _
              rw [o2, if_pos (by omega)]
              congr 1
            · rw [List.mem_cons, List.mem_append] at hx
              rcases hx with hx | hx | hx
              · rw [hx]; exact o1
              · exact w3.2 x hx
              · exact hN.2 x hx
          obtain ⟨I', y1, y2, y3⟩ := ih q p' (w :: (N2 ++ N1)) (l2 + 1) I4 (by omega) (by omega) (by omega) (by omega) x2 (by rw [List.length_cons, List.length_append]; omega) hN' (fun q J S m h1 h2 h3 h4 => by
            obtain ⟨q', m', J', a1, a2, a3, a4, a5, a6⟩ := ref q J S m h1 h2 h3 h4
            obtain ⟨q'', m'', J'', s'', b1, b2, b3, b4, b5⟩ := w4 q' J' (zw2c w :: S) m' a1 a6 a5 a3
            obtain ⟨c1, c2⟩ := hA _ _ _ _ a6 b5
            refine ⟨q'', m'', J'', s'', b1, by rw [a2, b2], b3, zFR_tr a4 b4, ?_, c2⟩
            rw [c1, zunq, if_neg (by rw [o3, zlt_iff]; omega), o4, zun_top h2, ← eN, List.map_cons]
            congr 2
            rw [zeq_iff, zsub (by rw [z0]; have := zrange o; omega) (by rw [z0]; have := zrange o; omega), z0]
            omega)
          refine ⟨I', ?_, zFC_tr (zFC_tr u3 v2) (zFC_tr x3 y2), y3⟩
          rw [F, x1, zb_some]
          exact y1
        · obtain ⟨I4, x1, x2, x3⟩ := zV_put (x := w) I3 w1
          obtain ⟨q, rfl⟩ : ∃ x, q = x + 1 := ⟨q - 1, by omega⟩
          refine ⟨I4, ?_, zFC_tr (zFC_tr u3 v2) x3, Or.inr ⟨b, x2, fun q J S m h1 h2 h3 h4 => ?_⟩⟩
          · rw [F, x1, zb_some, hV q _ I4 b x2]
          · obtain ⟨q', m', J', a1, a2, a3, a4, a5, a6⟩ := ref q J S m h1 h2 h3 h4
            obtain ⟨J'', b1, b2, b3⟩ := w2 q' J' (zw2c w :: S) m' a1 a6 a5 a3
            exact ⟨J'', by rw [a2, b1], b2, zFR_tr a4 b3⟩
  obtain ⟨I1, u1, u2, u3⟩ := h I0 p W hI0 hW
  rcases u3 with ⟨p1, N1, w1, w2, w3, w4⟩ | ⟨b, w1, w2⟩
  · obtain ⟨I', y1, y2, y3⟩ := loop z zF p1 N1 0 I1 (by omega) (by unfold zF; omega) (by rw [z0]; omega) (by rw [z0]; omega) w1 w2 ⟨fun d hd => w3.1 d (by omega), w3.2⟩ (fun q J S m h1 h2 h3 h4 => by
      obtain ⟨q', m', J', s', b1, b2, b3, b4, b5⟩ := w4 q J S m h1 (hE S h2) h3 h4
      obtain ⟨c1, c2⟩ := hA _ _ _ _ (hE S h2) b5
      exact ⟨q', m', J', s', b1, b2, b3, b4, by rw [c1, zun_top h2], c2⟩)
    refine ⟨I', ?_, zFC_tr u2 y2, y3⟩
    show zb (fst I0) _ = _
    rw [u1, zb_some]
    exact y1
  · obtain ⟨q, hq⟩ : ∃ q, zF = q + 1 := ⟨zF - 1, by unfold zF; omega⟩
    refine ⟨I1, ?_, u2, Or.inr ⟨b, w1, fun q J S m h1 h2 h3 h4 => w2 q J S m h1 (hE S h2) h3 h4⟩⟩
    show zb (fst I0) _ = _
    rw [u1, zb_some, hq]
    exact hV q 0 I1 b w1
/-- the four loops -/
theorem zSP_Term {rc : Nat → Int32 → zMI → Option zMI} (ho : 0 ≤ o.toInt ∧ o.toInt ≤ 5) (h : zSP T z t (rc 2 o) o 5 (fun _ => True) zmA (zA1 o)) : zSP T z t (f7_readTerm rc o) o 4 (ztp 6) zmA (zA2 o) := by
  intro I p W hI hW
  obtain ⟨I', u1, u2, u3⟩ := zLoopSP (T := T) (z := z) (t := t) (o := o) (fst := rc 2 o) (g := fun q l2 I => f7_readTerm_L7 rc q o l2 I) (op := zopT) (bnd := 4) (r := 6) (X := fun _ _ => True) (E' := fun _ => True) (mn := zmA) (A' := zA1 o) (by omega) (fun q l2 I => by
      try dsimp only
      rw [f7_readTerm_L7]
      unfold zopT
      by_cases c : (160 : Int32) ≤ l2
      · rw [if_pos c, if_pos c]
      · rw [if_neg c, if_neg c]
        by_cases k : I 37 3 = 42
        · rw [if_pos k, if_pos k]
        · rw [if_neg k, if_neg k]) h (fun _ _ => trivial) (fun _ _ _ => trivial) (fun S Wc k' s' _ ha => ⟨by rw [show s' = zunq 7 S o Wc from ha]; exact zuS_zun (by decide) _ _ _, trivial⟩) (fun k w e => by
      unfold zopT at e
      by_cases c : k = 42
      · rw [if_pos c] at e
        cases e
        refine ⟨by unfold zwk; decide, by decide, by decide, by decide, by rw [c]; decide, fun k' hk' => absurd (by decide) hk'⟩
      · rw [if_neg c] at e
        cases e) I p W hI hW
  refine ⟨I', u1, u2, ?_⟩
  rcases u3 with ⟨p', N, y1, y2, y3, y4⟩ | y
  · refine Or.inl ⟨p', N, y1, y2, y3, fun q J S m h1 h2 h3 h4 => ?_⟩
    obtain ⟨q', m', J', s', b1, b2, b3, b4, b5, b6, b7⟩ := y4 q J S m h1 h2 h3 h4
    exact ⟨q', m', J', s', b1, b2, b3, b4, b5, b7⟩
  · exact Or.inr y
theorem zSP_Sum {rc : Nat → Int32 → zMI → Option zMI} (ho : 0 ≤ o.toInt ∧ o.toInt ≤ 5) (h : zSP T z t (rc 2 o) o 5 (fun _ => True) zmA (zA1 o)) : zSP T z t (f7_readSum rc o) o 3 (ztp 5) zmA (zA3 o) := by
  intro I p W hI hW
  obtain ⟨I', u1, u2, u3⟩ := zLoopSP (T := T) (z := z) (t := t) (o := o) (fst := f7_readTerm rc o) (g := fun q l2 I => f7_readSum_L7 rc q o l2 I) (op := zopS) (bnd := 3) (r := 5) (X := fun k' _ => zopT k' = none) (E' := ztp 6) (mn := zmA) (A' := zA2 o) (by omega) (fun q l2 I => by
      try dsimp only
      rw [f7_readSum_L7]
      unfold zopS f7_readSum_B32
      by_cases c : (160 : Int32) ≤ l2
      · rw [if_pos c, if_pos c]
      · rw [if_neg c, if_neg c]
        by_cases k : I 37 3 = 43
        · rw [if_pos k, if_pos k, if_pos k]
          rfl
        · rw [if_neg k, if_neg k]
          by_cases k2 : I 37 3 = 45
          · rw [if_pos k2, if_pos k2, if_neg k]
            rfl
          · simp only [if_neg k, if_neg k2]) (zSP_Term ho h) (fun S hS => ztp_mono hS (by decide)) (fun S sg e x S' q => by cases q; rw [e]; decide) (fun S Wc k' s' _ ha => ⟨by rw [← zuS_uS (r := 5) (r' := 6) (by decide) s', ha.1]; rfl, ha.2⟩) (fun k w e => by
      unfold zopS at e
      by_cases c : k = 43
      · rw [if_pos c] at e
        cases e
        refine ⟨by unfold zwk; decide, by decide, by decide, by decide, by rw [c]; decide, fun k' hk' => absurd (by decide) hk'⟩
      · rw [if_neg c] at e
        by_cases c : k = 45
        · rw [if_pos c] at e
          cases e
          refine ⟨by unfold zwk; decide, by decide, by decide, by decide, by rw [c]; decide, fun k' hk' => absurd (by decide) hk'⟩
        · rw [if_neg c] at e
          cases e) I p W hI hW
  exact ⟨I', u1, u2, u3⟩
theorem zSP_And {rc : Nat → Int32 → zMI → Option zMI} (ho : 0 ≤ o.toInt ∧ o.toInt ≤ 5) (h : zSP T z t (rc 1 o) o 2 (ztp 4) zmB (zA4 o)) : zSP T z t (f7_readAnd rc o) o 1 (ztp 2) zmB (zA5 o) := by
  intro I p W hI hW
  obtain ⟨I', u1, u2, u3⟩ := zLoopSP (T := T) (z := z) (t := t) (o := o) (fst := rc 1 o) (g := fun q l2 I => f7_readAnd_L7 rc q o l2 I) (op := zopA) (bnd := 1) (r := 2) (X := zXk) (E' := ztp 4) (mn := zmB) (A' := zA4 o) (by omega) (fun q l2 I => by
      try dsimp only
      rw [f7_readAnd_L7]
      unfold zopA
      by_cases c : (160 : Int32) ≤ l2
      · rw [if_pos c, if_pos c]
      · rw [if_neg c, if_neg c]
        by_cases k : I 37 3 = 8
        · rw [if_pos k, if_pos k]
        · rw [if_neg k, if_neg k]) h (fun S hS => ztp_mono hS (by decide)) (fun S sg e x S' q => by cases q; rw [e]; decide) (fun S Wc k' s' _ ha => ⟨by rw [← zuS_uS (r := 2) (r' := 3) (by decide) s', ha.1]; exact zuS_zun (by decide) _ _ _, ha.2⟩) (fun k w e => by
      unfold zopA at e
      by_cases c : k = 8
      · rw [if_pos c] at e
        cases e
        refine ⟨by unfold zwk; decide, by decide, by decide, by decide, by rw [c]; decide, fun k' => by unfold zmB; decide⟩
      · rw [if_neg c] at e
        cases e) I p W hI hW
  exact ⟨I', u1, u2, u3⟩
theorem zSP_Or {rc : Nat → Int32 → zMI → Option zMI} (ho : 0 ≤ o.toInt ∧ o.toInt ≤ 5) (h : zSP T z t (rc 1 o) o 2 (ztp 4) zmB (zA4 o)) : zSP T z t (f7_readOr rc o) o 0 (ztp 1) zmB (zA6 o) := by
  intro I p W hI hW
  obtain ⟨I', u1, u2, u3⟩ := zLoopSP (T := T) (z := z) (t := t) (o := o) (fst := f7_readAnd rc o) (g := fun q l2 I => f7_readOr_L7 rc q o l2 I) (op := zopO) (bnd := 0) (r := 1) (X := fun k' s' => zXk k' s' ∧ zopA k' = none) (E' := ztp 2) (mn := zmB) (A' := zA5 o) (by omega) (fun q l2 I => by
      try dsimp only
      rw [f7_readOr_L7]
      unfold zopO
      by_cases c : (160 : Int32) ≤ l2
      · rw [if_pos c, if_pos c]
      · rw [if_neg c, if_neg c]
        by_cases k : I 37 3 = 7
        · rw [if_pos k, if_pos k]
        · rw [if_neg k, if_neg k]) (zSP_And ho h) (fun S hS => ztp_mono hS (by decide)) (fun S sg e x S' q => by cases q; rw [e]; decide) (fun S Wc k' s' _ ha => ⟨by rw [← zuS_uS (r := 1) (r' := 2) (by decide) s', ha.1]; rfl, ha.2⟩) (fun k w e => by
      unfold zopO at e
      by_cases c : k = 7
      · rw [if_pos c] at e
        cases e
        refine ⟨by unfold zwk; decide, by decide, by decide, by decide, by rw [c]; decide, fun k' => by unfold zmB; decide⟩
      · rw [if_neg c] at e
        cases e) I p W hI hW
  exact ⟨I', u1, u2, u3⟩
end
