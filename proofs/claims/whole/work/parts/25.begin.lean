/-- the law comes to its end with true, where its function says 1 -/
theorem zstart {p : Program} {e : Env} {s : State} {m : MethodId} {below : List Frame} {meth : Method} {c : Code} (l : Launch) {b L : Nat} {xs : Nat → Int32} (hname : meth.name = "law") (C0 : lw_At p s m meth c b L xs) (hp : ∃ r, fL_law L xs zM1.1.1 zM1.1.2 zM1.2.1 zM1.2.2 = some r ∧ r.1 = 1) :
    W p l e room_1 s m #[Value.ref b] below meth c s.heap [] 0 0 (lw_Z below #[Value.ref b] s) (entryFrame m ([Value.ref b] : List Value).toArray 4) := by
  obtain ⟨hx, hb, hr, hml, hown, hts, hX, hbl, hlocks, hgv⟩ := id C0
  obtain ⟨w, hG, hF, hw, hb0, hs0, hL, hxs, h26⟩ := zworld hts hX hbl hgv
  obtain ⟨r, hp, hr1⟩ := hp
  have h := eL_all (w := w) (d := 138) hw (Nat.le_refl _) (by rw [hL, hxs]; exact hp)
  have hl := lv_entry ([.ref b]) (n := 4) (Nat.le_of_ble_eq_true rfl)
  rw [lg_entry_eq]
  generalize (lg_sl ([.ref b]) ++ List.replicate (4 - (lg_sl ([.ref b])).length) Slot.unset).toArray = ls at hl ⊢
  have hl : lv_has ls 4 [(0, .ref b)] := hl
  have hl2 : zL w 4 ls [some (.ref 26), none, none, none] := by
    show lv_has ls 4 [(0, .ref (zad w 26))]
    rw [h26]
    exact hl
  have hP : zRp w s (32, zD0, zI0, zR0) s.heap [] := ⟨Nat.le_refl _, by rw [hb0]; rfl, fun k q h => (by cases h), va_S.rf⟩
  refine h p l e room_1 s m #[Value.ref b] below meth c s.heap [] 0 0 _ ls hG ⟨hx, hb, hml, hown, fun v hv => hts v (List.mem_filter.mp hv).1, hr, hlocks, hname, hF⟩ hl2 hP (by decide) (by decide) (by decide) (by decide) (fun v μ' H' locs' cells' slots' pc' ls' q hP' hc hsl hret => ?_)
  subst q
  rw [hr1] at hret ⊢
  have hdg : decode code pc' = .ok (.ireturn, 1) := by
    rcases hret with ⟨x, -, h2, -⟩ | ⟨x, h1, -⟩ | ⟨x, h1, h2, -⟩ | ⟨h1, -⟩
    · exact h2
    · cases h1
    · have e := Option.some.inj h1
      rcases h2 with rfl | ⟨a, rfl⟩ <;> cases e
    · cases h1
  refine va_forget (fun q hq => by have h9 := hP'.2.2.2.2.2 q hq; unfold zAq at h9; rw [hb0] at h9; exact h9) ?_
  refine W.widen (k := 600000) (n := 7302250) (by omega) (by omega) ?_
  exact lw_ret hx hb hr hlocks hdg
