/-! the machine does as the functions say: laid by program -/
abbrev qL_law  (r : Int32 × (Nat × zMK) × zMI × zMR) : Option Value → zM → Prop := fun v μ1 => v = some (.int r.1) ∧ μ1 = ((r.2.1).1, (r.2.1).2, r.2.2.1, r.2.2.2)
set_option maxHeartbeats 4000000 in
set_option maxRecDepth 100000 in
theorem eL_law_B1487 {w : zW} {d : Nat}  {bq : Nat} {r : Int32 × (Nat × zMK) × zMI × zMR} {k18 : Int32 → Nat → zMK → zMI → zMR → Option (Int32 × (Nat × zMK) × zMI × zMR)} {sl : Nat} {sf : Nat → Int32} (hsl : zxl w = sl) (hsf : zxs w = sf) (hw : zst w = zSt0) (hd : 138 ≤ d) (hk18 : ∀ (l3 : Int32) (n : Nat) (kd : zMK) (I : zMI) (R : zMR), k18 l3 n kd I R = some r → EV w d (bq * 10) (bq * 534) YL_law 18 [some (.ref 26), some (.ref 32), some (.ref 81), some (.int l3)] [] (n, kd, I, R) (qL_law  r)) : ∀ (l3 : Int32) (n : Nat) (kd : zMK) (I : zMI) (R : zMR), fL_law_B1487 sl sf k18 l3 n kd I R = some r → EV w d (bq * 10 + 0) (bq * 534 + 0) YL_law 1487 [some (.ref 26), some (.ref 32), some (.ref 81), some (.int l3)] [] (n, kd, I, R) (qL_law  r) := by
  intro l3 n kd I R h
  unfold fL_law_B1487 at h
  obtain ⟨g1, h⟩ := zgd h
  have hS := zShB_sh g1
  refine ev_iinc dL_law_1487 (v := l3 + (7 : Int32)) rfl rfl (by decide) rfl ?_
  refine ev_goto dL_law_1490 (tgt := 18) (by decide) ?_
  exact EV.mask [true, true, true, true] rfl (EV.more (hk18 (l3 + (7 : Int32)) n kd I R h) (Nat.le_refl _) (by omega) (by omega))
set_option maxHeartbeats 4000000 in
set_option maxRecDepth 100000 in
theorem eL_law_L18 {w : zW} {d : Nat}  {r : Int32 × (Nat × zMK) × zMI × zMR}  {sl : Nat} {sf : Nat → Int32} (hsl : zxl w = sl) (hsf : zxs w = sf) (hw : zst w = zSt0) (hd : 138 ≤ d)  : ∀ (q : Nat) (l3 : Int32) (n : Nat) (kd : zMK) (I : zMI) (R : zMR), fL_law_L18 sl sf q l3 n kd I R = some r → EV w d (q * 10) (q * 534) YL_law 18 [some (.ref 26), some (.ref 32), some (.ref 81), some (.int l3)] [] (n, kd, I, R) (qL_law  r) := by
  intro q
  induction q with
  | zero =>
    intro l3 n kd I R h
    cases h
  | succ q ih =>
    intro l3 n kd I R h
    unfold fL_law_L18 at h
    obtain ⟨g2, h⟩ := zgd h
    have hS := zShB_sh g2
    refine ev_iload_n dL_law_18 rfl rfl ?_
    refine ev_aload_n dL_law_19 rfl rfl ?_
    refine ev_slen dL_law_20 (x := Int32.ofNat sl) (by rw [hsl]) ?_
    refine ev_bipush dL_law_21 (v := (7 : Int32)) zcb_7 ?_
    refine ev_isub dL_law_23 rfl ?_
    refine ev_icmp_gt dL_law_24 (tgt := 1493) (by decide) (fun c3 => ?_) (fun c3 => ?_)
    · replace h := zit c3 h
      refine ev_iconst dL_law_1493 (v := (1 : Int32)) zci_1 ?_
      obtain rfl := Option.some.inj h
      exact ev_end_i dL_law_1494 rfl rfl ⟨rfl, rfl⟩
    · replace h := zif c3 h
      refine ev_aload_n dL_law_27 rfl rfl ?_
      refine ev_iload_n dL_law_28 rfl rfl ?_
      obtain ⟨g4, h⟩ := zgd h
      refine ev_sld dL_law_29 (by rw [hsl]; exact zib_in g4) (x := sf l3.toNatClampNeg) (by rw [hsf]) ?_
      refine ev_bipush dL_law_30 (v := (63 : Int32)) zcb_63 ?_
      refine ev_iand dL_law_32 rfl ?_
      by_cases c5 : ((sf l3.toNatClampNeg) &&& (63 : Int32)) = (0 : Int32)
      · replace h := zit c5 h
        refine ev_tableIn dL_law_33 (by rw [c5]; decide) (by rw [c5]; decide) (off := 167) (by rw [c5]; rfl) (tgt := 200) (by decide) ?_
        refine ev_aload_n dL_law_200 rfl rfl ?_
        refine ev_aload_n dL_law_201 rfl rfl ?_
        refine ev_iload_n dL_law_202 rfl rfl ?_
        refine ev_iconst dL_law_203 (v := (1 : Int32)) zci_1 ?_
        refine ev_iadd dL_law_204 rfl ?_
        obtain ⟨g6, h⟩ := zgd h
        refine ev_sld dL_law_205 (by rw [hsl]; exact zib_in g6) (x := sf (l3 + (1 : Int32)).toNatClampNeg) (by rw [hsf]) ?_
        obtain ⟨p7, e8, h⟩ := zbd h
        refine ev_callV0 dL_law_206 zm11_count zl_NineHeapsLaw_13 zi11_count zv11_count (zrcX hS) (As := [.int (sf (l3 + (1 : Int32)).toNatClampNeg)]) (rest := []) rfl rfl (Nat.le_of_ble_eq_true rfl) rfl (Nat.le_of_ble_eq_true rfl) (d' := 1) (by omega) (e11_count hw hS (Nat.le_refl _) e8) (fun v μ1 q => ?_)
        obtain ⟨rfl, rfl⟩ := q
        refine ev_aload_n dL_law_209 rfl rfl ?_
        refine ev_aload_n dL_law_210 rfl rfl ?_
        refine ev_iload_n dL_law_211 rfl rfl ?_
        refine ev_iconst dL_law_212 (v := (1 : Int32)) zci_1 ?_
        refine ev_iadd dL_law_213 rfl ?_
        refine ev_sld dL_law_214 (by rw [hsl]; exact zib_in g6) (x := sf (l3 + (1 : Int32)).toNatClampNeg) (by rw [hsf]) ?_
        obtain ⟨p9, e10, h⟩ := zbd h
        refine ev_callV0 dL_law_215 zm12_count zl_NineHeapsLaw_17 zi12_count zv12_count (zrcM hS) (As := [.int (sf (l3 + (1 : Int32)).toNatClampNeg)]) (rest := [.int p7]) rfl rfl (Nat.le_of_ble_eq_true rfl) rfl (Nat.le_of_ble_eq_true rfl) (d' := 1) (by omega) (e12_count hw hS (Nat.le_refl _) e10) (fun v μ1 q => ?_)
        obtain ⟨rfl, rfl⟩ := q
        refine ev_icmp_eq dL_law_218 (tgt := 1487) (by decide) (fun c11 => ?_) (fun c11 => ?_)
        · replace h := zit c11 h
          exact EV.mask [true, true, true, true] rfl (EV.more (eL_law_B1487 (bq := q) hsl hsf hw hd (fun l3' n' kd' I' R' h' => ih l3' n' kd' I' R' h') l3 n kd I R h) (Nat.le_refl _) (by omega) (by omega))
        · replace h := zif c11 h
          refine ev_iconst dL_law_221 (v := (0 : Int32)) zci_0 ?_
          obtain rfl := Option.some.inj h
          exact ev_end_i dL_law_222 rfl rfl ⟨rfl, rfl⟩
      · replace h := zif c5 h
        by_cases c12 : ((sf l3.toNatClampNeg) &&& (63 : Int32)) = (1 : Int32)
        · replace h := zit c12 h
          refine ev_tableIn dL_law_33 (by rw [c12]; decide) (by rw [c12]; decide) (off := 190) (by rw [c12]; rfl) (tgt := 223) (by decide) ?_
          refine ev_aload_n dL_law_223 rfl rfl ?_
          refine ev_aload_n dL_law_224 rfl rfl ?_
          refine ev_iload_n dL_law_225 rfl rfl ?_
          refine ev_iconst dL_law_226 (v := (1 : Int32)) zci_1 ?_
          refine ev_iadd dL_law_227 rfl ?_
          obtain ⟨g13, h⟩ := zgd h
          refine ev_sld dL_law_228 (by rw [hsl]; exact zib_in g13) (x := sf (l3 + (1 : Int32)).toNatClampNeg) (by rw [hsf]) ?_
          refine ev_aload_n dL_law_229 rfl rfl ?_
          refine ev_iload_n dL_law_230 rfl rfl ?_
          refine ev_iconst dL_law_231 (v := (2 : Int32)) zci_2 ?_
          refine ev_iadd dL_law_232 rfl ?_
          obtain ⟨g14, h⟩ := zgd h
          refine ev_sld dL_law_233 (by rw [hsl]; exact zib_in g14) (x := sf (l3 + (2 : Int32)).toNatClampNeg) (by rw [hsf]) ?_
          refine ev_aload_n dL_law_234 rfl rfl ?_
          refine ev_iload_n dL_law_235 rfl rfl ?_
          refine ev_iconst dL_law_236 (v := (3 : Int32)) zci_3 ?_
          refine ev_iadd dL_law_237 rfl ?_
          obtain ⟨g15, h⟩ := zgd h
          refine ev_sld dL_law_238 (by rw [hsl]; exact zib_in g15) (x := sf (l3 + (3 : Int32)).toNatClampNeg) (by rw [hsf]) ?_
          obtain ⟨p16, e17, h⟩ := zbd h
          refine ev_callV0 dL_law_239 zm11_set zl_NineHeapsLaw_18 zi11_set zv11_set (zrcX hS) (As := [.int (sf (l3 + (1 : Int32)).toNatClampNeg), .int (sf (l3 + (2 : Int32)).toNatClampNeg), .int (sf (l3 + (3 : Int32)).toNatClampNeg)]) (rest := []) rfl rfl (Nat.le_of_ble_eq_true rfl) rfl (Nat.le_of_ble_eq_true rfl) (d' := 2) (by omega) (e11_set hw hS (Nat.le_refl _) e17) (fun v μ1 q => ?_)
          obtain ⟨rfl, rfl⟩ := q
          refine ev_aload_n dL_law_242 rfl rfl ?_
          refine ev_aload_n dL_law_243 rfl rfl ?_
          refine ev_iload_n dL_law_244 rfl rfl ?_
          refine ev_iconst dL_law_245 (v := (1 : Int32)) zci_1 ?_
          refine ev_iadd dL_law_246 rfl ?_
          refine ev_sld dL_law_247 (by rw [hsl]; exact zib_in g13) (x := sf (l3 + (1 : Int32)).toNatClampNeg) (by rw [hsf]) ?_
          refine ev_aload_n dL_law_248 rfl rfl ?_
          refine ev_iload_n dL_law_249 rfl rfl ?_
          refine ev_iconst dL_law_250 (v := (2 : Int32)) zci_2 ?_
          refine ev_iadd dL_law_251 rfl ?_
          refine ev_sld dL_law_252 (by rw [hsl]; exact zib_in g14) (x := sf (l3 + (2 : Int32)).toNatClampNeg) (by rw [hsf]) ?_
          refine ev_aload_n dL_law_253 rfl rfl ?_
          refine ev_iload_n dL_law_254 rfl rfl ?_
          refine ev_iconst dL_law_255 (v := (3 : Int32)) zci_3 ?_
          refine ev_iadd dL_law_256 rfl ?_
          refine ev_sld dL_law_257 (by rw [hsl]; exact zib_in g15) (x := sf (l3 + (3 : Int32)).toNatClampNeg) (by rw [hsf]) ?_
          obtain ⟨p18, e19, h⟩ := zbd h
          refine ev_callV0 dL_law_258 zm12_set zl_NineHeapsLaw_22 zi12_set zv12_set (zrcM hS) (As := [.int (sf (l3 + (1 : Int32)).toNatClampNeg), .int (sf (l3 + (2 : Int32)).toNatClampNeg), .int (sf (l3 + (3 : Int32)).toNatClampNeg)]) (rest := [.int p16.1]) rfl rfl (Nat.le_of_ble_eq_true rfl) rfl (Nat.le_of_ble_eq_true rfl) (d' := 3) (by omega) (e12_set hw hS (Nat.le_refl _) e19) (fun v μ1 q => ?_)
          obtain ⟨rfl, rfl⟩ := q
          refine ev_icmp_eq dL_law_261 (tgt := 1487) (by decide) (fun c20 => ?_) (fun c20 => ?_)
          · replace h := zit c20 h
            exact EV.mask [true, true, true, true] rfl (EV.more (eL_law_B1487 (bq := q) hsl hsf hw hd (fun l3' n' kd' I' R' h' => ih l3' n' kd' I' R' h') l3 n kd p18.2 R h) (Nat.le_refl _) (by omega) (by omega))
          · replace h := zif c20 h
            refine ev_iconst dL_law_264 (v := (0 : Int32)) zci_0 ?_
            obtain rfl := Option.some.inj h
            exact ev_end_i dL_law_265 rfl rfl ⟨rfl, rfl⟩
        · replace h := zif c12 h
          by_cases c21 : ((sf l3.toNatClampNeg) &&& (63 : Int32)) = (2 : Int32)
          · replace h := zit c21 h
            refine ev_tableIn dL_law_33 (by rw [c21]; decide) (by rw [c21]; decide) (off := 233) (by rw [c21]; rfl) (tgt := 266) (by decide) ?_
            refine ev_aload_n dL_law_266 rfl rfl ?_
            refine ev_aload_n dL_law_267 rfl rfl ?_
            refine ev_iload_n dL_law_268 rfl rfl ?_
            refine ev_iconst dL_law_269 (v := (1 : Int32)) zci_1 ?_
            refine ev_iadd dL_law_270 rfl ?_
            obtain ⟨g22, h⟩ := zgd h
            refine ev_sld dL_law_271 (by rw [hsl]; exact zib_in g22) (x := sf (l3 + (1 : Int32)).toNatClampNeg) (by rw [hsf]) ?_
            refine ev_aload_n dL_law_272 rfl rfl ?_
            refine ev_iload_n dL_law_273 rfl rfl ?_
            refine ev_iconst dL_law_274 (v := (2 : Int32)) zci_2 ?_
            refine ev_iadd dL_law_275 rfl ?_
            obtain ⟨g23, h⟩ := zgd h
            refine ev_sld dL_law_276 (by rw [hsl]; exact zib_in g23) (x := sf (l3 + (2 : Int32)).toNatClampNeg) (by rw [hsf]) ?_
            obtain ⟨p24, e25, h⟩ := zbd h
            refine ev_callV0 dL_law_277 zm11_heap zl_NineHeapsLaw_23 zi11_heap zv11_heap (zrcX hS) (As := [.int (sf (l3 + (1 : Int32)).toNatClampNeg), .int (sf (l3 + (2 : Int32)).toNatClampNeg)]) (rest := []) rfl rfl (Nat.le_of_ble_eq_true rfl) rfl (Nat.le_of_ble_eq_true rfl) (d' := 2) (by omega) (e11_heap hw hS (Nat.le_refl _) e25) (fun v μ1 q => ?_)
            obtain ⟨rfl, rfl⟩ := q
            refine ev_aload_n dL_law_280 rfl rfl ?_
            refine ev_aload_n dL_law_281 rfl rfl ?_
            refine ev_iload_n dL_law_282 rfl rfl ?_
            refine ev_iconst dL_law_283 (v := (1 : Int32)) zci_1 ?_
            refine ev_iadd dL_law_284 rfl ?_
            refine ev_sld dL_law_285 (by rw [hsl]; exact zib_in g22) (x := sf (l3 + (1 : Int32)).toNatClampNeg) (by rw [hsf]) ?_
            refine ev_aload_n dL_law_286 rfl rfl ?_
            refine ev_iload_n dL_law_287 rfl rfl ?_
            refine ev_iconst dL_law_288 (v := (2 : Int32)) zci_2 ?_
            refine ev_iadd dL_law_289 rfl ?_
            refine ev_sld dL_law_290 (by rw [hsl]; exact zib_in g23) (x := sf (l3 + (2 : Int32)).toNatClampNeg) (by rw [hsf]) ?_
            obtain ⟨p26, e27, h⟩ := zbd h
            refine ev_callV0 dL_law_291 zm12_heap zl_NineHeapsLaw_27 zi12_heap zv12_heap (zrcM hS) (As := [.int (sf (l3 + (1 : Int32)).toNatClampNeg), .int (sf (l3 + (2 : Int32)).toNatClampNeg)]) (rest := [.int p24]) rfl rfl (Nat.le_of_ble_eq_true rfl) rfl (Nat.le_of_ble_eq_true rfl) (d' := 3) (by omega) (e12_heap hw hS (Nat.le_refl _) e27) (fun v μ1 q => ?_)
            obtain ⟨rfl, rfl⟩ := q
            refine ev_icmp_eq dL_law_294 (tgt := 1487) (by decide) (fun c28 => ?_) (fun c28 => ?_)
            · replace h := zit c28 h
              exact EV.mask [true, true, true, true] rfl (EV.more (eL_law_B1487 (bq := q) hsl hsf hw hd (fun l3' n' kd' I' R' h' => ih l3' n' kd' I' R' h') l3 n kd I R h) (Nat.le_refl _) (by omega) (by omega))
            · replace h := zif c28 h
              refine ev_iconst dL_law_297 (v := (0 : Int32)) zci_0 ?_
              obtain rfl := Option.some.inj h
              exact ev_end_i dL_law_298 rfl rfl ⟨rfl, rfl⟩
          · replace h := zif c21 h
            by_cases c29 : ((sf l3.toNatClampNeg) &&& (63 : Int32)) = (3 : Int32)
            · replace h := zit c29 h
              refine ev_tableIn dL_law_33 (by rw [c29]; decide) (by rw [c29]; decide) (off := 266) (by rw [c29]; rfl) (tgt := 299) (by decide) ?_
              refine ev_aload_n dL_law_299 rfl rfl ?_
              refine ev_aload_n dL_law_300 rfl rfl ?_
              refine ev_iload_n dL_law_301 rfl rfl ?_
              refine ev_iconst dL_law_302 (v := (1 : Int32)) zci_1 ?_
              refine ev_iadd dL_law_303 rfl ?_
              obtain ⟨g30, h⟩ := zgd h
              refine ev_sld dL_law_304 (by rw [hsl]; exact zib_in g30) (x := sf (l3 + (1 : Int32)).toNatClampNeg) (by rw [hsf]) ?_
              refine ev_aload_n dL_law_305 rfl rfl ?_
              refine ev_iload_n dL_law_306 rfl rfl ?_
              refine ev_iconst dL_law_307 (v := (2 : Int32)) zci_2 ?_
              refine ev_iadd dL_law_308 rfl ?_
              obtain ⟨g31, h⟩ := zgd h
              refine ev_sld dL_law_309 (by rw [hsl]; exact zib_in g31) (x := sf (l3 + (2 : Int32)).toNatClampNeg) (by rw [hsf]) ?_
              refine ev_aload_n dL_law_310 rfl rfl ?_
              refine ev_iload_n dL_law_311 rfl rfl ?_
              refine ev_iconst dL_law_312 (v := (3 : Int32)) zci_3 ?_
              refine ev_iadd dL_law_313 rfl ?_
              obtain ⟨g32, h⟩ := zgd h
              refine ev_sld dL_law_314 (by rw [hsl]; exact zib_in g32) (x := sf (l3 + (3 : Int32)).toNatClampNeg) (by rw [hsf]) ?_
              refine ev_aload_n dL_law_315 rfl rfl ?_
              refine ev_iload_n dL_law_316 rfl rfl ?_
              refine ev_iconst dL_law_317 (v := (4 : Int32)) zci_4 ?_
              refine ev_iadd dL_law_318 rfl ?_
              obtain ⟨g33, h⟩ := zgd h
              refine ev_sld dL_law_319 (by rw [hsl]; exact zib_in g33) (x := sf (l3 + (4 : Int32)).toNatClampNeg) (by rw [hsf]) ?_
              refine ev_aload_n dL_law_320 rfl rfl ?_
              refine ev_iload_n dL_law_321 rfl rfl ?_
              refine ev_iconst dL_law_322 (v := (5 : Int32)) zci_5 ?_
              refine ev_iadd dL_law_323 rfl ?_
              obtain ⟨g34, h⟩ := zgd h
              refine ev_sld dL_law_324 (by rw [hsl]; exact zib_in g34) (x := sf (l3 + (5 : Int32)).toNatClampNeg) (by rw [hsf]) ?_
              refine ev_aload_n dL_law_325 rfl rfl ?_
              refine ev_iload_n dL_law_326 rfl rfl ?_
              refine ev_bipush dL_law_327 (v := (6 : Int32)) zcb_6 ?_
              refine ev_iadd dL_law_329 rfl ?_
              obtain ⟨g35, h⟩ := zgd h
              refine ev_sld dL_law_330 (by rw [hsl]; exact zib_in g35) (x := sf (l3 + (6 : Int32)).toNatClampNeg) (by rw [hsf]) ?_
              obtain ⟨p36, e37, h⟩ := zbd h
              refine ev_callV0 dL_law_331 zm11_feed zl_NineHeapsLaw_28 zi11_feed zv11_feed (zrcX hS) (As := [.int (sf (l3 + (1 : Int32)).toNatClampNeg), .int (sf (l3 + (2 : Int32)).toNatClampNeg), .int (sf (l3 + (3 : Int32)).toNatClampNeg), .int (sf (l3 + (4 : Int32)).toNatClampNeg), .int (sf (l3 + (5 : Int32)).toNatClampNeg), .int (sf (l3 + (6 : Int32)).toNatClampNeg)]) (rest := []) rfl rfl (Nat.le_of_ble_eq_true rfl) rfl (Nat.le_of_ble_eq_true rfl) (d' := 2) (by omega) (e11_feed hw hS (Nat.le_refl _) e37) (fun v μ1 q => ?_)
              obtain ⟨rfl, rfl⟩ := q
              refine ev_aload_n dL_law_334 rfl rfl ?_
              refine ev_aload_n dL_law_335 rfl rfl ?_
              refine ev_iload_n dL_law_336 rfl rfl ?_
              refine ev_iconst dL_law_337 (v := (1 : Int32)) zci_1 ?_
              refine ev_iadd dL_law_338 rfl ?_
              refine ev_sld dL_law_339 (by rw [hsl]; exact zib_in g30) (x := sf (l3 + (1 : Int32)).toNatClampNeg) (by rw [hsf]) ?_
              refine ev_aload_n dL_law_340 rfl rfl ?_
              refine ev_iload_n dL_law_341 rfl rfl ?_
              refine ev_iconst dL_law_342 (v := (2 : Int32)) zci_2 ?_
              refine ev_iadd dL_law_343 rfl ?_
              refine ev_sld dL_law_344 (by rw [hsl]; exact zib_in g31) (x := sf (l3 + (2 : Int32)).toNatClampNeg) (by rw [hsf]) ?_
              refine ev_aload_n dL_law_345 rfl rfl ?_
              refine ev_iload_n dL_law_346 rfl rfl ?_
              refine ev_iconst dL_law_347 (v := (3 : Int32)) zci_3 ?_
              refine ev_iadd dL_law_348 rfl ?_
              refine ev_sld dL_law_349 (by rw [hsl]; exact zib_in g32) (x := sf (l3 + (3 : Int32)).toNatClampNeg) (by rw [hsf]) ?_
              refine ev_aload_n dL_law_350 rfl rfl ?_
              refine ev_iload_n dL_law_351 rfl rfl ?_
              refine ev_iconst dL_law_352 (v := (4 : Int32)) zci_4 ?_
              refine ev_iadd dL_law_353 rfl ?_
              refine ev_sld dL_law_354 (by rw [hsl]; exact zib_in g33) (x := sf (l3 + (4 : Int32)).toNatClampNeg) (by rw [hsf]) ?_
              refine ev_aload_n dL_law_355 rfl rfl ?_
              refine ev_iload_n dL_law_356 rfl rfl ?_
              refine ev_iconst dL_law_357 (v := (5 : Int32)) zci_5 ?_
              refine ev_iadd dL_law_358 rfl ?_
              refine ev_sld dL_law_359 (by rw [hsl]; exact zib_in g34) (x := sf (l3 + (5 : Int32)).toNatClampNeg) (by rw [hsf]) ?_
              refine ev_aload_n dL_law_360 rfl rfl ?_
              refine ev_iload_n dL_law_361 rfl rfl ?_
              refine ev_bipush dL_law_362 (v := (6 : Int32)) zcb_6 ?_
              refine ev_iadd dL_law_364 rfl ?_
              refine ev_sld dL_law_365 (by rw [hsl]; exact zib_in g35) (x := sf (l3 + (6 : Int32)).toNatClampNeg) (by rw [hsf]) ?_
              obtain ⟨p38, e39, h⟩ := zbd h
              refine ev_callV0 dL_law_366 zm12_feed zl_NineHeapsLaw_32 zi12_feed zv12_feed (zrcM hS) (As := [.int (sf (l3 + (1 : Int32)).toNatClampNeg), .int (sf (l3 + (2 : Int32)).toNatClampNeg), .int (sf (l3 + (3 : Int32)).toNatClampNeg), .int (sf (l3 + (4 : Int32)).toNatClampNeg), .int (sf (l3 + (5 : Int32)).toNatClampNeg), .int (sf (l3 + (6 : Int32)).toNatClampNeg)]) (rest := [.int p36.1]) rfl rfl (Nat.le_of_ble_eq_true rfl) rfl (Nat.le_of_ble_eq_true rfl) (d' := 3) (by omega) (e12_feed hw hS (Nat.le_refl _) e39) (fun v μ1 q => ?_)
              obtain ⟨rfl, rfl⟩ := q
              refine ev_icmp_eq dL_law_369 (tgt := 1487) (by decide) (fun c40 => ?_) (fun c40 => ?_)
              · replace h := zit c40 h
                exact EV.mask [true, true, true, true] rfl (EV.more (eL_law_B1487 (bq := q) hsl hsf hw hd (fun l3' n' kd' I' R' h' => ih l3' n' kd' I' R' h') l3 n kd p38.2 R h) (Nat.le_refl _) (by omega) (by omega))
              · replace h := zif c40 h
                refine ev_iconst dL_law_372 (v := (0 : Int32)) zci_0 ?_
                obtain rfl := Option.some.inj h
                exact ev_end_i dL_law_373 rfl rfl ⟨rfl, rfl⟩
            · replace h := zif c29 h
              by_cases c41 : ((sf l3.toNatClampNeg) &&& (63 : Int32)) = (4 : Int32)
              · replace h := zit c41 h
                refine ev_tableIn dL_law_33 (by rw [c41]; decide) (by rw [c41]; decide) (off := 341) (by rw [c41]; rfl) (tgt := 374) (by decide) ?_
                refine ev_aload_n dL_law_374 rfl rfl ?_
                obtain ⟨p42, e43, h⟩ := zbd h
                refine ev_callVK (k2 := (q * 10 + 3)) (z2 := (q * 534 + 0)) dL_law_375 zm11_text zl_NineHeapsLaw_33 zi11_text zv11_text (zrcX hS) (As := []) (rest := []) rfl rfl (Nat.le_of_ble_eq_true rfl) rfl (Nat.le_of_ble_eq_true rfl) (d' := 137) (by omega) (e11_text hw hS (Nat.le_refl _) e43) (by omega) (by omega) (fun v μ1 q => ?_)
                obtain ⟨rfl, rfl⟩ := q
                obtain ⟨g44, h⟩ := zgd h
                have hS := zShB_sh g44
                refine ev_aload_n dL_law_378 rfl rfl ?_
                obtain ⟨p45, e46, h⟩ := zbd h
                refine ev_callV0 dL_law_379 zm12_text zl_NineHeapsLaw_37 zi12_text zv12_text (zrcM hS) (As := []) (rest := [.int p42.1]) rfl rfl (Nat.le_of_ble_eq_true rfl) rfl (Nat.le_of_ble_eq_true rfl) (d' := 5) (by omega) (e12_text hw hS (Nat.le_refl _) e46) (fun v μ1 q => ?_)
                obtain ⟨rfl, rfl⟩ := q
                refine ev_icmp_eq dL_law_382 (tgt := 1487) (by decide) (fun c47 => ?_) (fun c47 => ?_)
                · replace h := zit c47 h
                  exact EV.mask [true, true, true, true] rfl (EV.more (eL_law_B1487 (bq := q) hsl hsf hw hd (fun l3' n' kd' I' R' h' => ih l3' n' kd' I' R' h') l3 p42.2.1.1 p42.2.1.2 p45.2 p42.2.2.2 h) (Nat.le_refl _) (by omega) (by omega))
                · replace h := zif c47 h
                  refine ev_iconst dL_law_385 (v := (0 : Int32)) zci_0 ?_
                  obtain rfl := Option.some.inj h
                  exact ev_end_i dL_law_386 rfl rfl ⟨rfl, rfl⟩
              · replace h := zif c41 h
                by_cases c48 : ((sf l3.toNatClampNeg) &&& (63 : Int32)) = (5 : Int32)
                · replace h := zit c48 h
                  refine ev_tableIn dL_law_33 (by rw [c48]; decide) (by rw [c48]; decide) (off := 354) (by rw [c48]; rfl) (tgt := 387) (by decide) ?_
                  refine ev_aload_n dL_law_387 rfl rfl ?_
                  refine ev_aload_n dL_law_388 rfl rfl ?_
                  refine ev_iload_n dL_law_389 rfl rfl ?_
                  refine ev_iconst dL_law_390 (v := (1 : Int32)) zci_1 ?_
                  refine ev_iadd dL_law_391 rfl ?_
                  obtain ⟨g49, h⟩ := zgd h
                  refine ev_sld dL_law_392 (by rw [hsl]; exact zib_in g49) (x := sf (l3 + (1 : Int32)).toNatClampNeg) (by rw [hsf]) ?_
                  obtain ⟨p50, e51, h⟩ := zbd h
                  refine ev_callV0 dL_law_393 zm11_force zl_NineHeapsLaw_38 zi11_force zv11_force (zrcX hS) (As := [.int (sf (l3 + (1 : Int32)).toNatClampNeg)]) (rest := []) rfl rfl (Nat.le_of_ble_eq_true rfl) rfl (Nat.le_of_ble_eq_true rfl) (d' := 1) (by omega) (e11_force hw hS (Nat.le_refl _) e51) (fun v μ1 q => ?_)
                  obtain ⟨rfl, rfl⟩ := q
                  refine ev_aload_n dL_law_396 rfl rfl ?_
                  refine ev_aload_n dL_law_397 rfl rfl ?_
                  refine ev_iload_n dL_law_398 rfl rfl ?_
                  refine ev_iconst dL_law_399 (v := (1 : Int32)) zci_1 ?_
                  refine ev_iadd dL_law_400 rfl ?_
                  refine ev_sld dL_law_401 (by rw [hsl]; exact zib_in g49) (x := sf (l3 + (1 : Int32)).toNatClampNeg) (by rw [hsf]) ?_
                  obtain ⟨p52, e53, h⟩ := zbd h
                  refine ev_callV0 dL_law_402 zm12_force zl_NineHeapsLaw_41 zi12_force zv12_force (zrcM hS) (As := [.int (sf (l3 + (1 : Int32)).toNatClampNeg)]) (rest := [.int p50.1]) rfl rfl (Nat.le_of_ble_eq_true rfl) rfl (Nat.le_of_ble_eq_true rfl) (d' := 2) (by omega) (e12_force hw hS (Nat.le_refl _) e53) (fun v μ1 q => ?_)
                  obtain ⟨rfl, rfl⟩ := q
                  refine ev_icmp_eq dL_law_405 (tgt := 1487) (by decide) (fun c54 => ?_) (fun c54 => ?_)
                  · replace h := zit c54 h
                    exact EV.mask [true, true, true, true] rfl (EV.more (eL_law_B1487 (bq := q) hsl hsf hw hd (fun l3' n' kd' I' R' h' => ih l3' n' kd' I' R' h') l3 n kd p52.2 R h) (Nat.le_refl _) (by omega) (by omega))
                  · replace h := zif c54 h
                    refine ev_iconst dL_law_408 (v := (0 : Int32)) zci_0 ?_
                    obtain rfl := Option.some.inj h
                    exact ev_end_i dL_law_409 rfl rfl ⟨rfl, rfl⟩
                · replace h := zif c48 h
                  by_cases c55 : ((sf l3.toNatClampNeg) &&& (63 : Int32)) = (6 : Int32)
                  · replace h := zit c55 h
                    refine ev_tableIn dL_law_33 (by rw [c55]; decide) (by rw [c55]; decide) (off := 377) (by rw [c55]; rfl) (tgt := 410) (by decide) ?_
                    refine ev_aload_n dL_law_410 rfl rfl ?_
                    refine ev_aload_n dL_law_411 rfl rfl ?_
                    refine ev_iload_n dL_law_412 rfl rfl ?_
                    refine ev_iconst dL_law_413 (v := (1 : Int32)) zci_1 ?_
                    refine ev_iadd dL_law_414 rfl ?_
                    obtain ⟨g56, h⟩ := zgd h
                    refine ev_sld dL_law_415 (by rw [hsl]; exact zib_in g56) (x := sf (l3 + (1 : Int32)).toNatClampNeg) (by rw [hsf]) ?_
                    refine ev_aload_n dL_law_416 rfl rfl ?_
                    refine ev_iload_n dL_law_417 rfl rfl ?_
                    refine ev_iconst dL_law_418 (v := (2 : Int32)) zci_2 ?_
                    refine ev_iadd dL_law_419 rfl ?_
                    obtain ⟨g57, h⟩ := zgd h
                    refine ev_sld dL_law_420 (by rw [hsl]; exact zib_in g57) (x := sf (l3 + (2 : Int32)).toNatClampNeg) (by rw [hsf]) ?_
                    refine ev_aload_n dL_law_421 rfl rfl ?_
                    refine ev_iload_n dL_law_422 rfl rfl ?_
                    refine ev_iconst dL_law_423 (v := (3 : Int32)) zci_3 ?_
                    refine ev_iadd dL_law_424 rfl ?_
                    obtain ⟨g58, h⟩ := zgd h
                    refine ev_sld dL_law_425 (by rw [hsl]; exact zib_in g58) (x := sf (l3 + (3 : Int32)).toNatClampNeg) (by rw [hsf]) ?_
                    obtain ⟨p59, e60, h⟩ := zbd h
                    refine ev_callV0 dL_law_426 zm11_asks zl_NineHeapsLaw_42 zi11_asks zv11_asks (zrcX hS) (As := [.int (sf (l3 + (1 : Int32)).toNatClampNeg), .int (sf (l3 + (2 : Int32)).toNatClampNeg), .int (sf (l3 + (3 : Int32)).toNatClampNeg)]) (rest := []) rfl rfl (Nat.le_of_ble_eq_true rfl) rfl (Nat.le_of_ble_eq_true rfl) (d' := 4) (by omega) (e11_asks hw hS (Nat.le_refl _) e60) (fun v μ1 q => ?_)
                    obtain ⟨rfl, rfl⟩ := q
                    refine ev_aload_n dL_law_429 rfl rfl ?_
                    refine ev_aload_n dL_law_430 rfl rfl ?_
                    refine ev_iload_n dL_law_431 rfl rfl ?_
                    refine ev_iconst dL_law_432 (v := (1 : Int32)) zci_1 ?_
                    refine ev_iadd dL_law_433 rfl ?_
                    refine ev_sld dL_law_434 (by rw [hsl]; exact zib_in g56) (x := sf (l3 + (1 : Int32)).toNatClampNeg) (by rw [hsf]) ?_
                    refine ev_aload_n dL_law_435 rfl rfl ?_
                    refine ev_iload_n dL_law_436 rfl rfl ?_
                    refine ev_iconst dL_law_437 (v := (2 : Int32)) zci_2 ?_
                    refine ev_iadd dL_law_438 rfl ?_
                    refine ev_sld dL_law_439 (by rw [hsl]; exact zib_in g57) (x := sf (l3 + (2 : Int32)).toNatClampNeg) (by rw [hsf]) ?_
                    refine ev_aload_n dL_law_440 rfl rfl ?_
                    refine ev_iload_n dL_law_441 rfl rfl ?_
                    refine ev_iconst dL_law_442 (v := (3 : Int32)) zci_3 ?_
                    refine ev_iadd dL_law_443 rfl ?_
                    refine ev_sld dL_law_444 (by rw [hsl]; exact zib_in g58) (x := sf (l3 + (3 : Int32)).toNatClampNeg) (by rw [hsf]) ?_
                    obtain ⟨p61, e62, h⟩ := zbd h
                    refine ev_callV0 dL_law_445 zm12_asks zl_NineHeapsLaw_45 zi12_asks zv12_asks (zrcM hS) (As := [.int (sf (l3 + (1 : Int32)).toNatClampNeg), .int (sf (l3 + (2 : Int32)).toNatClampNeg), .int (sf (l3 + (3 : Int32)).toNatClampNeg)]) (rest := [.int p59.1]) rfl rfl (Nat.le_of_ble_eq_true rfl) rfl (Nat.le_of_ble_eq_true rfl) (d' := 4) (by omega) (e12_asks hw hS (Nat.le_refl _) e62) (fun v μ1 q => ?_)
                    obtain ⟨rfl, rfl⟩ := q
                    refine ev_icmp_eq dL_law_448 (tgt := 1487) (by decide) (fun c63 => ?_) (fun c63 => ?_)
                    · replace h := zit c63 h
                      exact EV.mask [true, true, true, true] rfl (EV.more (eL_law_B1487 (bq := q) hsl hsf hw hd (fun l3' n' kd' I' R' h' => ih l3' n' kd' I' R' h') l3 n kd p61.2 R h) (Nat.le_refl _) (by omega) (by omega))
                    · replace h := zif c63 h
                      refine ev_iconst dL_law_451 (v := (0 : Int32)) zci_0 ?_
                      obtain rfl := Option.some.inj h
                      exact ev_end_i dL_law_452 rfl rfl ⟨rfl, rfl⟩
                  · replace h := zif c55 h
                    by_cases c64 : ((sf l3.toNatClampNeg) &&& (63 : Int32)) = (7 : Int32)
                    · replace h := zit c64 h
                      refine ev_tableIn dL_law_33 (by rw [c64]; decide) (by rw [c64]; decide) (off := 420) (by rw [c64]; rfl) (tgt := 453) (by decide) ?_
                      refine ev_aload_n dL_law_453 rfl rfl ?_
                      refine ev_aload_n dL_law_454 rfl rfl ?_
                      refine ev_iload_n dL_law_455 rfl rfl ?_
                      refine ev_iconst dL_law_456 (v := (1 : Int32)) zci_1 ?_
                      refine ev_iadd dL_law_457 rfl ?_
                      obtain ⟨g65, h⟩ := zgd h
                      refine ev_sld dL_law_458 (by rw [hsl]; exact zib_in g65) (x := sf (l3 + (1 : Int32)).toNatClampNeg) (by rw [hsf]) ?_
                      refine ev_aload_n dL_law_459 rfl rfl ?_
                      refine ev_iload_n dL_law_460 rfl rfl ?_
                      refine ev_iconst dL_law_461 (v := (2 : Int32)) zci_2 ?_
                      refine ev_iadd dL_law_462 rfl ?_
                      obtain ⟨g66, h⟩ := zgd h
                      refine ev_sld dL_law_463 (by rw [hsl]; exact zib_in g66) (x := sf (l3 + (2 : Int32)).toNatClampNeg) (by rw [hsf]) ?_
                      refine ev_aload_n dL_law_464 rfl rfl ?_
                      refine ev_iload_n dL_law_465 rfl rfl ?_
                      refine ev_iconst dL_law_466 (v := (3 : Int32)) zci_3 ?_
                      refine ev_iadd dL_law_467 rfl ?_
                      obtain ⟨g67, h⟩ := zgd h
                      refine ev_sld dL_law_468 (by rw [hsl]; exact zib_in g67) (x := sf (l3 + (3 : Int32)).toNatClampNeg) (by rw [hsf]) ?_
                      obtain ⟨p68, e69, h⟩ := zbd h
                      refine ev_callVK (k2 := (q * 10 + 9)) (z2 := (q * 534 + 523)) dL_law_469 zm11_walker zl_NineHeapsLaw_46 zi11_walker zv11_walker (zrcX hS) (As := [.int (sf (l3 + (1 : Int32)).toNatClampNeg), .int (sf (l3 + (2 : Int32)).toNatClampNeg), .int (sf (l3 + (3 : Int32)).toNatClampNeg)]) (rest := []) rfl rfl (Nat.le_of_ble_eq_true rfl) rfl (Nat.le_of_ble_eq_true rfl) (d' := 6) (by omega) (e11_walker hw hS (Nat.le_refl _) e69) (by omega) (by omega) (fun v μ1 q => ?_)
                      obtain ⟨rfl, rfl⟩ := q
                      obtain ⟨g70, h⟩ := zgd h
                      have hS := zShB_sh g70
                      refine ev_aload_n dL_law_472 rfl rfl ?_
                      refine ev_aload_n dL_law_473 rfl rfl ?_
                      refine ev_iload_n dL_law_474 rfl rfl ?_
                      refine ev_iconst dL_law_475 (v := (1 : Int32)) zci_1 ?_
                      refine ev_iadd dL_law_476 rfl ?_
                      refine ev_sld dL_law_477 (by rw [hsl]; exact zib_in g65) (x := sf (l3 + (1 : Int32)).toNatClampNeg) (by rw [hsf]) ?_
                      refine ev_aload_n dL_law_478 rfl rfl ?_
                      refine ev_iload_n dL_law_479 rfl rfl ?_
                      refine ev_iconst dL_law_480 (v := (2 : Int32)) zci_2 ?_
                      refine ev_iadd dL_law_481 rfl ?_
                      refine ev_sld dL_law_482 (by rw [hsl]; exact zib_in g66) (x := sf (l3 + (2 : Int32)).toNatClampNeg) (by rw [hsf]) ?_
                      refine ev_aload_n dL_law_483 rfl rfl ?_
                      refine ev_iload_n dL_law_484 rfl rfl ?_
                      refine ev_iconst dL_law_485 (v := (3 : Int32)) zci_3 ?_
                      refine ev_iadd dL_law_486 rfl ?_
                      refine ev_sld dL_law_487 (by rw [hsl]; exact zib_in g67) (x := sf (l3 + (3 : Int32)).toNatClampNeg) (by rw [hsf]) ?_
                      obtain ⟨p71, e72, h⟩ := zbd h
                      refine ev_callV0 dL_law_488 zm12_walker zl_NineHeapsLaw_49 zi12_walker zv12_walker (zrcM hS) (As := [.int (sf (l3 + (1 : Int32)).toNatClampNeg), .int (sf (l3 + (2 : Int32)).toNatClampNeg), .int (sf (l3 + (3 : Int32)).toNatClampNeg)]) (rest := [.int p68.1]) rfl rfl (Nat.le_of_ble_eq_true rfl) rfl (Nat.le_of_ble_eq_true rfl) (d' := 3) (by omega) (e12_walker hw hS (Nat.le_refl _) e72) (fun v μ1 q => ?_)
                      obtain ⟨rfl, rfl⟩ := q
                      refine ev_icmp_eq dL_law_491 (tgt := 1487) (by decide) (fun c73 => ?_) (fun c73 => ?_)
                      · replace h := zit c73 h
                        exact EV.mask [true, true, true, true] rfl (EV.more (eL_law_B1487 (bq := q) hsl hsf hw hd (fun l3' n' kd' I' R' h' => ih l3' n' kd' I' R' h') l3 p68.2.1.1 p68.2.1.2 p71.2 p68.2.2.2 h) (Nat.le_refl _) (by omega) (by omega))
                      · replace h := zif c73 h
                        refine ev_iconst dL_law_494 (v := (0 : Int32)) zci_0 ?_
                        obtain rfl := Option.some.inj h
                        exact ev_end_i dL_law_495 rfl rfl ⟨rfl, rfl⟩
                    · replace h := zif c64 h
                      by_cases c74 : ((sf l3.toNatClampNeg) &&& (63 : Int32)) = (8 : Int32)
                      · replace h := zit c74 h
                        refine ev_tableIn dL_law_33 (by rw [c74]; decide) (by rw [c74]; decide) (off := 463) (by rw [c74]; rfl) (tgt := 496) (by decide) ?_
                        refine ev_aload_n dL_law_496 rfl rfl ?_
                        refine ev_aload_n dL_law_497 rfl rfl ?_
                        refine ev_iload_n dL_law_498 rfl rfl ?_
                        refine ev_iconst dL_law_499 (v := (1 : Int32)) zci_1 ?_
                        refine ev_iadd dL_law_500 rfl ?_
                        obtain ⟨g75, h⟩ := zgd h
                        refine ev_sld dL_law_501 (by rw [hsl]; exact zib_in g75) (x := sf (l3 + (1 : Int32)).toNatClampNeg) (by rw [hsf]) ?_
                        refine ev_aload_n dL_law_502 rfl rfl ?_
                        refine ev_iload_n dL_law_503 rfl rfl ?_
                        refine ev_iconst dL_law_504 (v := (2 : Int32)) zci_2 ?_
                        refine ev_iadd dL_law_505 rfl ?_
                        obtain ⟨g76, h⟩ := zgd h
                        refine ev_sld dL_law_506 (by rw [hsl]; exact zib_in g76) (x := sf (l3 + (2 : Int32)).toNatClampNeg) (by rw [hsf]) ?_
                        obtain ⟨p77, e78, h⟩ := zbd h
                        refine ev_callV0 dL_law_507 zm11_begin zl_NineHeapsLaw_50 zi11_begin zv11_begin (zrcX hS) (As := [.int (sf (l3 + (1 : Int32)).toNatClampNeg), .int (sf (l3 + (2 : Int32)).toNatClampNeg)]) (rest := []) rfl rfl (Nat.le_of_ble_eq_true rfl) rfl (Nat.le_of_ble_eq_true rfl) (d' := 2) (by omega) (e11_begin hw hS (Nat.le_refl _) e78) (fun v μ1 q => ?_)
                        obtain ⟨rfl, rfl⟩ := q
                        refine ev_aload_n dL_law_510 rfl rfl ?_
                        refine ev_aload_n dL_law_511 rfl rfl ?_
                        refine ev_iload_n dL_law_512 rfl rfl ?_
                        refine ev_iconst dL_law_513 (v := (1 : Int32)) zci_1 ?_
                        refine ev_iadd dL_law_514 rfl ?_
                        refine ev_sld dL_law_515 (by rw [hsl]; exact zib_in g75) (x := sf (l3 + (1 : Int32)).toNatClampNeg) (by rw [hsf]) ?_
                        refine ev_aload_n dL_law_516 rfl rfl ?_
                        refine ev_iload_n dL_law_517 rfl rfl ?_
                        refine ev_iconst dL_law_518 (v := (2 : Int32)) zci_2 ?_
                        refine ev_iadd dL_law_519 rfl ?_
                        refine ev_sld dL_law_520 (by rw [hsl]; exact zib_in g76) (x := sf (l3 + (2 : Int32)).toNatClampNeg) (by rw [hsf]) ?_
                        obtain ⟨p79, e80, h⟩ := zbd h
                        refine ev_callV0 dL_law_521 zm12_begin zl_NineHeapsLaw_53 zi12_begin zv12_begin (zrcM hS) (As := [.int (sf (l3 + (1 : Int32)).toNatClampNeg), .int (sf (l3 + (2 : Int32)).toNatClampNeg)]) (rest := [.int p77.1]) rfl rfl (Nat.le_of_ble_eq_true rfl) rfl (Nat.le_of_ble_eq_true rfl) (d' := 3) (by omega) (e12_begin hw hS (Nat.le_refl _) e80) (fun v μ1 q => ?_)
                        obtain ⟨rfl, rfl⟩ := q
                        refine ev_icmp_eq dL_law_524 (tgt := 1487) (by decide) (fun c81 => ?_) (fun c81 => ?_)
                        · replace h := zit c81 h
                          exact EV.mask [true, true, true, true] rfl (EV.more (eL_law_B1487 (bq := q) hsl hsf hw hd (fun l3' n' kd' I' R' h' => ih l3' n' kd' I' R' h') l3 n kd p79.2 R h) (Nat.le_refl _) (by omega) (by omega))
                        · replace h := zif c81 h
                          refine ev_iconst dL_law_527 (v := (0 : Int32)) zci_0 ?_
                          obtain rfl := Option.some.inj h
                          exact ev_end_i dL_law_528 rfl rfl ⟨rfl, rfl⟩
                      · replace h := zif c74 h
                        by_cases c82 : ((sf l3.toNatClampNeg) &&& (63 : Int32)) = (9 : Int32)
                        · replace h := zit c82 h
                          refine ev_tableIn dL_law_33 (by rw [c82]; decide) (by rw [c82]; decide) (off := 496) (by rw [c82]; rfl) (tgt := 529) (by decide) ?_
                          refine ev_aload_n dL_law_529 rfl rfl ?_
                          refine ev_aload_n dL_law_530 rfl rfl ?_
                          refine ev_iload_n dL_law_531 rfl rfl ?_
                          refine ev_iconst dL_law_532 (v := (1 : Int32)) zci_1 ?_
                          refine ev_iadd dL_law_533 rfl ?_
                          obtain ⟨g83, h⟩ := zgd h
                          refine ev_sld dL_law_534 (by rw [hsl]; exact zib_in g83) (x := sf (l3 + (1 : Int32)).toNatClampNeg) (by rw [hsf]) ?_
                          refine ev_aload_n dL_law_535 rfl rfl ?_
                          refine ev_iload_n dL_law_536 rfl rfl ?_
                          refine ev_iconst dL_law_537 (v := (2 : Int32)) zci_2 ?_
                          refine ev_iadd dL_law_538 rfl ?_
                          obtain ⟨g84, h⟩ := zgd h
                          refine ev_sld dL_law_539 (by rw [hsl]; exact zib_in g84) (x := sf (l3 + (2 : Int32)).toNatClampNeg) (by rw [hsf]) ?_
                          obtain ⟨p85, e86, h⟩ := zbd h
                          refine ev_callV0 dL_law_540 zm11_told zl_NineHeapsLaw_54 zi11_told zv11_told (zrcX hS) (As := [.int (sf (l3 + (1 : Int32)).toNatClampNeg), .int (sf (l3 + (2 : Int32)).toNatClampNeg)]) (rest := []) rfl rfl (Nat.le_of_ble_eq_true rfl) rfl (Nat.le_of_ble_eq_true rfl) (d' := 4) (by omega) (e11_told hw hS (Nat.le_refl _) e86) (fun v μ1 q => ?_)
                          obtain ⟨rfl, rfl⟩ := q
                          refine ev_aload_n dL_law_543 rfl rfl ?_
                          refine ev_aload_n dL_law_544 rfl rfl ?_
                          refine ev_iload_n dL_law_545 rfl rfl ?_
                          refine ev_iconst dL_law_546 (v := (1 : Int32)) zci_1 ?_
                          refine ev_iadd dL_law_547 rfl ?_
                          refine ev_sld dL_law_548 (by rw [hsl]; exact zib_in g83) (x := sf (l3 + (1 : Int32)).toNatClampNeg) (by rw [hsf]) ?_
                          refine ev_aload_n dL_law_549 rfl rfl ?_
                          refine ev_iload_n dL_law_550 rfl rfl ?_
                          refine ev_iconst dL_law_551 (v := (2 : Int32)) zci_2 ?_
                          refine ev_iadd dL_law_552 rfl ?_
                          refine ev_sld dL_law_553 (by rw [hsl]; exact zib_in g84) (x := sf (l3 + (2 : Int32)).toNatClampNeg) (by rw [hsf]) ?_
                          obtain ⟨p87, e88, h⟩ := zbd h
                          refine ev_callV0 dL_law_554 zm12_told zl_NineHeapsLaw_57 zi12_told zv12_told (zrcM hS) (As := [.int (sf (l3 + (1 : Int32)).toNatClampNeg), .int (sf (l3 + (2 : Int32)).toNatClampNeg)]) (rest := [.int p85]) rfl rfl (Nat.le_of_ble_eq_true rfl) rfl (Nat.le_of_ble_eq_true rfl) (d' := 3) (by omega) (e12_told hw hS (Nat.le_refl _) e88) (fun v μ1 q => ?_)
                          obtain ⟨rfl, rfl⟩ := q
                          refine ev_icmp_eq dL_law_557 (tgt := 1487) (by decide) (fun c89 => ?_) (fun c89 => ?_)
                          · replace h := zit c89 h
                            exact EV.mask [true, true, true, true] rfl (EV.more (eL_law_B1487 (bq := q) hsl hsf hw hd (fun l3' n' kd' I' R' h' => ih l3' n' kd' I' R' h') l3 n kd I R h) (Nat.le_refl _) (by omega) (by omega))
                          · replace h := zif c89 h
                            refine ev_iconst dL_law_560 (v := (0 : Int32)) zci_0 ?_
                            obtain rfl := Option.some.inj h
                            exact ev_end_i dL_law_561 rfl rfl ⟨rfl, rfl⟩
                        · replace h := zif c82 h
                          by_cases c90 : ((sf l3.toNatClampNeg) &&& (63 : Int32)) = (10 : Int32)
                          · replace h := zit c90 h
                            refine ev_tableIn dL_law_33 (by rw [c90]; decide) (by rw [c90]; decide) (off := 529) (by rw [c90]; rfl) (tgt := 562) (by decide) ?_
                            refine ev_aload_n dL_law_562 rfl rfl ?_
                            refine ev_aload_n dL_law_563 rfl rfl ?_
                            refine ev_iload_n dL_law_564 rfl rfl ?_
                            refine ev_iconst dL_law_565 (v := (1 : Int32)) zci_1 ?_
                            refine ev_iadd dL_law_566 rfl ?_
                            obtain ⟨g91, h⟩ := zgd h
                            refine ev_sld dL_law_567 (by rw [hsl]; exact zib_in g91) (x := sf (l3 + (1 : Int32)).toNatClampNeg) (by rw [hsf]) ?_
                            refine ev_aload_n dL_law_568 rfl rfl ?_
                            refine ev_iload_n dL_law_569 rfl rfl ?_
                            refine ev_iconst dL_law_570 (v := (2 : Int32)) zci_2 ?_
                            refine ev_iadd dL_law_571 rfl ?_
                            obtain ⟨g92, h⟩ := zgd h
                            refine ev_sld dL_law_572 (by rw [hsl]; exact zib_in g92) (x := sf (l3 + (2 : Int32)).toNatClampNeg) (by rw [hsf]) ?_
                            obtain ⟨p93, e94, h⟩ := zbd h
                            refine ev_callV0 dL_law_573 zm11_run zl_NineHeapsLaw_58 zi11_run zv11_run (zrcX hS) (As := [.int (sf (l3 + (1 : Int32)).toNatClampNeg), .int (sf (l3 + (2 : Int32)).toNatClampNeg)]) (rest := []) rfl rfl (Nat.le_of_ble_eq_true rfl) rfl (Nat.le_of_ble_eq_true rfl) (d' := 8) (by omega) (e11_run hw hS (Nat.le_refl _) e94) (fun v μ1 q => ?_)
                            obtain ⟨rfl, rfl⟩ := q
                            refine ev_aload_n dL_law_576 rfl rfl ?_
                            refine ev_aload_n dL_law_577 rfl rfl ?_
                            refine ev_iload_n dL_law_578 rfl rfl ?_
                            refine ev_iconst dL_law_579 (v := (1 : Int32)) zci_1 ?_
                            refine ev_iadd dL_law_580 rfl ?_
                            refine ev_sld dL_law_581 (by rw [hsl]; exact zib_in g91) (x := sf (l3 + (1 : Int32)).toNatClampNeg) (by rw [hsf]) ?_
                            refine ev_aload_n dL_law_582 rfl rfl ?_
                            refine ev_iload_n dL_law_583 rfl rfl ?_
                            refine ev_iconst dL_law_584 (v := (2 : Int32)) zci_2 ?_
                            refine ev_iadd dL_law_585 rfl ?_
                            refine ev_sld dL_law_586 (by rw [hsl]; exact zib_in g92) (x := sf (l3 + (2 : Int32)).toNatClampNeg) (by rw [hsf]) ?_
                            obtain ⟨p95, e96, h⟩ := zbd h
                            refine ev_callV0 dL_law_587 zm12_run zl_NineHeapsLaw_61 zi12_run zv12_run (zrcM hS) (As := [.int (sf (l3 + (1 : Int32)).toNatClampNeg), .int (sf (l3 + (2 : Int32)).toNatClampNeg)]) (rest := [.int p93.1]) rfl rfl (Nat.le_of_ble_eq_true rfl) rfl (Nat.le_of_ble_eq_true rfl) (d' := 9) (by omega) (e12_run hw hS (Nat.le_refl _) e96) (fun v μ1 q => ?_)
                            obtain ⟨rfl, rfl⟩ := q
                            refine ev_icmp_eq dL_law_590 (tgt := 1487) (by decide) (fun c97 => ?_) (fun c97 => ?_)
                            · replace h := zit c97 h
                              exact EV.mask [true, true, true, true] rfl (EV.more (eL_law_B1487 (bq := q) hsl hsf hw hd (fun l3' n' kd' I' R' h' => ih l3' n' kd' I' R' h') l3 n kd p95.2 p93.2.2 h) (Nat.le_refl _) (by omega) (by omega))
                            · replace h := zif c97 h
                              refine ev_iconst dL_law_593 (v := (0 : Int32)) zci_0 ?_
                              obtain rfl := Option.some.inj h
                              exact ev_end_i dL_law_594 rfl rfl ⟨rfl, rfl⟩
                          · replace h := zif c90 h
                            by_cases c98 : ((sf l3.toNatClampNeg) &&& (63 : Int32)) = (11 : Int32)
                            · replace h := zit c98 h
                              refine ev_tableIn dL_law_33 (by rw [c98]; decide) (by rw [c98]; decide) (off := 562) (by rw [c98]; rfl) (tgt := 595) (by decide) ?_
                              refine ev_aload_n dL_law_595 rfl rfl ?_
                              refine ev_aload_n dL_law_596 rfl rfl ?_
                              refine ev_iload_n dL_law_597 rfl rfl ?_
                              refine ev_iconst dL_law_598 (v := (1 : Int32)) zci_1 ?_
                              refine ev_iadd dL_law_599 rfl ?_
                              obtain ⟨g99, h⟩ := zgd h
                              refine ev_sld dL_law_600 (by rw [hsl]; exact zib_in g99) (x := sf (l3 + (1 : Int32)).toNatClampNeg) (by rw [hsf]) ?_
                              refine ev_aload_n dL_law_601 rfl rfl ?_
                              refine ev_iload_n dL_law_602 rfl rfl ?_
                              refine ev_iconst dL_law_603 (v := (2 : Int32)) zci_2 ?_
                              refine ev_iadd dL_law_604 rfl ?_
                              obtain ⟨g100, h⟩ := zgd h
                              refine ev_sld dL_law_605 (by rw [hsl]; exact zib_in g100) (x := sf (l3 + (2 : Int32)).toNatClampNeg) (by rw [hsf]) ?_
                              refine ev_aload_n dL_law_606 rfl rfl ?_
                              refine ev_iload_n dL_law_607 rfl rfl ?_
                              refine ev_iconst dL_law_608 (v := (3 : Int32)) zci_3 ?_
                              refine ev_iadd dL_law_609 rfl ?_
                              obtain ⟨g101, h⟩ := zgd h
                              refine ev_sld dL_law_610 (by rw [hsl]; exact zib_in g101) (x := sf (l3 + (3 : Int32)).toNatClampNeg) (by rw [hsf]) ?_
                              obtain ⟨p102, e103, h⟩ := zbd h
                              refine ev_callV0 dL_law_611 zm11_one zl_NineHeapsLaw_62 zi11_one zv11_one (zrcX hS) (As := [.int (sf (l3 + (1 : Int32)).toNatClampNeg), .int (sf (l3 + (2 : Int32)).toNatClampNeg), .int (sf (l3 + (3 : Int32)).toNatClampNeg)]) (rest := []) rfl rfl (Nat.le_of_ble_eq_true rfl) rfl (Nat.le_of_ble_eq_true rfl) (d' := 8) (by omega) (e11_one hw hS (Nat.le_refl _) e103) (fun v μ1 q => ?_)
                              obtain ⟨rfl, rfl⟩ := q
                              refine ev_aload_n dL_law_614 rfl rfl ?_
                              refine ev_aload_n dL_law_615 rfl rfl ?_
                              refine ev_iload_n dL_law_616 rfl rfl ?_
                              refine ev_iconst dL_law_617 (v := (1 : Int32)) zci_1 ?_
                              refine ev_iadd dL_law_618 rfl ?_
                              refine ev_sld dL_law_619 (by rw [hsl]; exact zib_in g99) (x := sf (l3 + (1 : Int32)).toNatClampNeg) (by rw [hsf]) ?_
                              refine ev_aload_n dL_law_620 rfl rfl ?_
                              refine ev_iload_n dL_law_621 rfl rfl ?_
                              refine ev_iconst dL_law_622 (v := (2 : Int32)) zci_2 ?_
                              refine ev_iadd dL_law_623 rfl ?_
                              refine ev_sld dL_law_624 (by rw [hsl]; exact zib_in g100) (x := sf (l3 + (2 : Int32)).toNatClampNeg) (by rw [hsf]) ?_
                              refine ev_aload_n dL_law_625 rfl rfl ?_
                              refine ev_iload_n dL_law_626 rfl rfl ?_
                              refine ev_iconst dL_law_627 (v := (3 : Int32)) zci_3 ?_
                              refine ev_iadd dL_law_628 rfl ?_
                              refine ev_sld dL_law_629 (by rw [hsl]; exact zib_in g101) (x := sf (l3 + (3 : Int32)).toNatClampNeg) (by rw [hsf]) ?_
                              obtain ⟨p104, e105, h⟩ := zbd h
                              refine ev_callV0 dL_law_630 zm12_one zl_NineHeapsLaw_65 zi12_one zv12_one (zrcM hS) (As := [.int (sf (l3 + (1 : Int32)).toNatClampNeg), .int (sf (l3 + (2 : Int32)).toNatClampNeg), .int (sf (l3 + (3 : Int32)).toNatClampNeg)]) (rest := [.int p102.1]) rfl rfl (Nat.le_of_ble_eq_true rfl) rfl (Nat.le_of_ble_eq_true rfl) (d' := 9) (by omega) (e12_one hw hS (Nat.le_refl _) e105) (fun v μ1 q => ?_)
                              obtain ⟨rfl, rfl⟩ := q
                              refine ev_icmp_eq dL_law_633 (tgt := 1487) (by decide) (fun c106 => ?_) (fun c106 => ?_)
                              · replace h := zit c106 h
                                exact EV.mask [true, true, true, true] rfl (EV.more (eL_law_B1487 (bq := q) hsl hsf hw hd (fun l3' n' kd' I' R' h' => ih l3' n' kd' I' R' h') l3 n kd p104.2 p102.2.2 h) (Nat.le_refl _) (by omega) (by omega))
                              · replace h := zif c106 h
                                refine ev_iconst dL_law_636 (v := (0 : Int32)) zci_0 ?_
                                obtain rfl := Option.some.inj h
                                exact ev_end_i dL_law_637 rfl rfl ⟨rfl, rfl⟩
                            · replace h := zif c98 h
                              by_cases c107 : ((sf l3.toNatClampNeg) &&& (63 : Int32)) = (12 : Int32)
                              · replace h := zit c107 h
                                refine ev_tableIn dL_law_33 (by rw [c107]; decide) (by rw [c107]; decide) (off := 605) (by rw [c107]; rfl) (tgt := 638) (by decide) ?_
                                refine ev_aload_n dL_law_638 rfl rfl ?_
                                refine ev_aload_n dL_law_639 rfl rfl ?_
                                refine ev_iload_n dL_law_640 rfl rfl ?_
                                refine ev_iconst dL_law_641 (v := (1 : Int32)) zci_1 ?_
                                refine ev_iadd dL_law_642 rfl ?_
                                obtain ⟨g108, h⟩ := zgd h
                                refine ev_sld dL_law_643 (by rw [hsl]; exact zib_in g108) (x := sf (l3 + (1 : Int32)).toNatClampNeg) (by rw [hsf]) ?_
                                refine ev_aload_n dL_law_644 rfl rfl ?_
                                refine ev_iload_n dL_law_645 rfl rfl ?_
                                refine ev_iconst dL_law_646 (v := (2 : Int32)) zci_2 ?_
                                refine ev_iadd dL_law_647 rfl ?_
                                obtain ⟨g109, h⟩ := zgd h
                                refine ev_sld dL_law_648 (by rw [hsl]; exact zib_in g109) (x := sf (l3 + (2 : Int32)).toNatClampNeg) (by rw [hsf]) ?_
                                refine ev_aload_n dL_law_649 rfl rfl ?_
                                refine ev_iload_n dL_law_650 rfl rfl ?_
                                refine ev_iconst dL_law_651 (v := (3 : Int32)) zci_3 ?_
                                refine ev_iadd dL_law_652 rfl ?_
                                obtain ⟨g110, h⟩ := zgd h
                                refine ev_sld dL_law_653 (by rw [hsl]; exact zib_in g110) (x := sf (l3 + (3 : Int32)).toNatClampNeg) (by rw [hsf]) ?_
                                obtain ⟨p111, e112, h⟩ := zbd h
                                refine ev_callV0 dL_law_654 zm11_height zl_NineHeapsLaw_66 zi11_height zv11_height (zrcX hS) (As := [.int (sf (l3 + (1 : Int32)).toNatClampNeg), .int (sf (l3 + (2 : Int32)).toNatClampNeg), .int (sf (l3 + (3 : Int32)).toNatClampNeg)]) (rest := []) rfl rfl (Nat.le_of_ble_eq_true rfl) rfl (Nat.le_of_ble_eq_true rfl) (d' := 8) (by omega) (e11_height hw hS (Nat.le_refl _) e112) (fun v μ1 q => ?_)
                                obtain ⟨rfl, rfl⟩ := q
                                refine ev_aload_n dL_law_657 rfl rfl ?_
                                refine ev_aload_n dL_law_658 rfl rfl ?_
                                refine ev_iload_n dL_law_659 rfl rfl ?_
                                refine ev_iconst dL_law_660 (v := (1 : Int32)) zci_1 ?_
                                refine ev_iadd dL_law_661 rfl ?_
                                refine ev_sld dL_law_662 (by rw [hsl]; exact zib_in g108) (x := sf (l3 + (1 : Int32)).toNatClampNeg) (by rw [hsf]) ?_
                                refine ev_aload_n dL_law_663 rfl rfl ?_
                                refine ev_iload_n dL_law_664 rfl rfl ?_
                                refine ev_iconst dL_law_665 (v := (2 : Int32)) zci_2 ?_
                                refine ev_iadd dL_law_666 rfl ?_
                                refine ev_sld dL_law_667 (by rw [hsl]; exact zib_in g109) (x := sf (l3 + (2 : Int32)).toNatClampNeg) (by rw [hsf]) ?_
                                refine ev_aload_n dL_law_668 rfl rfl ?_
                                refine ev_iload_n dL_law_669 rfl rfl ?_
                                refine ev_iconst dL_law_670 (v := (3 : Int32)) zci_3 ?_
                                refine ev_iadd dL_law_671 rfl ?_
                                refine ev_sld dL_law_672 (by rw [hsl]; exact zib_in g110) (x := sf (l3 + (3 : Int32)).toNatClampNeg) (by rw [hsf]) ?_
                                obtain ⟨p113, e114, h⟩ := zbd h
                                refine ev_callV0 dL_law_673 zm12_height zl_NineHeapsLaw_69 zi12_height zv12_height (zrcM hS) (As := [.int (sf (l3 + (1 : Int32)).toNatClampNeg), .int (sf (l3 + (2 : Int32)).toNatClampNeg), .int (sf (l3 + (3 : Int32)).toNatClampNeg)]) (rest := [.int p111.1]) rfl rfl (Nat.le_of_ble_eq_true rfl) rfl (Nat.le_of_ble_eq_true rfl) (d' := 9) (by omega) (e12_height hw hS (Nat.le_refl _) e114) (fun v μ1 q => ?_)
                                obtain ⟨rfl, rfl⟩ := q
                                refine ev_icmp_eq dL_law_676 (tgt := 1487) (by decide) (fun c115 => ?_) (fun c115 => ?_)
                                · replace h := zit c115 h
                                  exact EV.mask [true, true, true, true] rfl (EV.more (eL_law_B1487 (bq := q) hsl hsf hw hd (fun l3' n' kd' I' R' h' => ih l3' n' kd' I' R' h') l3 n kd p113.2 p111.2.2 h) (Nat.le_refl _) (by omega) (by omega))
                                · replace h := zif c115 h
                                  refine ev_iconst dL_law_679 (v := (0 : Int32)) zci_0 ?_
                                  obtain rfl := Option.some.inj h
                                  exact ev_end_i dL_law_680 rfl rfl ⟨rfl, rfl⟩
                              · replace h := zif c107 h
                                by_cases c116 : ((sf l3.toNatClampNeg) &&& (63 : Int32)) = (13 : Int32)
                                · replace h := zit c116 h
                                  refine ev_tableIn dL_law_33 (by rw [c116]; decide) (by rw [c116]; decide) (off := 648) (by rw [c116]; rfl) (tgt := 681) (by decide) ?_
                                  refine ev_aload_n dL_law_681 rfl rfl ?_
                                  refine ev_aload_n dL_law_682 rfl rfl ?_
                                  refine ev_iload_n dL_law_683 rfl rfl ?_
                                  refine ev_iconst dL_law_684 (v := (1 : Int32)) zci_1 ?_
                                  refine ev_iadd dL_law_685 rfl ?_
                                  obtain ⟨g117, h⟩ := zgd h
                                  refine ev_sld dL_law_686 (by rw [hsl]; exact zib_in g117) (x := sf (l3 + (1 : Int32)).toNatClampNeg) (by rw [hsf]) ?_
                                  obtain ⟨p118, e119, h⟩ := zbd h
                                  refine ev_callV0 dL_law_687 zm11_go zl_NineHeapsLaw_70 zi11_go zv11_go (zrcX hS) (As := [.int (sf (l3 + (1 : Int32)).toNatClampNeg)]) (rest := []) rfl rfl (Nat.le_of_ble_eq_true rfl) rfl (Nat.le_of_ble_eq_true rfl) (d' := 8) (by omega) (e11_go hw hS (Nat.le_refl _) e119) (fun v μ1 q => ?_)
                                  obtain ⟨rfl, rfl⟩ := q
                                  refine ev_aload_n dL_law_690 rfl rfl ?_
                                  refine ev_aload_n dL_law_691 rfl rfl ?_
                                  refine ev_iload_n dL_law_692 rfl rfl ?_
                                  refine ev_iconst dL_law_693 (v := (1 : Int32)) zci_1 ?_
                                  refine ev_iadd dL_law_694 rfl ?_
                                  refine ev_sld dL_law_695 (by rw [hsl]; exact zib_in g117) (x := sf (l3 + (1 : Int32)).toNatClampNeg) (by rw [hsf]) ?_
                                  obtain ⟨p120, e121, h⟩ := zbd h
                                  refine ev_callV0 dL_law_696 zm12_go zl_NineHeapsLaw_73 zi12_go zv12_go (zrcM hS) (As := [.int (sf (l3 + (1 : Int32)).toNatClampNeg)]) (rest := [.int p118.1]) rfl rfl (Nat.le_of_ble_eq_true rfl) rfl (Nat.le_of_ble_eq_true rfl) (d' := 9) (by omega) (e12_go hw hS (Nat.le_refl _) e121) (fun v μ1 q => ?_)
                                  obtain ⟨rfl, rfl⟩ := q
                                  refine ev_icmp_eq dL_law_699 (tgt := 1487) (by decide) (fun c122 => ?_) (fun c122 => ?_)
                                  · replace h := zit c122 h
                                    exact EV.mask [true, true, true, true] rfl (EV.more (eL_law_B1487 (bq := q) hsl hsf hw hd (fun l3' n' kd' I' R' h' => ih l3' n' kd' I' R' h') l3 n kd p120.2 p118.2.2 h) (Nat.le_refl _) (by omega) (by omega))
                                  · replace h := zif c122 h
                                    refine ev_iconst dL_law_702 (v := (0 : Int32)) zci_0 ?_
                                    obtain rfl := Option.some.inj h
                                    exact ev_end_i dL_law_703 rfl rfl ⟨rfl, rfl⟩
                                · replace h := zif c116 h
                                  by_cases c123 : ((sf l3.toNatClampNeg) &&& (63 : Int32)) = (14 : Int32)
                                  · replace h := zit c123 h
                                    refine ev_tableIn dL_law_33 (by rw [c123]; decide) (by rw [c123]; decide) (off := 671) (by rw [c123]; rfl) (tgt := 704) (by decide) ?_
                                    refine ev_aload_n dL_law_704 rfl rfl ?_
                                    refine ev_aload_n dL_law_705 rfl rfl ?_
                                    refine ev_iload_n dL_law_706 rfl rfl ?_
                                    refine ev_iconst dL_law_707 (v := (1 : Int32)) zci_1 ?_
                                    refine ev_iadd dL_law_708 rfl ?_
                                    obtain ⟨g124, h⟩ := zgd h
                                    refine ev_sld dL_law_709 (by rw [hsl]; exact zib_in g124) (x := sf (l3 + (1 : Int32)).toNatClampNeg) (by rw [hsf]) ?_
                                    obtain ⟨p125, e126, h⟩ := zbd h
                                    refine ev_callV0 dL_law_710 zm11_off zl_NineHeapsLaw_74 zi11_off zv11_off (zrcX hS) (As := [.int (sf (l3 + (1 : Int32)).toNatClampNeg)]) (rest := []) rfl rfl (Nat.le_of_ble_eq_true rfl) rfl (Nat.le_of_ble_eq_true rfl) (d' := 8) (by omega) (e11_off hw hS (Nat.le_refl _) e126) (fun v μ1 q => ?_)
                                    obtain ⟨rfl, rfl⟩ := q
                                    refine ev_aload_n dL_law_713 rfl rfl ?_
                                    refine ev_aload_n dL_law_714 rfl rfl ?_
                                    refine ev_iload_n dL_law_715 rfl rfl ?_
                                    refine ev_iconst dL_law_716 (v := (1 : Int32)) zci_1 ?_
                                    refine ev_iadd dL_law_717 rfl ?_
                                    refine ev_sld dL_law_718 (by rw [hsl]; exact zib_in g124) (x := sf (l3 + (1 : Int32)).toNatClampNeg) (by rw [hsf]) ?_
                                    obtain ⟨p127, e128, h⟩ := zbd h
                                    refine ev_callV0 dL_law_719 zm12_off zl_NineHeapsLaw_77 zi12_off zv12_off (zrcM hS) (As := [.int (sf (l3 + (1 : Int32)).toNatClampNeg)]) (rest := [.int p125.1]) rfl rfl (Nat.le_of_ble_eq_true rfl) rfl (Nat.le_of_ble_eq_true rfl) (d' := 9) (by omega) (e12_off hw hS (Nat.le_refl _) e128) (fun v μ1 q => ?_)
                                    obtain ⟨rfl, rfl⟩ := q
                                    refine ev_icmp_eq dL_law_722 (tgt := 1487) (by decide) (fun c129 => ?_) (fun c129 => ?_)
                                    · replace h := zit c129 h
                                      exact EV.mask [true, true, true, true] rfl (EV.more (eL_law_B1487 (bq := q) hsl hsf hw hd (fun l3' n' kd' I' R' h' => ih l3' n' kd' I' R' h') l3 n kd p127.2 p125.2.2 h) (Nat.le_refl _) (by omega) (by omega))
                                    · replace h := zif c129 h
                                      refine ev_iconst dL_law_725 (v := (0 : Int32)) zci_0 ?_
                                      obtain rfl := Option.some.inj h
                                      exact ev_end_i dL_law_726 rfl rfl ⟨rfl, rfl⟩
                                  · replace h := zif c123 h
                                    by_cases c130 : ((sf l3.toNatClampNeg) &&& (63 : Int32)) = (15 : Int32)
                                    · replace h := zit c130 h
                                      refine ev_tableIn dL_law_33 (by rw [c130]; decide) (by rw [c130]; decide) (off := 694) (by rw [c130]; rfl) (tgt := 727) (by decide) ?_
                                      refine ev_aload_n dL_law_727 rfl rfl ?_
                                      refine ev_aload_n dL_law_728 rfl rfl ?_
                                      refine ev_iload_n dL_law_729 rfl rfl ?_
                                      refine ev_iconst dL_law_730 (v := (1 : Int32)) zci_1 ?_
                                      refine ev_iadd dL_law_731 rfl ?_
                                      obtain ⟨g131, h⟩ := zgd h
                                      refine ev_sld dL_law_732 (by rw [hsl]; exact zib_in g131) (x := sf (l3 + (1 : Int32)).toNatClampNeg) (by rw [hsf]) ?_
                                      refine ev_aload_n dL_law_733 rfl rfl ?_
                                      refine ev_iload_n dL_law_734 rfl rfl ?_
                                      refine ev_iconst dL_law_735 (v := (2 : Int32)) zci_2 ?_
                                      refine ev_iadd dL_law_736 rfl ?_
                                      obtain ⟨g132, h⟩ := zgd h
                                      refine ev_sld dL_law_737 (by rw [hsl]; exact zib_in g132) (x := sf (l3 + (2 : Int32)).toNatClampNeg) (by rw [hsf]) ?_
                                      obtain ⟨p133, e134, h⟩ := zbd h
                                      refine ev_callV0 dL_law_738 zm11_find zl_NineHeapsLaw_78 zi11_find zv11_find (zrcX hS) (As := [.int (sf (l3 + (1 : Int32)).toNatClampNeg), .int (sf (l3 + (2 : Int32)).toNatClampNeg)]) (rest := []) rfl rfl (Nat.le_of_ble_eq_true rfl) rfl (Nat.le_of_ble_eq_true rfl) (d' := 8) (by omega) (e11_find hw hS (Nat.le_refl _) e134) (fun v μ1 q => ?_)
                                      obtain ⟨rfl, rfl⟩ := q
                                      refine ev_aload_n dL_law_741 rfl rfl ?_
                                      refine ev_aload_n dL_law_742 rfl rfl ?_
                                      refine ev_iload_n dL_law_743 rfl rfl ?_
                                      refine ev_iconst dL_law_744 (v := (1 : Int32)) zci_1 ?_
                                      refine ev_iadd dL_law_745 rfl ?_
                                      refine ev_sld dL_law_746 (by rw [hsl]; exact zib_in g131) (x := sf (l3 + (1 : Int32)).toNatClampNeg) (by rw [hsf]) ?_
                                      refine ev_aload_n dL_law_747 rfl rfl ?_
                                      refine ev_iload_n dL_law_748 rfl rfl ?_
                                      refine ev_iconst dL_law_749 (v := (2 : Int32)) zci_2 ?_
                                      refine ev_iadd dL_law_750 rfl ?_
                                      refine ev_sld dL_law_751 (by rw [hsl]; exact zib_in g132) (x := sf (l3 + (2 : Int32)).toNatClampNeg) (by rw [hsf]) ?_
                                      obtain ⟨p135, e136, h⟩ := zbd h
                                      refine ev_callV0 dL_law_752 zm12_find zl_NineHeapsLaw_81 zi12_find zv12_find (zrcM hS) (As := [.int (sf (l3 + (1 : Int32)).toNatClampNeg), .int (sf (l3 + (2 : Int32)).toNatClampNeg)]) (rest := [.int p133.1]) rfl rfl (Nat.le_of_ble_eq_true rfl) rfl (Nat.le_of_ble_eq_true rfl) (d' := 9) (by omega) (e12_find hw hS (Nat.le_refl _) e136) (fun v μ1 q => ?_)
                                      obtain ⟨rfl, rfl⟩ := q
                                      refine ev_icmp_eq dL_law_755 (tgt := 1487) (by decide) (fun c137 => ?_) (fun c137 => ?_)
                                      · replace h := zit c137 h
                                        exact EV.mask [true, true, true, true] rfl (EV.more (eL_law_B1487 (bq := q) hsl hsf hw hd (fun l3' n' kd' I' R' h' => ih l3' n' kd' I' R' h') l3 n kd p135.2 p133.2.2 h) (Nat.le_refl _) (by omega) (by omega))
                                      · replace h := zif c137 h
                                        refine ev_iconst dL_law_758 (v := (0 : Int32)) zci_0 ?_
                                        obtain rfl := Option.some.inj h
                                        exact ev_end_i dL_law_759 rfl rfl ⟨rfl, rfl⟩
                                    · replace h := zif c130 h
                                      by_cases c138 : ((sf l3.toNatClampNeg) &&& (63 : Int32)) = (16 : Int32)
                                      · replace h := zit c138 h
                                        refine ev_tableIn dL_law_33 (by rw [c138]; decide) (by rw [c138]; decide) (off := 727) (by rw [c138]; rfl) (tgt := 760) (by decide) ?_
                                        refine ev_aload_n dL_law_760 rfl rfl ?_
                                        refine ev_aload_n dL_law_761 rfl rfl ?_
                                        refine ev_iload_n dL_law_762 rfl rfl ?_
                                        refine ev_iconst dL_law_763 (v := (1 : Int32)) zci_1 ?_
                                        refine ev_iadd dL_law_764 rfl ?_
                                        obtain ⟨g139, h⟩ := zgd h
                                        refine ev_sld dL_law_765 (by rw [hsl]; exact zib_in g139) (x := sf (l3 + (1 : Int32)).toNatClampNeg) (by rw [hsf]) ?_
                                        obtain ⟨p140, e141, h⟩ := zbd h
                                        refine ev_callV0 dL_law_766 zm11_best zl_NineHeapsLaw_82 zi11_best zv11_best (zrcX hS) (As := [.int (sf (l3 + (1 : Int32)).toNatClampNeg)]) (rest := []) rfl rfl (Nat.le_of_ble_eq_true rfl) rfl (Nat.le_of_ble_eq_true rfl) (d' := 8) (by omega) (e11_best hw hS (Nat.le_refl _) e141) (fun v μ1 q => ?_)
                                        obtain ⟨rfl, rfl⟩ := q
                                        refine ev_aload_n dL_law_769 rfl rfl ?_
                                        refine ev_aload_n dL_law_770 rfl rfl ?_
                                        refine ev_iload_n dL_law_771 rfl rfl ?_
                                        refine ev_iconst dL_law_772 (v := (1 : Int32)) zci_1 ?_
                                        refine ev_iadd dL_law_773 rfl ?_
                                        refine ev_sld dL_law_774 (by rw [hsl]; exact zib_in g139) (x := sf (l3 + (1 : Int32)).toNatClampNeg) (by rw [hsf]) ?_
                                        obtain ⟨p142, e143, h⟩ := zbd h
                                        refine ev_callV0 dL_law_775 zm12_best zl_NineHeapsLaw_85 zi12_best zv12_best (zrcM hS) (As := [.int (sf (l3 + (1 : Int32)).toNatClampNeg)]) (rest := [.int p140.1]) rfl rfl (Nat.le_of_ble_eq_true rfl) rfl (Nat.le_of_ble_eq_true rfl) (d' := 8) (by omega) (e12_best hw hS (Nat.le_refl _) e143) (fun v μ1 q => ?_)
                                        obtain ⟨rfl, rfl⟩ := q
                                        refine ev_icmp_eq dL_law_778 (tgt := 1487) (by decide) (fun c144 => ?_) (fun c144 => ?_)
                                        · replace h := zit c144 h
                                          exact EV.mask [true, true, true, true] rfl (EV.more (eL_law_B1487 (bq := q) hsl hsf hw hd (fun l3' n' kd' I' R' h' => ih l3' n' kd' I' R' h') l3 n kd p142.2 p140.2.2 h) (Nat.le_refl _) (by omega) (by omega))
                                        · replace h := zif c144 h
                                          refine ev_iconst dL_law_781 (v := (0 : Int32)) zci_0 ?_
                                          obtain rfl := Option.some.inj h
                                          exact ev_end_i dL_law_782 rfl rfl ⟨rfl, rfl⟩
                                      · replace h := zif c138 h
                                        by_cases c145 : ((sf l3.toNatClampNeg) &&& (63 : Int32)) = (17 : Int32)
                                        · replace h := zit c145 h
                                          refine ev_tableIn dL_law_33 (by rw [c145]; decide) (by rw [c145]; decide) (off := 750) (by rw [c145]; rfl) (tgt := 783) (by decide) ?_
                                          refine ev_aload_n dL_law_783 rfl rfl ?_
                                          refine ev_aload_n dL_law_784 rfl rfl ?_
                                          refine ev_iload_n dL_law_785 rfl rfl ?_
                                          refine ev_iconst dL_law_786 (v := (1 : Int32)) zci_1 ?_
                                          refine ev_iadd dL_law_787 rfl ?_
                                          obtain ⟨g146, h⟩ := zgd h
                                          refine ev_sld dL_law_788 (by rw [hsl]; exact zib_in g146) (x := sf (l3 + (1 : Int32)).toNatClampNeg) (by rw [hsf]) ?_
                                          refine ev_aload_n dL_law_789 rfl rfl ?_
                                          refine ev_iload_n dL_law_790 rfl rfl ?_
                                          refine ev_iconst dL_law_791 (v := (2 : Int32)) zci_2 ?_
                                          refine ev_iadd dL_law_792 rfl ?_
                                          obtain ⟨g147, h⟩ := zgd h
                                          refine ev_sld dL_law_793 (by rw [hsl]; exact zib_in g147) (x := sf (l3 + (2 : Int32)).toNatClampNeg) (by rw [hsf]) ?_
                                          obtain ⟨p148, e149, h⟩ := zbd h
                                          refine ev_callV0 dL_law_794 zm11_start zl_NineHeapsLaw_86 zi11_start zv11_start (zrcX hS) (As := [.int (sf (l3 + (1 : Int32)).toNatClampNeg), .int (sf (l3 + (2 : Int32)).toNatClampNeg)]) (rest := []) rfl rfl (Nat.le_of_ble_eq_true rfl) rfl (Nat.le_of_ble_eq_true rfl) (d' := 8) (by omega) (e11_start hw hS (Nat.le_refl _) e149) (fun v μ1 q => ?_)
                                          obtain ⟨rfl, rfl⟩ := q
                                          refine ev_aload_n dL_law_797 rfl rfl ?_
                                          refine ev_aload_n dL_law_798 rfl rfl ?_
                                          refine ev_iload_n dL_law_799 rfl rfl ?_
                                          refine ev_iconst dL_law_800 (v := (1 : Int32)) zci_1 ?_
                                          refine ev_iadd dL_law_801 rfl ?_
                                          refine ev_sld dL_law_802 (by rw [hsl]; exact zib_in g146) (x := sf (l3 + (1 : Int32)).toNatClampNeg) (by rw [hsf]) ?_
                                          refine ev_aload_n dL_law_803 rfl rfl ?_
                                          refine ev_iload_n dL_law_804 rfl rfl ?_
                                          refine ev_iconst dL_law_805 (v := (2 : Int32)) zci_2 ?_
                                          refine ev_iadd dL_law_806 rfl ?_
                                          refine ev_sld dL_law_807 (by rw [hsl]; exact zib_in g147) (x := sf (l3 + (2 : Int32)).toNatClampNeg) (by rw [hsf]) ?_
                                          obtain ⟨p150, e151, h⟩ := zbd h
                                          refine ev_callV0 dL_law_808 zm12_start zl_NineHeapsLaw_89 zi12_start zv12_start (zrcM hS) (As := [.int (sf (l3 + (1 : Int32)).toNatClampNeg), .int (sf (l3 + (2 : Int32)).toNatClampNeg)]) (rest := [.int p148.1]) rfl rfl (Nat.le_of_ble_eq_true rfl) rfl (Nat.le_of_ble_eq_true rfl) (d' := 9) (by omega) (e12_start hw hS (Nat.le_refl _) e151) (fun v μ1 q => ?_)
                                          obtain ⟨rfl, rfl⟩ := q
                                          refine ev_icmp_eq dL_law_811 (tgt := 1487) (by decide) (fun c152 => ?_) (fun c152 => ?_)
                                          · replace h := zit c152 h
                                            exact EV.mask [true, true, true, true] rfl (EV.more (eL_law_B1487 (bq := q) hsl hsf hw hd (fun l3' n' kd' I' R' h' => ih l3' n' kd' I' R' h') l3 n kd p150.2 p148.2.2 h) (Nat.le_refl _) (by omega) (by omega))
                                          · replace h := zif c152 h
                                            refine ev_iconst dL_law_814 (v := (0 : Int32)) zci_0 ?_
                                            obtain rfl := Option.some.inj h
                                            exact ev_end_i dL_law_815 rfl rfl ⟨rfl, rfl⟩
                                        · replace h := zif c145 h
                                          by_cases c153 : ((sf l3.toNatClampNeg) &&& (63 : Int32)) = (18 : Int32)
                                          · replace h := zit c153 h
                                            refine ev_tableIn dL_law_33 (by rw [c153]; decide) (by rw [c153]; decide) (off := 783) (by rw [c153]; rfl) (tgt := 816) (by decide) ?_
                                            refine ev_aload_n dL_law_816 rfl rfl ?_
                                            refine ev_aload_n dL_law_817 rfl rfl ?_
                                            refine ev_iload_n dL_law_818 rfl rfl ?_
                                            refine ev_iconst dL_law_819 (v := (1 : Int32)) zci_1 ?_
                                            refine ev_iadd dL_law_820 rfl ?_
                                            obtain ⟨g154, h⟩ := zgd h
                                            refine ev_sld dL_law_821 (by rw [hsl]; exact zib_in g154) (x := sf (l3 + (1 : Int32)).toNatClampNeg) (by rw [hsf]) ?_
                                            obtain ⟨p155, e156, h⟩ := zbd h
                                            refine ev_callV0 dL_law_822 zm11_sit zl_NineHeapsLaw_90 zi11_sit zv11_sit (zrcX hS) (As := [.int (sf (l3 + (1 : Int32)).toNatClampNeg)]) (rest := []) rfl rfl (Nat.le_of_ble_eq_true rfl) rfl (Nat.le_of_ble_eq_true rfl) (d' := 8) (by omega) (e11_sit hw hS (Nat.le_refl _) e156) (fun v μ1 q => ?_)
                                            obtain ⟨rfl, rfl⟩ := q
                                            refine ev_aload_n dL_law_825 rfl rfl ?_
                                            refine ev_aload_n dL_law_826 rfl rfl ?_
                                            refine ev_iload_n dL_law_827 rfl rfl ?_
                                            refine ev_iconst dL_law_828 (v := (1 : Int32)) zci_1 ?_
                                            refine ev_iadd dL_law_829 rfl ?_
                                            refine ev_sld dL_law_830 (by rw [hsl]; exact zib_in g154) (x := sf (l3 + (1 : Int32)).toNatClampNeg) (by rw [hsf]) ?_
                                            obtain ⟨p157, e158, h⟩ := zbd h
                                            refine ev_callV0 dL_law_831 zm12_sit zl_NineHeapsLaw_93 zi12_sit zv12_sit (zrcM hS) (As := [.int (sf (l3 + (1 : Int32)).toNatClampNeg)]) (rest := [.int p155.1]) rfl rfl (Nat.le_of_ble_eq_true rfl) rfl (Nat.le_of_ble_eq_true rfl) (d' := 9) (by omega) (e12_sit hw hS (Nat.le_refl _) e158) (fun v μ1 q => ?_)
                                            obtain ⟨rfl, rfl⟩ := q
                                            refine ev_icmp_eq dL_law_834 (tgt := 1487) (by decide) (fun c159 => ?_) (fun c159 => ?_)
                                            · replace h := zit c159 h
                                              exact EV.mask [true, true, true, true] rfl (EV.more (eL_law_B1487 (bq := q) hsl hsf hw hd (fun l3' n' kd' I' R' h' => ih l3' n' kd' I' R' h') l3 n kd p157.2 p155.2.2 h) (Nat.le_refl _) (by omega) (by omega))
                                            · replace h := zif c159 h
                                              refine ev_iconst dL_law_837 (v := (0 : Int32)) zci_0 ?_
                                              obtain rfl := Option.some.inj h
                                              exact ev_end_i dL_law_838 rfl rfl ⟨rfl, rfl⟩
                                          · replace h := zif c153 h
                                            by_cases c160 : ((sf l3.toNatClampNeg) &&& (63 : Int32)) = (19 : Int32)
                                            · replace h := zit c160 h
                                              refine ev_tableIn dL_law_33 (by rw [c160]; decide) (by rw [c160]; decide) (off := 806) (by rw [c160]; rfl) (tgt := 839) (by decide) ?_
                                              refine ev_aload_n dL_law_839 rfl rfl ?_
                                              refine ev_aload_n dL_law_840 rfl rfl ?_
                                              refine ev_iload_n dL_law_841 rfl rfl ?_
                                              refine ev_iconst dL_law_842 (v := (1 : Int32)) zci_1 ?_
                                              refine ev_iadd dL_law_843 rfl ?_
                                              obtain ⟨g161, h⟩ := zgd h
                                              refine ev_sld dL_law_844 (by rw [hsl]; exact zib_in g161) (x := sf (l3 + (1 : Int32)).toNatClampNeg) (by rw [hsf]) ?_
                                              obtain ⟨p162, e163, h⟩ := zbd h
                                              refine ev_callV0 dL_law_845 zm11_worth zl_NineHeapsLaw_94 zi11_worth zv11_worth (zrcX hS) (As := [.int (sf (l3 + (1 : Int32)).toNatClampNeg)]) (rest := []) rfl rfl (Nat.le_of_ble_eq_true rfl) rfl (Nat.le_of_ble_eq_true rfl) (d' := 8) (by omega) (e11_worth hw hS (Nat.le_refl _) e163) (fun v μ1 q => ?_)
                                              obtain ⟨rfl, rfl⟩ := q
                                              refine ev_aload_n dL_law_848 rfl rfl ?_
                                              refine ev_aload_n dL_law_849 rfl rfl ?_
                                              refine ev_iload_n dL_law_850 rfl rfl ?_
                                              refine ev_iconst dL_law_851 (v := (1 : Int32)) zci_1 ?_
                                              refine ev_iadd dL_law_852 rfl ?_
                                              refine ev_sld dL_law_853 (by rw [hsl]; exact zib_in g161) (x := sf (l3 + (1 : Int32)).toNatClampNeg) (by rw [hsf]) ?_
                                              obtain ⟨p164, e165, h⟩ := zbd h
                                              refine ev_callV0 dL_law_854 zm12_worth zl_NineHeapsLaw_97 zi12_worth zv12_worth (zrcM hS) (As := [.int (sf (l3 + (1 : Int32)).toNatClampNeg)]) (rest := [.int p162.1]) rfl rfl (Nat.le_of_ble_eq_true rfl) rfl (Nat.le_of_ble_eq_true rfl) (d' := 9) (by omega) (e12_worth hw hS (Nat.le_refl _) e165) (fun v μ1 q => ?_)
                                              obtain ⟨rfl, rfl⟩ := q
                                              refine ev_icmp_eq dL_law_857 (tgt := 1487) (by decide) (fun c166 => ?_) (fun c166 => ?_)
                                              · replace h := zit c166 h
                                                exact EV.mask [true, true, true, true] rfl (EV.more (eL_law_B1487 (bq := q) hsl hsf hw hd (fun l3' n' kd' I' R' h' => ih l3' n' kd' I' R' h') l3 n kd p164.2 p162.2.2 h) (Nat.le_refl _) (by omega) (by omega))
                                              · replace h := zif c166 h
                                                refine ev_iconst dL_law_860 (v := (0 : Int32)) zci_0 ?_
                                                obtain rfl := Option.some.inj h
                                                exact ev_end_i dL_law_861 rfl rfl ⟨rfl, rfl⟩
                                            · replace h := zif c160 h
                                              by_cases c167 : ((sf l3.toNatClampNeg) &&& (63 : Int32)) = (20 : Int32)
                                              · replace h := zit c167 h
                                                refine ev_tableIn dL_law_33 (by rw [c167]; decide) (by rw [c167]; decide) (off := 829) (by rw [c167]; rfl) (tgt := 862) (by decide) ?_
                                                refine ev_aload_n dL_law_862 rfl rfl ?_
                                                refine ev_aload_n dL_law_863 rfl rfl ?_
                                                refine ev_iload_n dL_law_864 rfl rfl ?_
                                                refine ev_iconst dL_law_865 (v := (1 : Int32)) zci_1 ?_
                                                refine ev_iadd dL_law_866 rfl ?_
                                                obtain ⟨g168, h⟩ := zgd h
                                                refine ev_sld dL_law_867 (by rw [hsl]; exact zib_in g168) (x := sf (l3 + (1 : Int32)).toNatClampNeg) (by rw [hsf]) ?_
                                                obtain ⟨p169, e170, h⟩ := zbd h
                                                refine ev_callV0 dL_law_868 zm11_more zl_NineHeapsLaw_98 zi11_more zv11_more (zrcX hS) (As := [.int (sf (l3 + (1 : Int32)).toNatClampNeg)]) (rest := []) rfl rfl (Nat.le_of_ble_eq_true rfl) rfl (Nat.le_of_ble_eq_true rfl) (d' := 8) (by omega) (e11_more hw hS (Nat.le_refl _) e170) (fun v μ1 q => ?_)
                                                obtain ⟨rfl, rfl⟩ := q
                                                refine ev_aload_n dL_law_871 rfl rfl ?_
                                                refine ev_aload_n dL_law_872 rfl rfl ?_
                                                refine ev_iload_n dL_law_873 rfl rfl ?_
                                                refine ev_iconst dL_law_874 (v := (1 : Int32)) zci_1 ?_
                                                refine ev_iadd dL_law_875 rfl ?_
                                                refine ev_sld dL_law_876 (by rw [hsl]; exact zib_in g168) (x := sf (l3 + (1 : Int32)).toNatClampNeg) (by rw [hsf]) ?_
                                                obtain ⟨p171, e172, h⟩ := zbd h
                                                refine ev_callV0 dL_law_877 zm12_more zl_NineHeapsLaw_101 zi12_more zv12_more (zrcM hS) (As := [.int (sf (l3 + (1 : Int32)).toNatClampNeg)]) (rest := [.int p169.1]) rfl rfl (Nat.le_of_ble_eq_true rfl) rfl (Nat.le_of_ble_eq_true rfl) (d' := 9) (by omega) (e12_more hw hS (Nat.le_refl _) e172) (fun v μ1 q => ?_)
                                                obtain ⟨rfl, rfl⟩ := q
                                                refine ev_icmp_eq dL_law_880 (tgt := 1487) (by decide) (fun c173 => ?_) (fun c173 => ?_)
                                                · replace h := zit c173 h
                                                  exact EV.mask [true, true, true, true] rfl (EV.more (eL_law_B1487 (bq := q) hsl hsf hw hd (fun l3' n' kd' I' R' h' => ih l3' n' kd' I' R' h') l3 n kd p171.2 p169.2.2 h) (Nat.le_refl _) (by omega) (by omega))
                                                · replace h := zif c173 h
                                                  refine ev_iconst dL_law_883 (v := (0 : Int32)) zci_0 ?_
                                                  obtain rfl := Option.some.inj h
                                                  exact ev_end_i dL_law_884 rfl rfl ⟨rfl, rfl⟩
                                              · replace h := zif c167 h
                                                by_cases c174 : ((sf l3.toNatClampNeg) &&& (63 : Int32)) = (21 : Int32)
                                                · replace h := zit c174 h
                                                  refine ev_tableIn dL_law_33 (by rw [c174]; decide) (by rw [c174]; decide) (off := 852) (by rw [c174]; rfl) (tgt := 885) (by decide) ?_
                                                  refine ev_aload_n dL_law_885 rfl rfl ?_
                                                  refine ev_aload_n dL_law_886 rfl rfl ?_
                                                  refine ev_iload_n dL_law_887 rfl rfl ?_
                                                  refine ev_iconst dL_law_888 (v := (1 : Int32)) zci_1 ?_
                                                  refine ev_iadd dL_law_889 rfl ?_
                                                  obtain ⟨g175, h⟩ := zgd h
                                                  refine ev_sld dL_law_890 (by rw [hsl]; exact zib_in g175) (x := sf (l3 + (1 : Int32)).toNatClampNeg) (by rw [hsf]) ?_
                                                  obtain ⟨p176, e177, h⟩ := zbd h
                                                  refine ev_callV0 dL_law_891 zm11_stretch zl_NineHeapsLaw_102 zi11_stretch zv11_stretch (zrcX hS) (As := [.int (sf (l3 + (1 : Int32)).toNatClampNeg)]) (rest := []) rfl rfl (Nat.le_of_ble_eq_true rfl) rfl (Nat.le_of_ble_eq_true rfl) (d' := 8) (by omega) (e11_stretch hw hS (Nat.le_refl _) e177) (fun v μ1 q => ?_)
                                                  obtain ⟨rfl, rfl⟩ := q
                                                  refine ev_aload_n dL_law_894 rfl rfl ?_
                                                  refine ev_aload_n dL_law_895 rfl rfl ?_
                                                  refine ev_iload_n dL_law_896 rfl rfl ?_
                                                  refine ev_iconst dL_law_897 (v := (1 : Int32)) zci_1 ?_
                                                  refine ev_iadd dL_law_898 rfl ?_
                                                  refine ev_sld dL_law_899 (by rw [hsl]; exact zib_in g175) (x := sf (l3 + (1 : Int32)).toNatClampNeg) (by rw [hsf]) ?_
                                                  obtain ⟨p178, e179, h⟩ := zbd h
                                                  refine ev_callV0 dL_law_900 zm12_stretch zl_NineHeapsLaw_105 zi12_stretch zv12_stretch (zrcM hS) (As := [.int (sf (l3 + (1 : Int32)).toNatClampNeg)]) (rest := [.int p176.1]) rfl rfl (Nat.le_of_ble_eq_true rfl) rfl (Nat.le_of_ble_eq_true rfl) (d' := 8) (by omega) (e12_stretch hw hS (Nat.le_refl _) e179) (fun v μ1 q => ?_)
                                                  obtain ⟨rfl, rfl⟩ := q
                                                  refine ev_icmp_eq dL_law_903 (tgt := 1487) (by decide) (fun c180 => ?_) (fun c180 => ?_)
                                                  · replace h := zit c180 h
                                                    exact EV.mask [true, true, true, true] rfl (EV.more (eL_law_B1487 (bq := q) hsl hsf hw hd (fun l3' n' kd' I' R' h' => ih l3' n' kd' I' R' h') l3 n kd p178.2 p176.2.2 h) (Nat.le_refl _) (by omega) (by omega))
                                                  · replace h := zif c180 h
                                                    refine ev_iconst dL_law_906 (v := (0 : Int32)) zci_0 ?_
                                                    obtain rfl := Option.some.inj h
                                                    exact ev_end_i dL_law_907 rfl rfl ⟨rfl, rfl⟩
                                                · replace h := zif c174 h
                                                  by_cases c181 : ((sf l3.toNatClampNeg) &&& (63 : Int32)) = (22 : Int32)
                                                  · replace h := zit c181 h
                                                    refine ev_tableIn dL_law_33 (by rw [c181]; decide) (by rw [c181]; decide) (off := 875) (by rw [c181]; rfl) (tgt := 908) (by decide) ?_
                                                    refine ev_aload_n dL_law_908 rfl rfl ?_
                                                    obtain ⟨p182, e183, h⟩ := zbd h
                                                    refine ev_callV0 dL_law_909 zm11_slowest zl_NineHeapsLaw_106 zi11_slowest zv11_slowest (zrcX hS) (As := []) (rest := []) rfl rfl (Nat.le_of_ble_eq_true rfl) rfl (Nat.le_of_ble_eq_true rfl) (d' := 8) (by omega) (e11_slowest hw hS (Nat.le_refl _) e183) (fun v μ1 q => ?_)
                                                    obtain ⟨rfl, rfl⟩ := q
                                                    refine ev_aload_n dL_law_912 rfl rfl ?_
                                                    obtain ⟨p184, e185, h⟩ := zbd h
                                                    refine ev_callV0 dL_law_913 zm12_slowest zl_NineHeapsLaw_109 zi12_slowest zv12_slowest (zrcM hS) (As := []) (rest := [.int p182.1]) rfl rfl (Nat.le_of_ble_eq_true rfl) rfl (Nat.le_of_ble_eq_true rfl) (d' := 8) (by omega) (e12_slowest hw hS (Nat.le_refl _) e185) (fun v μ1 q => ?_)
                                                    obtain ⟨rfl, rfl⟩ := q
                                                    refine ev_icmp_eq dL_law_916 (tgt := 1487) (by decide) (fun c186 => ?_) (fun c186 => ?_)
                                                    · replace h := zit c186 h
                                                      exact EV.mask [true, true, true, true] rfl (EV.more (eL_law_B1487 (bq := q) hsl hsf hw hd (fun l3' n' kd' I' R' h' => ih l3' n' kd' I' R' h') l3 n kd p184.2 p182.2.2 h) (Nat.le_refl _) (by omega) (by omega))
                                                    · replace h := zif c186 h
                                                      refine ev_iconst dL_law_919 (v := (0 : Int32)) zci_0 ?_
                                                      obtain rfl := Option.some.inj h
                                                      exact ev_end_i dL_law_920 rfl rfl ⟨rfl, rfl⟩
                                                  · replace h := zif c181 h
                                                    by_cases c187 : ((sf l3.toNatClampNeg) &&& (63 : Int32)) = (23 : Int32)
                                                    · replace h := zit c187 h
                                                      refine ev_tableIn dL_law_33 (by rw [c187]; decide) (by rw [c187]; decide) (off := 888) (by rw [c187]; rfl) (tgt := 921) (by decide) ?_
                                                      refine ev_aload_n dL_law_921 rfl rfl ?_
                                                      refine ev_aload_n dL_law_922 rfl rfl ?_
                                                      refine ev_iload_n dL_law_923 rfl rfl ?_
                                                      refine ev_iconst dL_law_924 (v := (1 : Int32)) zci_1 ?_
                                                      refine ev_iadd dL_law_925 rfl ?_
                                                      obtain ⟨g188, h⟩ := zgd h
                                                      refine ev_sld dL_law_926 (by rw [hsl]; exact zib_in g188) (x := sf (l3 + (1 : Int32)).toNatClampNeg) (by rw [hsf]) ?_
                                                      refine ev_aload_n dL_law_927 rfl rfl ?_
                                                      refine ev_iload_n dL_law_928 rfl rfl ?_
                                                      refine ev_iconst dL_law_929 (v := (2 : Int32)) zci_2 ?_
                                                      refine ev_iadd dL_law_930 rfl ?_
                                                      obtain ⟨g189, h⟩ := zgd h
                                                      refine ev_sld dL_law_931 (by rw [hsl]; exact zib_in g189) (x := sf (l3 + (2 : Int32)).toNatClampNeg) (by rw [hsf]) ?_
                                                      obtain ⟨p190, e191, h⟩ := zbd h
                                                      refine ev_callV0 dL_law_932 zm11_judge zl_NineHeapsLaw_110 zi11_judge zv11_judge (zrcX hS) (As := [.int (sf (l3 + (1 : Int32)).toNatClampNeg), .int (sf (l3 + (2 : Int32)).toNatClampNeg)]) (rest := []) rfl rfl (Nat.le_of_ble_eq_true rfl) rfl (Nat.le_of_ble_eq_true rfl) (d' := 8) (by omega) (e11_judge hw hS (Nat.le_refl _) e191) (fun v μ1 q => ?_)
                                                      obtain ⟨rfl, rfl⟩ := q
                                                      refine ev_aload_n dL_law_935 rfl rfl ?_
                                                      refine ev_aload_n dL_law_936 rfl rfl ?_
                                                      refine ev_iload_n dL_law_937 rfl rfl ?_
                                                      refine ev_iconst dL_law_938 (v := (1 : Int32)) zci_1 ?_
                                                      refine ev_iadd dL_law_939 rfl ?_
                                                      refine ev_sld dL_law_940 (by rw [hsl]; exact zib_in g188) (x := sf (l3 + (1 : Int32)).toNatClampNeg) (by rw [hsf]) ?_
                                                      refine ev_aload_n dL_law_941 rfl rfl ?_
                                                      refine ev_iload_n dL_law_942 rfl rfl ?_
                                                      refine ev_iconst dL_law_943 (v := (2 : Int32)) zci_2 ?_
                                                      refine ev_iadd dL_law_944 rfl ?_
                                                      refine ev_sld dL_law_945 (by rw [hsl]; exact zib_in g189) (x := sf (l3 + (2 : Int32)).toNatClampNeg) (by rw [hsf]) ?_
                                                      obtain ⟨p192, e193, h⟩ := zbd h
                                                      refine ev_callV0 dL_law_946 zm12_judge zl_NineHeapsLaw_113 zi12_judge zv12_judge (zrcM hS) (As := [.int (sf (l3 + (1 : Int32)).toNatClampNeg), .int (sf (l3 + (2 : Int32)).toNatClampNeg)]) (rest := [.int p190.1]) rfl rfl (Nat.le_of_ble_eq_true rfl) rfl (Nat.le_of_ble_eq_true rfl) (d' := 10) (by omega) (e12_judge hw hS (Nat.le_refl _) e193) (fun v μ1 q => ?_)
                                                      obtain ⟨rfl, rfl⟩ := q
                                                      refine ev_icmp_eq dL_law_949 (tgt := 1487) (by decide) (fun c194 => ?_) (fun c194 => ?_)
                                                      · replace h := zit c194 h
                                                        exact EV.mask [true, true, true, true] rfl (EV.more (eL_law_B1487 (bq := q) hsl hsf hw hd (fun l3' n' kd' I' R' h' => ih l3' n' kd' I' R' h') l3 n kd p192.2 p190.2.2 h) (Nat.le_refl _) (by omega) (by omega))
                                                      · replace h := zif c194 h
                                                        refine ev_iconst dL_law_952 (v := (0 : Int32)) zci_0 ?_
                                                        obtain rfl := Option.some.inj h
                                                        exact ev_end_i dL_law_953 rfl rfl ⟨rfl, rfl⟩
                                                    · replace h := zif c187 h
                                                      by_cases c195 : ((sf l3.toNatClampNeg) &&& (63 : Int32)) = (24 : Int32)
                                                      · replace h := zit c195 h
                                                        refine ev_tableIn dL_law_33 (by rw [c195]; decide) (by rw [c195]; decide) (off := 921) (by rw [c195]; rfl) (tgt := 954) (by decide) ?_
                                                        refine ev_aload_n dL_law_954 rfl rfl ?_
                                                        refine ev_aload_n dL_law_955 rfl rfl ?_
                                                        refine ev_iload_n dL_law_956 rfl rfl ?_
                                                        refine ev_iconst dL_law_957 (v := (1 : Int32)) zci_1 ?_
                                                        refine ev_iadd dL_law_958 rfl ?_
                                                        obtain ⟨g196, h⟩ := zgd h
                                                        refine ev_sld dL_law_959 (by rw [hsl]; exact zib_in g196) (x := sf (l3 + (1 : Int32)).toNatClampNeg) (by rw [hsf]) ?_
                                                        refine ev_aload_n dL_law_960 rfl rfl ?_
                                                        refine ev_iload_n dL_law_961 rfl rfl ?_
                                                        refine ev_iconst dL_law_962 (v := (2 : Int32)) zci_2 ?_
                                                        refine ev_iadd dL_law_963 rfl ?_
                                                        obtain ⟨g197, h⟩ := zgd h
                                                        refine ev_sld dL_law_964 (by rw [hsl]; exact zib_in g197) (x := sf (l3 + (2 : Int32)).toNatClampNeg) (by rw [hsf]) ?_
                                                        obtain ⟨p198, e199, h⟩ := zbd h
                                                        refine ev_callV0 dL_law_965 zm11_when zl_NineHeapsLaw_114 zi11_when zv11_when (zrcX hS) (As := [.int (sf (l3 + (1 : Int32)).toNatClampNeg), .int (sf (l3 + (2 : Int32)).toNatClampNeg)]) (rest := []) rfl rfl (Nat.le_of_ble_eq_true rfl) rfl (Nat.le_of_ble_eq_true rfl) (d' := 8) (by omega) (e11_when hw hS (Nat.le_refl _) e199) (fun v μ1 q => ?_)
                                                        obtain ⟨rfl, rfl⟩ := q
                                                        refine ev_aload_n dL_law_968 rfl rfl ?_
                                                        refine ev_aload_n dL_law_969 rfl rfl ?_
                                                        refine ev_iload_n dL_law_970 rfl rfl ?_
                                                        refine ev_iconst dL_law_971 (v := (1 : Int32)) zci_1 ?_
                                                        refine ev_iadd dL_law_972 rfl ?_
                                                        refine ev_sld dL_law_973 (by rw [hsl]; exact zib_in g196) (x := sf (l3 + (1 : Int32)).toNatClampNeg) (by rw [hsf]) ?_
                                                        refine ev_aload_n dL_law_974 rfl rfl ?_
                                                        refine ev_iload_n dL_law_975 rfl rfl ?_
                                                        refine ev_iconst dL_law_976 (v := (2 : Int32)) zci_2 ?_
                                                        refine ev_iadd dL_law_977 rfl ?_
                                                        refine ev_sld dL_law_978 (by rw [hsl]; exact zib_in g197) (x := sf (l3 + (2 : Int32)).toNatClampNeg) (by rw [hsf]) ?_
                                                        obtain ⟨p200, e201, h⟩ := zbd h
                                                        refine ev_callV0 dL_law_979 zm12_when zl_NineHeapsLaw_117 zi12_when zv12_when (zrcM hS) (As := [.int (sf (l3 + (1 : Int32)).toNatClampNeg), .int (sf (l3 + (2 : Int32)).toNatClampNeg)]) (rest := [.int p198.1]) rfl rfl (Nat.le_of_ble_eq_true rfl) rfl (Nat.le_of_ble_eq_true rfl) (d' := 7) (by omega) (e12_when hw hS (Nat.le_refl _) e201) (fun v μ1 q => ?_)
                                                        obtain ⟨rfl, rfl⟩ := q
                                                        refine ev_icmp_eq dL_law_982 (tgt := 1487) (by decide) (fun c202 => ?_) (fun c202 => ?_)
                                                        · replace h := zit c202 h
                                                          exact EV.mask [true, true, true, true] rfl (EV.more (eL_law_B1487 (bq := q) hsl hsf hw hd (fun l3' n' kd' I' R' h' => ih l3' n' kd' I' R' h') l3 n kd p200.2 p198.2.2 h) (Nat.le_refl _) (by omega) (by omega))
                                                        · replace h := zif c202 h
                                                          refine ev_iconst dL_law_985 (v := (0 : Int32)) zci_0 ?_
                                                          obtain rfl := Option.some.inj h
                                                          exact ev_end_i dL_law_986 rfl rfl ⟨rfl, rfl⟩
                                                      · replace h := zif c195 h
                                                        by_cases c203 : ((sf l3.toNatClampNeg) &&& (63 : Int32)) = (25 : Int32)
                                                        · replace h := zit c203 h
                                                          refine ev_tableIn dL_law_33 (by rw [c203]; decide) (by rw [c203]; decide) (off := 954) (by rw [c203]; rfl) (tgt := 987) (by decide) ?_
                                                          refine ev_aload_n dL_law_987 rfl rfl ?_
                                                          refine ev_aload_n dL_law_988 rfl rfl ?_
                                                          refine ev_iload_n dL_law_989 rfl rfl ?_
                                                          refine ev_iconst dL_law_990 (v := (1 : Int32)) zci_1 ?_
                                                          refine ev_iadd dL_law_991 rfl ?_
                                                          obtain ⟨g204, h⟩ := zgd h
                                                          refine ev_sld dL_law_992 (by rw [hsl]; exact zib_in g204) (x := sf (l3 + (1 : Int32)).toNatClampNeg) (by rw [hsf]) ?_
                                                          refine ev_aload_n dL_law_993 rfl rfl ?_
                                                          refine ev_iload_n dL_law_994 rfl rfl ?_
                                                          refine ev_iconst dL_law_995 (v := (2 : Int32)) zci_2 ?_
                                                          refine ev_iadd dL_law_996 rfl ?_
                                                          obtain ⟨g205, h⟩ := zgd h
                                                          refine ev_sld dL_law_997 (by rw [hsl]; exact zib_in g205) (x := sf (l3 + (2 : Int32)).toNatClampNeg) (by rw [hsf]) ?_
                                                          refine ev_aload_n dL_law_998 rfl rfl ?_
                                                          refine ev_iload_n dL_law_999 rfl rfl ?_
                                                          refine ev_iconst dL_law_1000 (v := (3 : Int32)) zci_3 ?_
                                                          refine ev_iadd dL_law_1001 rfl ?_
                                                          obtain ⟨g206, h⟩ := zgd h
                                                          refine ev_sld dL_law_1002 (by rw [hsl]; exact zib_in g206) (x := sf (l3 + (3 : Int32)).toNatClampNeg) (by rw [hsf]) ?_
                                                          obtain ⟨p207, e208, h⟩ := zbd h
                                                          refine ev_callV0 dL_law_1003 zm11_sticks zl_NineHeapsLaw_118 zi11_sticks zv11_sticks (zrcX hS) (As := [.int (sf (l3 + (1 : Int32)).toNatClampNeg), .int (sf (l3 + (2 : Int32)).toNatClampNeg), .int (sf (l3 + (3 : Int32)).toNatClampNeg)]) (rest := []) rfl rfl (Nat.le_of_ble_eq_true rfl) rfl (Nat.le_of_ble_eq_true rfl) (d' := 8) (by omega) (e11_sticks hw hS (Nat.le_refl _) e208) (fun v μ1 q => ?_)
                                                          obtain ⟨rfl, rfl⟩ := q
                                                          refine ev_aload_n dL_law_1006 rfl rfl ?_
                                                          refine ev_aload_n dL_law_1007 rfl rfl ?_
                                                          refine ev_iload_n dL_law_1008 rfl rfl ?_
                                                          refine ev_iconst dL_law_1009 (v := (1 : Int32)) zci_1 ?_
                                                          refine ev_iadd dL_law_1010 rfl ?_
                                                          refine ev_sld dL_law_1011 (by rw [hsl]; exact zib_in g204) (x := sf (l3 + (1 : Int32)).toNatClampNeg) (by rw [hsf]) ?_
                                                          refine ev_aload_n dL_law_1012 rfl rfl ?_
                                                          refine ev_iload_n dL_law_1013 rfl rfl ?_
                                                          refine ev_iconst dL_law_1014 (v := (2 : Int32)) zci_2 ?_
                                                          refine ev_iadd dL_law_1015 rfl ?_
                                                          refine ev_sld dL_law_1016 (by rw [hsl]; exact zib_in g205) (x := sf (l3 + (2 : Int32)).toNatClampNeg) (by rw [hsf]) ?_
                                                          refine ev_aload_n dL_law_1017 rfl rfl ?_
                                                          refine ev_iload_n dL_law_1018 rfl rfl ?_
                                                          refine ev_iconst dL_law_1019 (v := (3 : Int32)) zci_3 ?_
                                                          refine ev_iadd dL_law_1020 rfl ?_
                                                          refine ev_sld dL_law_1021 (by rw [hsl]; exact zib_in g206) (x := sf (l3 + (3 : Int32)).toNatClampNeg) (by rw [hsf]) ?_
                                                          obtain ⟨p209, e210, h⟩ := zbd h
                                                          refine ev_callV0 dL_law_1022 zm12_sticks zl_NineHeapsLaw_121 zi12_sticks zv12_sticks (zrcM hS) (As := [.int (sf (l3 + (1 : Int32)).toNatClampNeg), .int (sf (l3 + (2 : Int32)).toNatClampNeg), .int (sf (l3 + (3 : Int32)).toNatClampNeg)]) (rest := [.int p207.1]) rfl rfl (Nat.le_of_ble_eq_true rfl) rfl (Nat.le_of_ble_eq_true rfl) (d' := 10) (by omega) (e12_sticks hw hS (Nat.le_refl _) e210) (fun v μ1 q => ?_)
                                                          obtain ⟨rfl, rfl⟩ := q
                                                          refine ev_icmp_eq dL_law_1025 (tgt := 1487) (by decide) (fun c211 => ?_) (fun c211 => ?_)
                                                          · replace h := zit c211 h
                                                            exact EV.mask [true, true, true, true] rfl (EV.more (eL_law_B1487 (bq := q) hsl hsf hw hd (fun l3' n' kd' I' R' h' => ih l3' n' kd' I' R' h') l3 n kd p209.2 p207.2.2 h) (Nat.le_refl _) (by omega) (by omega))
                                                          · replace h := zif c211 h
                                                            refine ev_iconst dL_law_1028 (v := (0 : Int32)) zci_0 ?_
                                                            obtain rfl := Option.some.inj h
                                                            exact ev_end_i dL_law_1029 rfl rfl ⟨rfl, rfl⟩
                                                        · replace h := zif c203 h
                                                          by_cases c212 : ((sf l3.toNatClampNeg) &&& (63 : Int32)) = (26 : Int32)
                                                          · replace h := zit c212 h
                                                            refine ev_tableIn dL_law_33 (by rw [c212]; decide) (by rw [c212]; decide) (off := 997) (by rw [c212]; rfl) (tgt := 1030) (by decide) ?_
                                                            refine ev_aload_n dL_law_1030 rfl rfl ?_
                                                            refine ev_aload_n dL_law_1031 rfl rfl ?_
                                                            refine ev_iload_n dL_law_1032 rfl rfl ?_
                                                            refine ev_iconst dL_law_1033 (v := (1 : Int32)) zci_1 ?_
                                                            refine ev_iadd dL_law_1034 rfl ?_
                                                            obtain ⟨g213, h⟩ := zgd h
                                                            refine ev_sld dL_law_1035 (by rw [hsl]; exact zib_in g213) (x := sf (l3 + (1 : Int32)).toNatClampNeg) (by rw [hsf]) ?_
                                                            refine ev_aload_n dL_law_1036 rfl rfl ?_
                                                            refine ev_iload_n dL_law_1037 rfl rfl ?_
                                                            refine ev_iconst dL_law_1038 (v := (2 : Int32)) zci_2 ?_
                                                            refine ev_iadd dL_law_1039 rfl ?_
                                                            obtain ⟨g214, h⟩ := zgd h
                                                            refine ev_sld dL_law_1040 (by rw [hsl]; exact zib_in g214) (x := sf (l3 + (2 : Int32)).toNatClampNeg) (by rw [hsf]) ?_
                                                            refine ev_aload_n dL_law_1041 rfl rfl ?_
                                                            refine ev_iload_n dL_law_1042 rfl rfl ?_
                                                            refine ev_iconst dL_law_1043 (v := (3 : Int32)) zci_3 ?_
                                                            refine ev_iadd dL_law_1044 rfl ?_
                                                            obtain ⟨g215, h⟩ := zgd h
                                                            refine ev_sld dL_law_1045 (by rw [hsl]; exact zib_in g215) (x := sf (l3 + (3 : Int32)).toNatClampNeg) (by rw [hsf]) ?_
                                                            obtain ⟨p216, e217, h⟩ := zbd h
                                                            refine ev_callVK (k2 := (q * 10 + 0)) (z2 := (q * 534 + 424)) dL_law_1046 zm11_kinds zl_NineHeapsLaw_122 zi11_kinds zv11_kinds (zrcX hS) (As := [.int (sf (l3 + (1 : Int32)).toNatClampNeg), .int (sf (l3 + (2 : Int32)).toNatClampNeg), .int (sf (l3 + (3 : Int32)).toNatClampNeg)]) (rest := []) rfl rfl (Nat.le_of_ble_eq_true rfl) rfl (Nat.le_of_ble_eq_true rfl) (d' := 8) (by omega) (e11_kinds hw hS (Nat.le_refl _) e217) (by omega) (by omega) (fun v μ1 q => ?_)
                                                            obtain ⟨rfl, rfl⟩ := q
                                                            obtain ⟨g218, h⟩ := zgd h
                                                            have hS := zShB_sh g218
                                                            refine ev_aload_n dL_law_1049 rfl rfl ?_
                                                            refine ev_aload_n dL_law_1050 rfl rfl ?_
                                                            refine ev_iload_n dL_law_1051 rfl rfl ?_
                                                            refine ev_iconst dL_law_1052 (v := (1 : Int32)) zci_1 ?_
                                                            refine ev_iadd dL_law_1053 rfl ?_
                                                            refine ev_sld dL_law_1054 (by rw [hsl]; exact zib_in g213) (x := sf (l3 + (1 : Int32)).toNatClampNeg) (by rw [hsf]) ?_
                                                            refine ev_aload_n dL_law_1055 rfl rfl ?_
                                                            refine ev_iload_n dL_law_1056 rfl rfl ?_
                                                            refine ev_iconst dL_law_1057 (v := (2 : Int32)) zci_2 ?_
                                                            refine ev_iadd dL_law_1058 rfl ?_
                                                            refine ev_sld dL_law_1059 (by rw [hsl]; exact zib_in g214) (x := sf (l3 + (2 : Int32)).toNatClampNeg) (by rw [hsf]) ?_
                                                            refine ev_aload_n dL_law_1060 rfl rfl ?_
                                                            refine ev_iload_n dL_law_1061 rfl rfl ?_
                                                            refine ev_iconst dL_law_1062 (v := (3 : Int32)) zci_3 ?_
                                                            refine ev_iadd dL_law_1063 rfl ?_
                                                            refine ev_sld dL_law_1064 (by rw [hsl]; exact zib_in g215) (x := sf (l3 + (3 : Int32)).toNatClampNeg) (by rw [hsf]) ?_
                                                            obtain ⟨p219, e220, h⟩ := zbd h
                                                            refine ev_callV0 dL_law_1065 zm12_kinds zl_NineHeapsLaw_125 zi12_kinds zv12_kinds (zrcM hS) (As := [.int (sf (l3 + (1 : Int32)).toNatClampNeg), .int (sf (l3 + (2 : Int32)).toNatClampNeg), .int (sf (l3 + (3 : Int32)).toNatClampNeg)]) (rest := [.int p216.1]) rfl rfl (Nat.le_of_ble_eq_true rfl) rfl (Nat.le_of_ble_eq_true rfl) (d' := 10) (by omega) (e12_kinds hw hS (Nat.le_refl _) e220) (fun v μ1 q => ?_)
                                                            obtain ⟨rfl, rfl⟩ := q
                                                            refine ev_icmp_eq dL_law_1068 (tgt := 1487) (by decide) (fun c221 => ?_) (fun c221 => ?_)
                                                            · replace h := zit c221 h
                                                              exact EV.mask [true, true, true, true] rfl (EV.more (eL_law_B1487 (bq := q) hsl hsf hw hd (fun l3' n' kd' I' R' h' => ih l3' n' kd' I' R' h') l3 p216.2.1.1 p216.2.1.2 p219.2 p216.2.2.2 h) (Nat.le_refl _) (by omega) (by omega))
                                                            · replace h := zif c221 h
                                                              refine ev_iconst dL_law_1071 (v := (0 : Int32)) zci_0 ?_
                                                              obtain rfl := Option.some.inj h
                                                              exact ev_end_i dL_law_1072 rfl rfl ⟨rfl, rfl⟩
                                                          · replace h := zif c212 h
                                                            by_cases c222 : ((sf l3.toNatClampNeg) &&& (63 : Int32)) = (27 : Int32)
                                                            · replace h := zit c222 h
                                                              refine ev_tableIn dL_law_33 (by rw [c222]; decide) (by rw [c222]; decide) (off := 1040) (by rw [c222]; rfl) (tgt := 1073) (by decide) ?_
                                                              refine ev_aload_n dL_law_1073 rfl rfl ?_
                                                              refine ev_aload_n dL_law_1074 rfl rfl ?_
                                                              refine ev_iload_n dL_law_1075 rfl rfl ?_
                                                              refine ev_iconst dL_law_1076 (v := (1 : Int32)) zci_1 ?_
                                                              refine ev_iadd dL_law_1077 rfl ?_
                                                              obtain ⟨g223, h⟩ := zgd h
                                                              refine ev_sld dL_law_1078 (by rw [hsl]; exact zib_in g223) (x := sf (l3 + (1 : Int32)).toNatClampNeg) (by rw [hsf]) ?_
                                                              refine ev_aload_n dL_law_1079 rfl rfl ?_
                                                              refine ev_iload_n dL_law_1080 rfl rfl ?_
                                                              refine ev_iconst dL_law_1081 (v := (2 : Int32)) zci_2 ?_
                                                              refine ev_iadd dL_law_1082 rfl ?_
                                                              obtain ⟨g224, h⟩ := zgd h
                                                              refine ev_sld dL_law_1083 (by rw [hsl]; exact zib_in g224) (x := sf (l3 + (2 : Int32)).toNatClampNeg) (by rw [hsf]) ?_
                                                              obtain ⟨p225, e226, h⟩ := zbd h
                                                              refine ev_callV0 dL_law_1084 zm11_laws zl_NineHeapsLaw_126 zi11_laws zv11_laws (zrcX hS) (As := [.int (sf (l3 + (1 : Int32)).toNatClampNeg), .int (sf (l3 + (2 : Int32)).toNatClampNeg)]) (rest := []) rfl rfl (Nat.le_of_ble_eq_true rfl) rfl (Nat.le_of_ble_eq_true rfl) (d' := 8) (by omega) (e11_laws hw hS (Nat.le_refl _) e226) (fun v μ1 q => ?_)
                                                              obtain ⟨rfl, rfl⟩ := q
                                                              refine ev_aload_n dL_law_1087 rfl rfl ?_
                                                              refine ev_aload_n dL_law_1088 rfl rfl ?_
                                                              refine ev_iload_n dL_law_1089 rfl rfl ?_
                                                              refine ev_iconst dL_law_1090 (v := (1 : Int32)) zci_1 ?_
                                                              refine ev_iadd dL_law_1091 rfl ?_
                                                              refine ev_sld dL_law_1092 (by rw [hsl]; exact zib_in g223) (x := sf (l3 + (1 : Int32)).toNatClampNeg) (by rw [hsf]) ?_
                                                              refine ev_aload_n dL_law_1093 rfl rfl ?_
                                                              refine ev_iload_n dL_law_1094 rfl rfl ?_
                                                              refine ev_iconst dL_law_1095 (v := (2 : Int32)) zci_2 ?_
                                                              refine ev_iadd dL_law_1096 rfl ?_
                                                              refine ev_sld dL_law_1097 (by rw [hsl]; exact zib_in g224) (x := sf (l3 + (2 : Int32)).toNatClampNeg) (by rw [hsf]) ?_
                                                              obtain ⟨p227, e228, h⟩ := zbd h
                                                              refine ev_callV0 dL_law_1098 zm12_laws zl_NineHeapsLaw_129 zi12_laws zv12_laws (zrcM hS) (As := [.int (sf (l3 + (1 : Int32)).toNatClampNeg), .int (sf (l3 + (2 : Int32)).toNatClampNeg)]) (rest := [.int p225.1]) rfl rfl (Nat.le_of_ble_eq_true rfl) rfl (Nat.le_of_ble_eq_true rfl) (d' := 10) (by omega) (e12_laws hw hS (Nat.le_refl _) e228) (fun v μ1 q => ?_)
                                                              obtain ⟨rfl, rfl⟩ := q
                                                              refine ev_icmp_eq dL_law_1101 (tgt := 1487) (by decide) (fun c229 => ?_) (fun c229 => ?_)
                                                              · replace h := zit c229 h
                                                                exact EV.mask [true, true, true, true] rfl (EV.more (eL_law_B1487 (bq := q) hsl hsf hw hd (fun l3' n' kd' I' R' h' => ih l3' n' kd' I' R' h') l3 n kd p227.2 p225.2.2 h) (Nat.le_refl _) (by omega) (by omega))
                                                              · replace h := zif c229 h
                                                                refine ev_iconst dL_law_1104 (v := (0 : Int32)) zci_0 ?_
                                                                obtain rfl := Option.some.inj h
                                                                exact ev_end_i dL_law_1105 rfl rfl ⟨rfl, rfl⟩
                                                            · replace h := zif c222 h
                                                              by_cases c230 : ((sf l3.toNatClampNeg) &&& (63 : Int32)) = (28 : Int32)
                                                              · replace h := zit c230 h
                                                                refine ev_tableIn dL_law_33 (by rw [c230]; decide) (by rw [c230]; decide) (off := 1073) (by rw [c230]; rfl) (tgt := 1106) (by decide) ?_
                                                                refine ev_aload_n dL_law_1106 rfl rfl ?_
                                                                refine ev_aload_n dL_law_1107 rfl rfl ?_
                                                                refine ev_iload_n dL_law_1108 rfl rfl ?_
                                                                refine ev_iconst dL_law_1109 (v := (1 : Int32)) zci_1 ?_
                                                                refine ev_iadd dL_law_1110 rfl ?_
                                                                obtain ⟨g231, h⟩ := zgd h
                                                                refine ev_sld dL_law_1111 (by rw [hsl]; exact zib_in g231) (x := sf (l3 + (1 : Int32)).toNatClampNeg) (by rw [hsf]) ?_
                                                                refine ev_aload_n dL_law_1112 rfl rfl ?_
                                                                refine ev_iload_n dL_law_1113 rfl rfl ?_
                                                                refine ev_iconst dL_law_1114 (v := (2 : Int32)) zci_2 ?_
                                                                refine ev_iadd dL_law_1115 rfl ?_
                                                                obtain ⟨g232, h⟩ := zgd h
                                                                refine ev_sld dL_law_1116 (by rw [hsl]; exact zib_in g232) (x := sf (l3 + (2 : Int32)).toNatClampNeg) (by rw [hsf]) ?_
                                                                obtain ⟨p233, e234, h⟩ := zbd h
                                                                refine ev_callV0 dL_law_1117 zm11_film zl_NineHeapsLaw_130 zi11_film zv11_film (zrcX hS) (As := [.int (sf (l3 + (1 : Int32)).toNatClampNeg), .int (sf (l3 + (2 : Int32)).toNatClampNeg)]) (rest := []) rfl rfl (Nat.le_of_ble_eq_true rfl) rfl (Nat.le_of_ble_eq_true rfl) (d' := 8) (by omega) (e11_film hw hS (Nat.le_refl _) e234) (fun v μ1 q => ?_)
                                                                obtain ⟨rfl, rfl⟩ := q
                                                                refine ev_aload_n dL_law_1120 rfl rfl ?_
                                                                refine ev_aload_n dL_law_1121 rfl rfl ?_
                                                                refine ev_iload_n dL_law_1122 rfl rfl ?_
                                                                refine ev_iconst dL_law_1123 (v := (1 : Int32)) zci_1 ?_
                                                                refine ev_iadd dL_law_1124 rfl ?_
                                                                refine ev_sld dL_law_1125 (by rw [hsl]; exact zib_in g231) (x := sf (l3 + (1 : Int32)).toNatClampNeg) (by rw [hsf]) ?_
                                                                refine ev_aload_n dL_law_1126 rfl rfl ?_
                                                                refine ev_iload_n dL_law_1127 rfl rfl ?_
                                                                refine ev_iconst dL_law_1128 (v := (2 : Int32)) zci_2 ?_
                                                                refine ev_iadd dL_law_1129 rfl ?_
                                                                refine ev_sld dL_law_1130 (by rw [hsl]; exact zib_in g232) (x := sf (l3 + (2 : Int32)).toNatClampNeg) (by rw [hsf]) ?_
                                                                obtain ⟨p235, e236, h⟩ := zbd h
                                                                refine ev_callV0 dL_law_1131 zm12_film zl_NineHeapsLaw_133 zi12_film zv12_film (zrcM hS) (As := [.int (sf (l3 + (1 : Int32)).toNatClampNeg), .int (sf (l3 + (2 : Int32)).toNatClampNeg)]) (rest := [.int p233.1]) rfl rfl (Nat.le_of_ble_eq_true rfl) rfl (Nat.le_of_ble_eq_true rfl) (d' := 9) (by omega) (e12_film hw hS (Nat.le_refl _) e236) (fun v μ1 q => ?_)
                                                                obtain ⟨rfl, rfl⟩ := q
                                                                refine ev_icmp_eq dL_law_1134 (tgt := 1487) (by decide) (fun c237 => ?_) (fun c237 => ?_)
                                                                · replace h := zit c237 h
                                                                  exact EV.mask [true, true, true, true] rfl (EV.more (eL_law_B1487 (bq := q) hsl hsf hw hd (fun l3' n' kd' I' R' h' => ih l3' n' kd' I' R' h') l3 n kd p235.2 p233.2.2 h) (Nat.le_refl _) (by omega) (by omega))
                                                                · replace h := zif c237 h
                                                                  refine ev_iconst dL_law_1137 (v := (0 : Int32)) zci_0 ?_
                                                                  obtain rfl := Option.some.inj h
                                                                  exact ev_end_i dL_law_1138 rfl rfl ⟨rfl, rfl⟩
                                                              · replace h := zif c230 h
                                                                by_cases c238 : ((sf l3.toNatClampNeg) &&& (63 : Int32)) = (29 : Int32)
                                                                · replace h := zit c238 h
                                                                  refine ev_tableIn dL_law_33 (by rw [c238]; decide) (by rw [c238]; decide) (off := 1106) (by rw [c238]; rfl) (tgt := 1139) (by decide) ?_
                                                                  refine ev_aload_n dL_law_1139 rfl rfl ?_
                                                                  refine ev_aload_n dL_law_1140 rfl rfl ?_
                                                                  refine ev_iload_n dL_law_1141 rfl rfl ?_
                                                                  refine ev_iconst dL_law_1142 (v := (1 : Int32)) zci_1 ?_
                                                                  refine ev_iadd dL_law_1143 rfl ?_
                                                                  obtain ⟨g239, h⟩ := zgd h
                                                                  refine ev_sld dL_law_1144 (by rw [hsl]; exact zib_in g239) (x := sf (l3 + (1 : Int32)).toNatClampNeg) (by rw [hsf]) ?_
                                                                  refine ev_aload_n dL_law_1145 rfl rfl ?_
                                                                  refine ev_iload_n dL_law_1146 rfl rfl ?_
                                                                  refine ev_iconst dL_law_1147 (v := (2 : Int32)) zci_2 ?_
                                                                  refine ev_iadd dL_law_1148 rfl ?_
                                                                  obtain ⟨g240, h⟩ := zgd h
                                                                  refine ev_sld dL_law_1149 (by rw [hsl]; exact zib_in g240) (x := sf (l3 + (2 : Int32)).toNatClampNeg) (by rw [hsf]) ?_
                                                                  obtain ⟨p241, e242, h⟩ := zbd h
                                                                  refine ev_callV0 dL_law_1150 zm11_drawn zl_NineHeapsLaw_134 zi11_drawn zv11_drawn (zrcX hS) (As := [.int (sf (l3 + (1 : Int32)).toNatClampNeg), .int (sf (l3 + (2 : Int32)).toNatClampNeg)]) (rest := []) rfl rfl (Nat.le_of_ble_eq_true rfl) rfl (Nat.le_of_ble_eq_true rfl) (d' := 8) (by omega) (e11_drawn hw hS (Nat.le_refl _) e242) (fun v μ1 q => ?_)
                                                                  obtain ⟨rfl, rfl⟩ := q
                                                                  refine ev_aload_n dL_law_1153 rfl rfl ?_
                                                                  refine ev_aload_n dL_law_1154 rfl rfl ?_
                                                                  refine ev_iload_n dL_law_1155 rfl rfl ?_
                                                                  refine ev_iconst dL_law_1156 (v := (1 : Int32)) zci_1 ?_
                                                                  refine ev_iadd dL_law_1157 rfl ?_
                                                                  refine ev_sld dL_law_1158 (by rw [hsl]; exact zib_in g239) (x := sf (l3 + (1 : Int32)).toNatClampNeg) (by rw [hsf]) ?_
                                                                  refine ev_aload_n dL_law_1159 rfl rfl ?_
                                                                  refine ev_iload_n dL_law_1160 rfl rfl ?_
                                                                  refine ev_iconst dL_law_1161 (v := (2 : Int32)) zci_2 ?_
                                                                  refine ev_iadd dL_law_1162 rfl ?_
                                                                  refine ev_sld dL_law_1163 (by rw [hsl]; exact zib_in g240) (x := sf (l3 + (2 : Int32)).toNatClampNeg) (by rw [hsf]) ?_
                                                                  obtain ⟨p243, e244, h⟩ := zbd h
                                                                  refine ev_callV0 dL_law_1164 zm12_drawn zl_NineHeapsLaw_137 zi12_drawn zv12_drawn (zrcM hS) (As := [.int (sf (l3 + (1 : Int32)).toNatClampNeg), .int (sf (l3 + (2 : Int32)).toNatClampNeg)]) (rest := [.int p241.1]) rfl rfl (Nat.le_of_ble_eq_true rfl) rfl (Nat.le_of_ble_eq_true rfl) (d' := 10) (by omega) (e12_drawn hw hS (Nat.le_refl _) e244) (fun v μ1 q => ?_)
                                                                  obtain ⟨rfl, rfl⟩ := q
                                                                  refine ev_icmp_eq dL_law_1167 (tgt := 1487) (by decide) (fun c245 => ?_) (fun c245 => ?_)
                                                                  · replace h := zit c245 h
                                                                    exact EV.mask [true, true, true, true] rfl (EV.more (eL_law_B1487 (bq := q) hsl hsf hw hd (fun l3' n' kd' I' R' h' => ih l3' n' kd' I' R' h') l3 n kd p243.2 p241.2.2 h) (Nat.le_refl _) (by omega) (by omega))
                                                                  · replace h := zif c245 h
                                                                    refine ev_iconst dL_law_1170 (v := (0 : Int32)) zci_0 ?_
                                                                    obtain rfl := Option.some.inj h
                                                                    exact ev_end_i dL_law_1171 rfl rfl ⟨rfl, rfl⟩
                                                                · replace h := zif c238 h
                                                                  by_cases c246 : ((sf l3.toNatClampNeg) &&& (63 : Int32)) = (30 : Int32)
                                                                  · replace h := zit c246 h
                                                                    refine ev_tableIn dL_law_33 (by rw [c246]; decide) (by rw [c246]; decide) (off := 1139) (by rw [c246]; rfl) (tgt := 1172) (by decide) ?_
                                                                    refine ev_aload_n dL_law_1172 rfl rfl ?_
                                                                    refine ev_aload_n dL_law_1173 rfl rfl ?_
                                                                    refine ev_iload_n dL_law_1174 rfl rfl ?_
                                                                    refine ev_iconst dL_law_1175 (v := (1 : Int32)) zci_1 ?_
                                                                    refine ev_iadd dL_law_1176 rfl ?_
                                                                    obtain ⟨g247, h⟩ := zgd h
                                                                    refine ev_sld dL_law_1177 (by rw [hsl]; exact zib_in g247) (x := sf (l3 + (1 : Int32)).toNatClampNeg) (by rw [hsf]) ?_
                                                                    refine ev_aload_n dL_law_1178 rfl rfl ?_
                                                                    refine ev_iload_n dL_law_1179 rfl rfl ?_
                                                                    refine ev_iconst dL_law_1180 (v := (2 : Int32)) zci_2 ?_
                                                                    refine ev_iadd dL_law_1181 rfl ?_
                                                                    obtain ⟨g248, h⟩ := zgd h
                                                                    refine ev_sld dL_law_1182 (by rw [hsl]; exact zib_in g248) (x := sf (l3 + (2 : Int32)).toNatClampNeg) (by rw [hsf]) ?_
                                                                    refine ev_aload_n dL_law_1183 rfl rfl ?_
                                                                    refine ev_iload_n dL_law_1184 rfl rfl ?_
                                                                    refine ev_iconst dL_law_1185 (v := (3 : Int32)) zci_3 ?_
                                                                    refine ev_iadd dL_law_1186 rfl ?_
                                                                    obtain ⟨g249, h⟩ := zgd h
                                                                    refine ev_sld dL_law_1187 (by rw [hsl]; exact zib_in g249) (x := sf (l3 + (3 : Int32)).toNatClampNeg) (by rw [hsf]) ?_
                                                                    refine ev_aload_n dL_law_1188 rfl rfl ?_
                                                                    refine ev_iload_n dL_law_1189 rfl rfl ?_
                                                                    refine ev_iconst dL_law_1190 (v := (4 : Int32)) zci_4 ?_
                                                                    refine ev_iadd dL_law_1191 rfl ?_
                                                                    obtain ⟨g250, h⟩ := zgd h
                                                                    refine ev_sld dL_law_1192 (by rw [hsl]; exact zib_in g250) (x := sf (l3 + (4 : Int32)).toNatClampNeg) (by rw [hsf]) ?_
                                                                    obtain ⟨p251, e252, h⟩ := zbd h
                                                                    refine ev_callV0 dL_law_1193 zm11_odds zl_NineHeapsLaw_138 zi11_odds zv11_odds (zrcX hS) (As := [.int (sf (l3 + (1 : Int32)).toNatClampNeg), .int (sf (l3 + (2 : Int32)).toNatClampNeg), .int (sf (l3 + (3 : Int32)).toNatClampNeg), .int (sf (l3 + (4 : Int32)).toNatClampNeg)]) (rest := []) rfl rfl (Nat.le_of_ble_eq_true rfl) rfl (Nat.le_of_ble_eq_true rfl) (d' := 8) (by omega) (e11_odds hw hS (Nat.le_refl _) e252) (fun v μ1 q => ?_)
                                                                    obtain ⟨rfl, rfl⟩ := q
                                                                    refine ev_aload_n dL_law_1196 rfl rfl ?_
                                                                    refine ev_aload_n dL_law_1197 rfl rfl ?_
                                                                    refine ev_iload_n dL_law_1198 rfl rfl ?_
                                                                    refine ev_iconst dL_law_1199 (v := (1 : Int32)) zci_1 ?_
                                                                    refine ev_iadd dL_law_1200 rfl ?_
                                                                    refine ev_sld dL_law_1201 (by rw [hsl]; exact zib_in g247) (x := sf (l3 + (1 : Int32)).toNatClampNeg) (by rw [hsf]) ?_
                                                                    refine ev_aload_n dL_law_1202 rfl rfl ?_
                                                                    refine ev_iload_n dL_law_1203 rfl rfl ?_
                                                                    refine ev_iconst dL_law_1204 (v := (2 : Int32)) zci_2 ?_
                                                                    refine ev_iadd dL_law_1205 rfl ?_
                                                                    refine ev_sld dL_law_1206 (by rw [hsl]; exact zib_in g248) (x := sf (l3 + (2 : Int32)).toNatClampNeg) (by rw [hsf]) ?_
                                                                    refine ev_aload_n dL_law_1207 rfl rfl ?_
                                                                    refine ev_iload_n dL_law_1208 rfl rfl ?_
                                                                    refine ev_iconst dL_law_1209 (v := (3 : Int32)) zci_3 ?_
                                                                    refine ev_iadd dL_law_1210 rfl ?_
                                                                    refine ev_sld dL_law_1211 (by rw [hsl]; exact zib_in g249) (x := sf (l3 + (3 : Int32)).toNatClampNeg) (by rw [hsf]) ?_
                                                                    refine ev_aload_n dL_law_1212 rfl rfl ?_
                                                                    refine ev_iload_n dL_law_1213 rfl rfl ?_
                                                                    refine ev_iconst dL_law_1214 (v := (4 : Int32)) zci_4 ?_
                                                                    refine ev_iadd dL_law_1215 rfl ?_
                                                                    refine ev_sld dL_law_1216 (by rw [hsl]; exact zib_in g250) (x := sf (l3 + (4 : Int32)).toNatClampNeg) (by rw [hsf]) ?_
                                                                    obtain ⟨p253, e254, h⟩ := zbd h
                                                                    refine ev_callV0 dL_law_1217 zm12_odds zl_NineHeapsLaw_142 zi12_odds zv12_odds (zrcM hS) (As := [.int (sf (l3 + (1 : Int32)).toNatClampNeg), .int (sf (l3 + (2 : Int32)).toNatClampNeg), .int (sf (l3 + (3 : Int32)).toNatClampNeg), .int (sf (l3 + (4 : Int32)).toNatClampNeg)]) (rest := [.long p251.1]) rfl rfl (Nat.le_of_ble_eq_true rfl) rfl (Nat.le_of_ble_eq_true rfl) (d' := 10) (by omega) (e12_odds hw hS (Nat.le_refl _) e254) (fun v μ1 q => ?_)
                                                                    obtain ⟨rfl, rfl⟩ := q
                                                                    refine ev_lcmp dL_law_1220 rfl ?_
                                                                    refine ev_if_eq dL_law_1221 (tgt := 1487) (by decide) (fun c255 => ?_) (fun c255 => ?_)
                                                                    · replace h := zit c255 h
                                                                      exact EV.mask [true, true, true, true] rfl (EV.more (eL_law_B1487 (bq := q) hsl hsf hw hd (fun l3' n' kd' I' R' h' => ih l3' n' kd' I' R' h') l3 n kd p253.2 p251.2.2 h) (Nat.le_refl _) (by omega) (by omega))
                                                                    · replace h := zif c255 h
                                                                      refine ev_iconst dL_law_1224 (v := (0 : Int32)) zci_0 ?_
                                                                      obtain rfl := Option.some.inj h
                                                                      exact ev_end_i dL_law_1225 rfl rfl ⟨rfl, rfl⟩
                                                                  · replace h := zif c246 h
                                                                    by_cases c256 : ((sf l3.toNatClampNeg) &&& (63 : Int32)) = (31 : Int32)
                                                                    · replace h := zit c256 h
                                                                      refine ev_tableIn dL_law_33 (by rw [c256]; decide) (by rw [c256]; decide) (off := 1193) (by rw [c256]; rfl) (tgt := 1226) (by decide) ?_
                                                                      refine ev_aload_n dL_law_1226 rfl rfl ?_
                                                                      obtain ⟨p257, e258, h⟩ := zbd h
                                                                      refine ev_callV0 dL_law_1227 zm11_image zl_NineHeapsLaw_143 zi11_image zv11_image (zrcX hS) (As := []) (rest := []) rfl rfl (Nat.le_of_ble_eq_true rfl) rfl (Nat.le_of_ble_eq_true rfl) (d' := 1) (by omega) (e11_image hw hS (Nat.le_refl _) e258) (fun v μ1 q => ?_)
                                                                      obtain ⟨rfl, rfl⟩ := q
                                                                      refine ev_aload_n dL_law_1230 rfl rfl ?_
                                                                      obtain ⟨p259, e260, h⟩ := zbd h
                                                                      refine ev_callV0 dL_law_1231 zm12_image zl_NineHeapsLaw_146 zi12_image zv12_image (zrcM hS) (As := []) (rest := [.int p257.1]) rfl rfl (Nat.le_of_ble_eq_true rfl) rfl (Nat.le_of_ble_eq_true rfl) (d' := 1) (by omega) (e12_image hw hS (Nat.le_refl _) e260) (fun v μ1 q => ?_)
                                                                      obtain ⟨rfl, rfl⟩ := q
                                                                      refine ev_icmp_eq dL_law_1234 (tgt := 1487) (by decide) (fun c261 => ?_) (fun c261 => ?_)
                                                                      · replace h := zit c261 h
                                                                        exact EV.mask [true, true, true, true] rfl (EV.more (eL_law_B1487 (bq := q) hsl hsf hw hd (fun l3' n' kd' I' R' h' => ih l3' n' kd' I' R' h') l3 n kd p259.2 R h) (Nat.le_refl _) (by omega) (by omega))
                                                                      · replace h := zif c261 h
                                                                        refine ev_iconst dL_law_1237 (v := (0 : Int32)) zci_0 ?_
                                                                        obtain rfl := Option.some.inj h
                                                                        exact ev_end_i dL_law_1238 rfl rfl ⟨rfl, rfl⟩
                                                                    · replace h := zif c256 h
                                                                      by_cases c262 : ((sf l3.toNatClampNeg) &&& (63 : Int32)) = (32 : Int32)
                                                                      · replace h := zit c262 h
                                                                        refine ev_tableIn dL_law_33 (by rw [c262]; decide) (by rw [c262]; decide) (off := 1206) (by rw [c262]; rfl) (tgt := 1239) (by decide) ?_
                                                                        refine ev_aload_n dL_law_1239 rfl rfl ?_
                                                                        obtain ⟨p263, e264, h⟩ := zbd h
                                                                        refine ev_callV0 dL_law_1240 zm11_back zl_NineHeapsLaw_147 zi11_back zv11_back (zrcX hS) (As := []) (rest := []) rfl rfl (Nat.le_of_ble_eq_true rfl) rfl (Nat.le_of_ble_eq_true rfl) (d' := 1) (by omega) (e11_back hw hS (Nat.le_refl _) e264) (fun v μ1 q => ?_)
                                                                        obtain ⟨rfl, rfl⟩ := q
                                                                        refine ev_aload_n dL_law_1243 rfl rfl ?_
                                                                        obtain ⟨p265, e266, h⟩ := zbd h
                                                                        refine ev_callV0 dL_law_1244 zm12_back zl_NineHeapsLaw_150 zi12_back zv12_back (zrcM hS) (As := []) (rest := [.int p263.1]) rfl rfl (Nat.le_of_ble_eq_true rfl) rfl (Nat.le_of_ble_eq_true rfl) (d' := 1) (by omega) (e12_back hw hS (Nat.le_refl _) e266) (fun v μ1 q => ?_)
                                                                        obtain ⟨rfl, rfl⟩ := q
                                                                        refine ev_icmp_eq dL_law_1247 (tgt := 1487) (by decide) (fun c267 => ?_) (fun c267 => ?_)
                                                                        · replace h := zit c267 h
                                                                          exact EV.mask [true, true, true, true] rfl (EV.more (eL_law_B1487 (bq := q) hsl hsf hw hd (fun l3' n' kd' I' R' h' => ih l3' n' kd' I' R' h') l3 n kd p265.2 p263.2.2 h) (Nat.le_refl _) (by omega) (by omega))
                                                                        · replace h := zif c267 h
                                                                          refine ev_iconst dL_law_1250 (v := (0 : Int32)) zci_0 ?_
                                                                          obtain rfl := Option.some.inj h
                                                                          exact ev_end_i dL_law_1251 rfl rfl ⟨rfl, rfl⟩
                                                                      · replace h := zif c262 h
                                                                        by_cases c268 : ((sf l3.toNatClampNeg) &&& (63 : Int32)) = (33 : Int32)
                                                                        · replace h := zit c268 h
                                                                          refine ev_tableIn dL_law_33 (by rw [c268]; decide) (by rw [c268]; decide) (off := 1219) (by rw [c268]; rfl) (tgt := 1252) (by decide) ?_
                                                                          refine ev_aload_n dL_law_1252 rfl rfl ?_
                                                                          refine ev_aload_n dL_law_1253 rfl rfl ?_
                                                                          refine ev_iload_n dL_law_1254 rfl rfl ?_
                                                                          refine ev_iconst dL_law_1255 (v := (1 : Int32)) zci_1 ?_
                                                                          refine ev_iadd dL_law_1256 rfl ?_
                                                                          obtain ⟨g269, h⟩ := zgd h
                                                                          refine ev_sld dL_law_1257 (by rw [hsl]; exact zib_in g269) (x := sf (l3 + (1 : Int32)).toNatClampNeg) (by rw [hsf]) ?_
                                                                          refine ev_aload_n dL_law_1258 rfl rfl ?_
                                                                          refine ev_iload_n dL_law_1259 rfl rfl ?_
                                                                          refine ev_iconst dL_law_1260 (v := (2 : Int32)) zci_2 ?_
                                                                          refine ev_iadd dL_law_1261 rfl ?_
                                                                          obtain ⟨g270, h⟩ := zgd h
                                                                          refine ev_sld dL_law_1262 (by rw [hsl]; exact zib_in g270) (x := sf (l3 + (2 : Int32)).toNatClampNeg) (by rw [hsf]) ?_
                                                                          refine ev_aload_n dL_law_1263 rfl rfl ?_
                                                                          refine ev_iload_n dL_law_1264 rfl rfl ?_
                                                                          refine ev_iconst dL_law_1265 (v := (3 : Int32)) zci_3 ?_
                                                                          refine ev_iadd dL_law_1266 rfl ?_
                                                                          obtain ⟨g271, h⟩ := zgd h
                                                                          refine ev_sld dL_law_1267 (by rw [hsl]; exact zib_in g271) (x := sf (l3 + (3 : Int32)).toNatClampNeg) (by rw [hsf]) ?_
                                                                          obtain ⟨p272, e273, h⟩ := zbd h
                                                                          refine ev_callV0 dL_law_1268 zm11_sheet zl_NineHeapsLaw_151 zi11_sheet zv11_sheet (zrcX hS) (As := [.int (sf (l3 + (1 : Int32)).toNatClampNeg), .int (sf (l3 + (2 : Int32)).toNatClampNeg), .int (sf (l3 + (3 : Int32)).toNatClampNeg)]) (rest := []) rfl rfl (Nat.le_of_ble_eq_true rfl) rfl (Nat.le_of_ble_eq_true rfl) (d' := 3) (by omega) (e11_sheet hw hS (Nat.le_refl _) e273) (fun v μ1 q => ?_)
                                                                          obtain ⟨rfl, rfl⟩ := q
                                                                          refine ev_aload_n dL_law_1271 rfl rfl ?_
                                                                          refine ev_aload_n dL_law_1272 rfl rfl ?_
                                                                          refine ev_iload_n dL_law_1273 rfl rfl ?_
                                                                          refine ev_iconst dL_law_1274 (v := (1 : Int32)) zci_1 ?_
                                                                          refine ev_iadd dL_law_1275 rfl ?_
                                                                          refine ev_sld dL_law_1276 (by rw [hsl]; exact zib_in g269) (x := sf (l3 + (1 : Int32)).toNatClampNeg) (by rw [hsf]) ?_
                                                                          refine ev_aload_n dL_law_1277 rfl rfl ?_
                                                                          refine ev_iload_n dL_law_1278 rfl rfl ?_
                                                                          refine ev_iconst dL_law_1279 (v := (2 : Int32)) zci_2 ?_
                                                                          refine ev_iadd dL_law_1280 rfl ?_
                                                                          refine ev_sld dL_law_1281 (by rw [hsl]; exact zib_in g270) (x := sf (l3 + (2 : Int32)).toNatClampNeg) (by rw [hsf]) ?_
                                                                          refine ev_aload_n dL_law_1282 rfl rfl ?_
                                                                          refine ev_iload_n dL_law_1283 rfl rfl ?_
                                                                          refine ev_iconst dL_law_1284 (v := (3 : Int32)) zci_3 ?_
                                                                          refine ev_iadd dL_law_1285 rfl ?_
                                                                          refine ev_sld dL_law_1286 (by rw [hsl]; exact zib_in g271) (x := sf (l3 + (3 : Int32)).toNatClampNeg) (by rw [hsf]) ?_
                                                                          obtain ⟨p274, e275, h⟩ := zbd h
                                                                          refine ev_callV0 dL_law_1287 zm12_sheet zl_NineHeapsLaw_154 zi12_sheet zv12_sheet (zrcM hS) (As := [.int (sf (l3 + (1 : Int32)).toNatClampNeg), .int (sf (l3 + (2 : Int32)).toNatClampNeg), .int (sf (l3 + (3 : Int32)).toNatClampNeg)]) (rest := [.int p272.1]) rfl rfl (Nat.le_of_ble_eq_true rfl) rfl (Nat.le_of_ble_eq_true rfl) (d' := 2) (by omega) (e12_sheet hw hS (Nat.le_refl _) e275) (fun v μ1 q => ?_)
                                                                          obtain ⟨rfl, rfl⟩ := q
                                                                          refine ev_icmp_eq dL_law_1290 (tgt := 1487) (by decide) (fun c276 => ?_) (fun c276 => ?_)
                                                                          · replace h := zit c276 h
                                                                            exact EV.mask [true, true, true, true] rfl (EV.more (eL_law_B1487 (bq := q) hsl hsf hw hd (fun l3' n' kd' I' R' h' => ih l3' n' kd' I' R' h') l3 n kd p274.2 R h) (Nat.le_refl _) (by omega) (by omega))
                                                                          · replace h := zif c276 h
                                                                            refine ev_iconst dL_law_1293 (v := (0 : Int32)) zci_0 ?_
                                                                            obtain rfl := Option.some.inj h
                                                                            exact ev_end_i dL_law_1294 rfl rfl ⟨rfl, rfl⟩
                                                                        · replace h := zif c268 h
                                                                          by_cases c277 : ((sf l3.toNatClampNeg) &&& (63 : Int32)) = (34 : Int32)
                                                                          · replace h := zit c277 h
                                                                            refine ev_tableIn dL_law_33 (by rw [c277]; decide) (by rw [c277]; decide) (off := 1262) (by rw [c277]; rfl) (tgt := 1295) (by decide) ?_
                                                                            refine ev_aload_n dL_law_1295 rfl rfl ?_
                                                                            refine ev_aload_n dL_law_1296 rfl rfl ?_
                                                                            refine ev_iload_n dL_law_1297 rfl rfl ?_
                                                                            refine ev_iconst dL_law_1298 (v := (1 : Int32)) zci_1 ?_
                                                                            refine ev_iadd dL_law_1299 rfl ?_
                                                                            obtain ⟨g278, h⟩ := zgd h
                                                                            refine ev_sld dL_law_1300 (by rw [hsl]; exact zib_in g278) (x := sf (l3 + (1 : Int32)).toNatClampNeg) (by rw [hsf]) ?_
                                                                            refine ev_aload_n dL_law_1301 rfl rfl ?_
                                                                            refine ev_iload_n dL_law_1302 rfl rfl ?_
                                                                            refine ev_iconst dL_law_1303 (v := (2 : Int32)) zci_2 ?_
                                                                            refine ev_iadd dL_law_1304 rfl ?_
                                                                            obtain ⟨g279, h⟩ := zgd h
                                                                            refine ev_sld dL_law_1305 (by rw [hsl]; exact zib_in g279) (x := sf (l3 + (2 : Int32)).toNatClampNeg) (by rw [hsf]) ?_
                                                                            refine ev_aload_n dL_law_1306 rfl rfl ?_
                                                                            refine ev_iload_n dL_law_1307 rfl rfl ?_
                                                                            refine ev_iconst dL_law_1308 (v := (3 : Int32)) zci_3 ?_
                                                                            refine ev_iadd dL_law_1309 rfl ?_
                                                                            obtain ⟨g280, h⟩ := zgd h
                                                                            refine ev_sld dL_law_1310 (by rw [hsl]; exact zib_in g280) (x := sf (l3 + (3 : Int32)).toNatClampNeg) (by rw [hsf]) ?_
                                                                            obtain ⟨p281, e282, h⟩ := zbd h
                                                                            refine ev_callV0 dL_law_1311 zm11_cell zl_NineHeapsLaw_155 zi11_cell zv11_cell (zrcX hS) (As := [.int (sf (l3 + (1 : Int32)).toNatClampNeg), .int (sf (l3 + (2 : Int32)).toNatClampNeg), .int (sf (l3 + (3 : Int32)).toNatClampNeg)]) (rest := []) rfl rfl (Nat.le_of_ble_eq_true rfl) rfl (Nat.le_of_ble_eq_true rfl) (d' := 3) (by omega) (e11_cell hw hS (Nat.le_refl _) e282) (fun v μ1 q => ?_)
                                                                            obtain ⟨rfl, rfl⟩ := q
                                                                            refine ev_aload_n dL_law_1314 rfl rfl ?_
                                                                            refine ev_aload_n dL_law_1315 rfl rfl ?_
                                                                            refine ev_iload_n dL_law_1316 rfl rfl ?_
                                                                            refine ev_iconst dL_law_1317 (v := (1 : Int32)) zci_1 ?_
                                                                            refine ev_iadd dL_law_1318 rfl ?_
                                                                            refine ev_sld dL_law_1319 (by rw [hsl]; exact zib_in g278) (x := sf (l3 + (1 : Int32)).toNatClampNeg) (by rw [hsf]) ?_
                                                                            refine ev_aload_n dL_law_1320 rfl rfl ?_
                                                                            refine ev_iload_n dL_law_1321 rfl rfl ?_
                                                                            refine ev_iconst dL_law_1322 (v := (2 : Int32)) zci_2 ?_
                                                                            refine ev_iadd dL_law_1323 rfl ?_
                                                                            refine ev_sld dL_law_1324 (by rw [hsl]; exact zib_in g279) (x := sf (l3 + (2 : Int32)).toNatClampNeg) (by rw [hsf]) ?_
                                                                            refine ev_aload_n dL_law_1325 rfl rfl ?_
                                                                            refine ev_iload_n dL_law_1326 rfl rfl ?_
                                                                            refine ev_iconst dL_law_1327 (v := (3 : Int32)) zci_3 ?_
                                                                            refine ev_iadd dL_law_1328 rfl ?_
                                                                            refine ev_sld dL_law_1329 (by rw [hsl]; exact zib_in g280) (x := sf (l3 + (3 : Int32)).toNatClampNeg) (by rw [hsf]) ?_
                                                                            obtain ⟨p283, e284, h⟩ := zbd h
                                                                            refine ev_callV0 dL_law_1330 zm12_cell zl_NineHeapsLaw_158 zi12_cell zv12_cell (zrcM hS) (As := [.int (sf (l3 + (1 : Int32)).toNatClampNeg), .int (sf (l3 + (2 : Int32)).toNatClampNeg), .int (sf (l3 + (3 : Int32)).toNatClampNeg)]) (rest := [.int p281.1]) rfl rfl (Nat.le_of_ble_eq_true rfl) rfl (Nat.le_of_ble_eq_true rfl) (d' := 2) (by omega) (e12_cell hw hS (Nat.le_refl _) e284) (fun v μ1 q => ?_)
                                                                            obtain ⟨rfl, rfl⟩ := q
                                                                            refine ev_icmp_eq dL_law_1333 (tgt := 1487) (by decide) (fun c285 => ?_) (fun c285 => ?_)
                                                                            · replace h := zit c285 h
                                                                              exact EV.mask [true, true, true, true] rfl (EV.more (eL_law_B1487 (bq := q) hsl hsf hw hd (fun l3' n' kd' I' R' h' => ih l3' n' kd' I' R' h') l3 n kd p283.2 R h) (Nat.le_refl _) (by omega) (by omega))
                                                                            · replace h := zif c285 h
                                                                              refine ev_iconst dL_law_1336 (v := (0 : Int32)) zci_0 ?_
                                                                              obtain rfl := Option.some.inj h
                                                                              exact ev_end_i dL_law_1337 rfl rfl ⟨rfl, rfl⟩
                                                                          · replace h := zif c277 h
                                                                            by_cases c286 : ((sf l3.toNatClampNeg) &&& (63 : Int32)) = (35 : Int32)
                                                                            · replace h := zit c286 h
                                                                              refine ev_tableIn dL_law_33 (by rw [c286]; decide) (by rw [c286]; decide) (off := 1305) (by rw [c286]; rfl) (tgt := 1338) (by decide) ?_
                                                                              refine ev_aload_n dL_law_1338 rfl rfl ?_
                                                                              refine ev_aload_n dL_law_1339 rfl rfl ?_
                                                                              refine ev_iload_n dL_law_1340 rfl rfl ?_
                                                                              refine ev_iconst dL_law_1341 (v := (1 : Int32)) zci_1 ?_
                                                                              refine ev_iadd dL_law_1342 rfl ?_
                                                                              obtain ⟨g287, h⟩ := zgd h
                                                                              refine ev_sld dL_law_1343 (by rw [hsl]; exact zib_in g287) (x := sf (l3 + (1 : Int32)).toNatClampNeg) (by rw [hsf]) ?_
                                                                              refine ev_aload_n dL_law_1344 rfl rfl ?_
                                                                              refine ev_iload_n dL_law_1345 rfl rfl ?_
                                                                              refine ev_iconst dL_law_1346 (v := (2 : Int32)) zci_2 ?_
                                                                              refine ev_iadd dL_law_1347 rfl ?_
                                                                              obtain ⟨g288, h⟩ := zgd h
                                                                              refine ev_sld dL_law_1348 (by rw [hsl]; exact zib_in g288) (x := sf (l3 + (2 : Int32)).toNatClampNeg) (by rw [hsf]) ?_
                                                                              refine ev_aload_n dL_law_1349 rfl rfl ?_
                                                                              refine ev_iload_n dL_law_1350 rfl rfl ?_
                                                                              refine ev_iconst dL_law_1351 (v := (3 : Int32)) zci_3 ?_
                                                                              refine ev_iadd dL_law_1352 rfl ?_
                                                                              obtain ⟨g289, h⟩ := zgd h
                                                                              refine ev_sld dL_law_1353 (by rw [hsl]; exact zib_in g289) (x := sf (l3 + (3 : Int32)).toNatClampNeg) (by rw [hsf]) ?_
                                                                              refine ev_aload_n dL_law_1354 rfl rfl ?_
                                                                              refine ev_iload_n dL_law_1355 rfl rfl ?_
                                                                              refine ev_iconst dL_law_1356 (v := (4 : Int32)) zci_4 ?_
                                                                              refine ev_iadd dL_law_1357 rfl ?_
                                                                              obtain ⟨g290, h⟩ := zgd h
                                                                              refine ev_sld dL_law_1358 (by rw [hsl]; exact zib_in g290) (x := sf (l3 + (4 : Int32)).toNatClampNeg) (by rw [hsf]) ?_
                                                                              refine ev_aload_n dL_law_1359 rfl rfl ?_
                                                                              refine ev_iload_n dL_law_1360 rfl rfl ?_
                                                                              refine ev_iconst dL_law_1361 (v := (5 : Int32)) zci_5 ?_
                                                                              refine ev_iadd dL_law_1362 rfl ?_
                                                                              obtain ⟨g291, h⟩ := zgd h
                                                                              refine ev_sld dL_law_1363 (by rw [hsl]; exact zib_in g291) (x := sf (l3 + (5 : Int32)).toNatClampNeg) (by rw [hsf]) ?_
                                                                              obtain ⟨p292, e293, h⟩ := zbd h
                                                                              refine ev_callV0 dL_law_1364 zm11_copy zl_NineHeapsLaw_159 zi11_copy zv11_copy (zrcX hS) (As := [.int (sf (l3 + (1 : Int32)).toNatClampNeg), .int (sf (l3 + (2 : Int32)).toNatClampNeg), .int (sf (l3 + (3 : Int32)).toNatClampNeg), .int (sf (l3 + (4 : Int32)).toNatClampNeg), .int (sf (l3 + (5 : Int32)).toNatClampNeg)]) (rest := []) rfl rfl (Nat.le_of_ble_eq_true rfl) rfl (Nat.le_of_ble_eq_true rfl) (d' := 2) (by omega) (e11_copy hw hS (Nat.le_refl _) e293) (fun v μ1 q => ?_)
                                                                              obtain ⟨rfl, rfl⟩ := q
                                                                              refine ev_aload_n dL_law_1367 rfl rfl ?_
                                                                              refine ev_aload_n dL_law_1368 rfl rfl ?_
                                                                              refine ev_iload_n dL_law_1369 rfl rfl ?_
                                                                              refine ev_iconst dL_law_1370 (v := (1 : Int32)) zci_1 ?_
                                                                              refine ev_iadd dL_law_1371 rfl ?_
                                                                              refine ev_sld dL_law_1372 (by rw [hsl]; exact zib_in g287) (x := sf (l3 + (1 : Int32)).toNatClampNeg) (by rw [hsf]) ?_
                                                                              refine ev_aload_n dL_law_1373 rfl rfl ?_
                                                                              refine ev_iload_n dL_law_1374 rfl rfl ?_
                                                                              refine ev_iconst dL_law_1375 (v := (2 : Int32)) zci_2 ?_
                                                                              refine ev_iadd dL_law_1376 rfl ?_
                                                                              refine ev_sld dL_law_1377 (by rw [hsl]; exact zib_in g288) (x := sf (l3 + (2 : Int32)).toNatClampNeg) (by rw [hsf]) ?_
                                                                              refine ev_aload_n dL_law_1378 rfl rfl ?_
                                                                              refine ev_iload_n dL_law_1379 rfl rfl ?_
                                                                              refine ev_iconst dL_law_1380 (v := (3 : Int32)) zci_3 ?_
                                                                              refine ev_iadd dL_law_1381 rfl ?_
                                                                              refine ev_sld dL_law_1382 (by rw [hsl]; exact zib_in g289) (x := sf (l3 + (3 : Int32)).toNatClampNeg) (by rw [hsf]) ?_
                                                                              refine ev_aload_n dL_law_1383 rfl rfl ?_
                                                                              refine ev_iload_n dL_law_1384 rfl rfl ?_
                                                                              refine ev_iconst dL_law_1385 (v := (4 : Int32)) zci_4 ?_
                                                                              refine ev_iadd dL_law_1386 rfl ?_
                                                                              refine ev_sld dL_law_1387 (by rw [hsl]; exact zib_in g290) (x := sf (l3 + (4 : Int32)).toNatClampNeg) (by rw [hsf]) ?_
                                                                              refine ev_aload_n dL_law_1388 rfl rfl ?_
                                                                              refine ev_iload_n dL_law_1389 rfl rfl ?_
                                                                              refine ev_iconst dL_law_1390 (v := (5 : Int32)) zci_5 ?_
                                                                              refine ev_iadd dL_law_1391 rfl ?_
                                                                              refine ev_sld dL_law_1392 (by rw [hsl]; exact zib_in g291) (x := sf (l3 + (5 : Int32)).toNatClampNeg) (by rw [hsf]) ?_
                                                                              obtain ⟨p294, e295, h⟩ := zbd h
                                                                              refine ev_callV0 dL_law_1393 zm12_copy zl_NineHeapsLaw_163 zi12_copy zv12_copy (zrcM hS) (As := [.int (sf (l3 + (1 : Int32)).toNatClampNeg), .int (sf (l3 + (2 : Int32)).toNatClampNeg), .int (sf (l3 + (3 : Int32)).toNatClampNeg), .int (sf (l3 + (4 : Int32)).toNatClampNeg), .int (sf (l3 + (5 : Int32)).toNatClampNeg)]) (rest := [.int p292.1]) rfl rfl (Nat.le_of_ble_eq_true rfl) rfl (Nat.le_of_ble_eq_true rfl) (d' := 2) (by omega) (e12_copy hw hS (Nat.le_refl _) e295) (fun v μ1 q => ?_)
                                                                              obtain ⟨rfl, rfl⟩ := q
                                                                              refine ev_icmp_eq dL_law_1396 (tgt := 1487) (by decide) (fun c296 => ?_) (fun c296 => ?_)
                                                                              · replace h := zit c296 h
                                                                                exact EV.mask [true, true, true, true] rfl (EV.more (eL_law_B1487 (bq := q) hsl hsf hw hd (fun l3' n' kd' I' R' h' => ih l3' n' kd' I' R' h') l3 n kd p294.2 R h) (Nat.le_refl _) (by omega) (by omega))
                                                                              · replace h := zif c296 h
                                                                                refine ev_iconst dL_law_1399 (v := (0 : Int32)) zci_0 ?_
                                                                                obtain rfl := Option.some.inj h
                                                                                exact ev_end_i dL_law_1400 rfl rfl ⟨rfl, rfl⟩
                                                                            · replace h := zif c286 h
                                                                              by_cases c297 : ((sf l3.toNatClampNeg) &&& (63 : Int32)) = (36 : Int32)
                                                                              · replace h := zit c297 h
                                                                                refine ev_tableIn dL_law_33 (by rw [c297]; decide) (by rw [c297]; decide) (off := 1368) (by rw [c297]; rfl) (tgt := 1401) (by decide) ?_
                                                                                refine ev_aload_n dL_law_1401 rfl rfl ?_
                                                                                refine ev_aload_n dL_law_1402 rfl rfl ?_
                                                                                refine ev_iload_n dL_law_1403 rfl rfl ?_
                                                                                refine ev_iconst dL_law_1404 (v := (1 : Int32)) zci_1 ?_
                                                                                refine ev_iadd dL_law_1405 rfl ?_
                                                                                obtain ⟨g298, h⟩ := zgd h
                                                                                refine ev_sld dL_law_1406 (by rw [hsl]; exact zib_in g298) (x := sf (l3 + (1 : Int32)).toNatClampNeg) (by rw [hsf]) ?_
                                                                                refine ev_aload_n dL_law_1407 rfl rfl ?_
                                                                                refine ev_iload_n dL_law_1408 rfl rfl ?_
                                                                                refine ev_iconst dL_law_1409 (v := (2 : Int32)) zci_2 ?_
                                                                                refine ev_iadd dL_law_1410 rfl ?_
                                                                                obtain ⟨g299, h⟩ := zgd h
                                                                                refine ev_sld dL_law_1411 (by rw [hsl]; exact zib_in g299) (x := sf (l3 + (2 : Int32)).toNatClampNeg) (by rw [hsf]) ?_
                                                                                refine ev_aload_n dL_law_1412 rfl rfl ?_
                                                                                refine ev_iload_n dL_law_1413 rfl rfl ?_
                                                                                refine ev_iconst dL_law_1414 (v := (3 : Int32)) zci_3 ?_
                                                                                refine ev_iadd dL_law_1415 rfl ?_
                                                                                obtain ⟨g300, h⟩ := zgd h
                                                                                refine ev_sld dL_law_1416 (by rw [hsl]; exact zib_in g300) (x := sf (l3 + (3 : Int32)).toNatClampNeg) (by rw [hsf]) ?_
                                                                                refine ev_aload_n dL_law_1417 rfl rfl ?_
                                                                                refine ev_iload_n dL_law_1418 rfl rfl ?_
                                                                                refine ev_iconst dL_law_1419 (v := (4 : Int32)) zci_4 ?_
                                                                                refine ev_iadd dL_law_1420 rfl ?_
                                                                                obtain ⟨g301, h⟩ := zgd h
                                                                                refine ev_sld dL_law_1421 (by rw [hsl]; exact zib_in g301) (x := sf (l3 + (4 : Int32)).toNatClampNeg) (by rw [hsf]) ?_
                                                                                obtain ⟨p302, e303, h⟩ := zbd h
                                                                                refine ev_callVK (k2 := (q * 10 + 4)) (z2 := (q * 534 + 468)) dL_law_1422 zm11_walkersBy zl_NineHeapsLaw_164 zi11_walkersBy zv11_walkersBy (zrcX hS) (As := [.int (sf (l3 + (1 : Int32)).toNatClampNeg), .int (sf (l3 + (2 : Int32)).toNatClampNeg), .int (sf (l3 + (3 : Int32)).toNatClampNeg), .int (sf (l3 + (4 : Int32)).toNatClampNeg)]) (rest := []) rfl rfl (Nat.le_of_ble_eq_true rfl) rfl (Nat.le_of_ble_eq_true rfl) (d' := 7) (by omega) (e11_walkersBy hw hS (Nat.le_refl _) e303) (by omega) (by omega) (fun v μ1 q => ?_)
                                                                                obtain ⟨rfl, rfl⟩ := q
                                                                                obtain ⟨g304, h⟩ := zgd h
                                                                                have hS := zShB_sh g304
                                                                                refine ev_aload_n dL_law_1425 rfl rfl ?_
                                                                                refine ev_aload_n dL_law_1426 rfl rfl ?_
                                                                                refine ev_iload_n dL_law_1427 rfl rfl ?_
                                                                                refine ev_iconst dL_law_1428 (v := (1 : Int32)) zci_1 ?_
                                                                                refine ev_iadd dL_law_1429 rfl ?_
                                                                                refine ev_sld dL_law_1430 (by rw [hsl]; exact zib_in g298) (x := sf (l3 + (1 : Int32)).toNatClampNeg) (by rw [hsf]) ?_
                                                                                refine ev_aload_n dL_law_1431 rfl rfl ?_
                                                                                refine ev_iload_n dL_law_1432 rfl rfl ?_
                                                                                refine ev_iconst dL_law_1433 (v := (2 : Int32)) zci_2 ?_
                                                                                refine ev_iadd dL_law_1434 rfl ?_
                                                                                refine ev_sld dL_law_1435 (by rw [hsl]; exact zib_in g299) (x := sf (l3 + (2 : Int32)).toNatClampNeg) (by rw [hsf]) ?_
                                                                                refine ev_aload_n dL_law_1436 rfl rfl ?_
                                                                                refine ev_iload_n dL_law_1437 rfl rfl ?_
                                                                                refine ev_iconst dL_law_1438 (v := (3 : Int32)) zci_3 ?_
                                                                                refine ev_iadd dL_law_1439 rfl ?_
                                                                                refine ev_sld dL_law_1440 (by rw [hsl]; exact zib_in g300) (x := sf (l3 + (3 : Int32)).toNatClampNeg) (by rw [hsf]) ?_
                                                                                refine ev_aload_n dL_law_1441 rfl rfl ?_
                                                                                refine ev_iload_n dL_law_1442 rfl rfl ?_
                                                                                refine ev_iconst dL_law_1443 (v := (4 : Int32)) zci_4 ?_
                                                                                refine ev_iadd dL_law_1444 rfl ?_
                                                                                refine ev_sld dL_law_1445 (by rw [hsl]; exact zib_in g301) (x := sf (l3 + (4 : Int32)).toNatClampNeg) (by rw [hsf]) ?_
                                                                                obtain ⟨p305, e306, h⟩ := zbd h
                                                                                refine ev_callV0 dL_law_1446 zm12_walkersBy zl_NineHeapsLaw_168 zi12_walkersBy zv12_walkersBy (zrcM hS) (As := [.int (sf (l3 + (1 : Int32)).toNatClampNeg), .int (sf (l3 + (2 : Int32)).toNatClampNeg), .int (sf (l3 + (3 : Int32)).toNatClampNeg), .int (sf (l3 + (4 : Int32)).toNatClampNeg)]) (rest := [.int p302.1]) rfl rfl (Nat.le_of_ble_eq_true rfl) rfl (Nat.le_of_ble_eq_true rfl) (d' := 4) (by omega) (e12_walkersBy hw hS (Nat.le_refl _) e306) (fun v μ1 q => ?_)
                                                                                obtain ⟨rfl, rfl⟩ := q
                                                                                refine ev_icmp_eq dL_law_1449 (tgt := 1487) (by decide) (fun c307 => ?_) (fun c307 => ?_)
                                                                                · replace h := zit c307 h
                                                                                  exact EV.mask [true, true, true, true] rfl (EV.more (eL_law_B1487 (bq := q) hsl hsf hw hd (fun l3' n' kd' I' R' h' => ih l3' n' kd' I' R' h') l3 p302.2.1.1 p302.2.1.2 p305.2 p302.2.2.2 h) (Nat.le_refl _) (by omega) (by omega))
                                                                                · replace h := zif c307 h
                                                                                  refine ev_iconst dL_law_1452 (v := (0 : Int32)) zci_0 ?_
                                                                                  obtain rfl := Option.some.inj h
                                                                                  exact ev_end_i dL_law_1453 rfl rfl ⟨rfl, rfl⟩
                                                                              · replace h := zif c297 h
                                                                                by_cases c308 : ((sf l3.toNatClampNeg) &&& (63 : Int32)) = (37 : Int32)
                                                                                · replace h := zit c308 h
                                                                                  refine ev_tableIn dL_law_33 (by rw [c308]; decide) (by rw [c308]; decide) (off := 1421) (by rw [c308]; rfl) (tgt := 1454) (by decide) ?_
                                                                                  refine ev_aload_n dL_law_1454 rfl rfl ?_
                                                                                  refine ev_aload_n dL_law_1455 rfl rfl ?_
                                                                                  refine ev_iload_n dL_law_1456 rfl rfl ?_
                                                                                  refine ev_iconst dL_law_1457 (v := (1 : Int32)) zci_1 ?_
                                                                                  refine ev_iadd dL_law_1458 rfl ?_
                                                                                  obtain ⟨g309, h⟩ := zgd h
                                                                                  refine ev_sld dL_law_1459 (by rw [hsl]; exact zib_in g309) (x := sf (l3 + (1 : Int32)).toNatClampNeg) (by rw [hsf]) ?_
                                                                                  refine ev_aload_n dL_law_1460 rfl rfl ?_
                                                                                  refine ev_iload_n dL_law_1461 rfl rfl ?_
                                                                                  refine ev_iconst dL_law_1462 (v := (2 : Int32)) zci_2 ?_
                                                                                  refine ev_iadd dL_law_1463 rfl ?_
                                                                                  obtain ⟨g310, h⟩ := zgd h
                                                                                  refine ev_sld dL_law_1464 (by rw [hsl]; exact zib_in g310) (x := sf (l3 + (2 : Int32)).toNatClampNeg) (by rw [hsf]) ?_
                                                                                  obtain ⟨p311, e312, h⟩ := zbd h
                                                                                  refine ev_callV0 dL_law_1465 zm11_taken zl_NineHeapsLaw_169 zi11_taken zv11_taken (zrcX hS) (As := [.int (sf (l3 + (1 : Int32)).toNatClampNeg), .int (sf (l3 + (2 : Int32)).toNatClampNeg)]) (rest := []) rfl rfl (Nat.le_of_ble_eq_true rfl) rfl (Nat.le_of_ble_eq_true rfl) (d' := 5) (by omega) (e11_taken hw hS (Nat.le_refl _) e312) (fun v μ1 q => ?_)
                                                                                  obtain ⟨rfl, rfl⟩ := q
                                                                                  refine ev_aload_n dL_law_1468 rfl rfl ?_
                                                                                  refine ev_aload_n dL_law_1469 rfl rfl ?_
                                                                                  refine ev_iload_n dL_law_1470 rfl rfl ?_
                                                                                  refine ev_iconst dL_law_1471 (v := (1 : Int32)) zci_1 ?_
                                                                                  refine ev_iadd dL_law_1472 rfl ?_
                                                                                  refine ev_sld dL_law_1473 (by rw [hsl]; exact zib_in g309) (x := sf (l3 + (1 : Int32)).toNatClampNeg) (by rw [hsf]) ?_
                                                                                  refine ev_aload_n dL_law_1474 rfl rfl ?_
                                                                                  refine ev_iload_n dL_law_1475 rfl rfl ?_
                                                                                  refine ev_iconst dL_law_1476 (v := (2 : Int32)) zci_2 ?_
                                                                                  refine ev_iadd dL_law_1477 rfl ?_
                                                                                  refine ev_sld dL_law_1478 (by rw [hsl]; exact zib_in g310) (x := sf (l3 + (2 : Int32)).toNatClampNeg) (by rw [hsf]) ?_
                                                                                  obtain ⟨p313, e314, h⟩ := zbd h
                                                                                  refine ev_callV0 dL_law_1479 zm12_taken zl_NineHeapsLaw_172 zi12_taken zv12_taken (zrcM hS) (As := [.int (sf (l3 + (1 : Int32)).toNatClampNeg), .int (sf (l3 + (2 : Int32)).toNatClampNeg)]) (rest := [.int p311]) rfl rfl (Nat.le_of_ble_eq_true rfl) rfl (Nat.le_of_ble_eq_true rfl) (d' := 2) (by omega) (e12_taken hw hS (Nat.le_refl _) e314) (fun v μ1 q => ?_)
                                                                                  obtain ⟨rfl, rfl⟩ := q
                                                                                  refine ev_icmp_eq dL_law_1482 (tgt := 1487) (by decide) (fun c315 => ?_) (fun c315 => ?_)
                                                                                  · replace h := zit c315 h
                                                                                    exact EV.mask [true, true, true, true] rfl (EV.more (eL_law_B1487 (bq := q) hsl hsf hw hd (fun l3' n' kd' I' R' h' => ih l3' n' kd' I' R' h') l3 n kd I R h) (Nat.le_refl _) (by omega) (by omega))
                                                                                  · replace h := zif c315 h
                                                                                    refine ev_iconst dL_law_1485 (v := (0 : Int32)) zci_0 ?_
                                                                                    obtain rfl := Option.some.inj h
                                                                                    exact ev_end_i dL_law_1486 rfl rfl ⟨rfl, rfl⟩
                                                                                · replace h := zif c308 h
                                                                                  refine ev_tableD dL_law_33 ?_ (tgt := 1487) (by decide) ?_
                                                                                  · have q0 := lv_neT c5 (a := 0) (by decide)
                                                                                    have q1 := lv_neT c12 (a := 1) (by decide)
                                                                                    have q2 := lv_neT c21 (a := 2) (by decide)
                                                                                    have q3 := lv_neT c29 (a := 3) (by decide)
                                                                                    have q4 := lv_neT c41 (a := 4) (by decide)
                                                                                    have q5 := lv_neT c48 (a := 5) (by decide)
                                                                                    have q6 := lv_neT c55 (a := 6) (by decide)
                                                                                    have q7 := lv_neT c64 (a := 7) (by decide)
                                                                                    have q8 := lv_neT c74 (a := 8) (by decide)
                                                                                    have q9 := lv_neT c82 (a := 9) (by decide)
                                                                                    have q10 := lv_neT c90 (a := 10) (by decide)
                                                                                    have q11 := lv_neT c98 (a := 11) (by decide)
                                                                                    have q12 := lv_neT c107 (a := 12) (by decide)
                                                                                    have q13 := lv_neT c116 (a := 13) (by decide)
                                                                                    have q14 := lv_neT c123 (a := 14) (by decide)
                                                                                    have q15 := lv_neT c130 (a := 15) (by decide)
                                                                                    have q16 := lv_neT c138 (a := 16) (by decide)
                                                                                    have q17 := lv_neT c145 (a := 17) (by decide)
                                                                                    have q18 := lv_neT c153 (a := 18) (by decide)
                                                                                    have q19 := lv_neT c160 (a := 19) (by decide)
                                                                                    have q20 := lv_neT c167 (a := 20) (by decide)
                                                                                    have q21 := lv_neT c174 (a := 21) (by decide)
                                                                                    have q22 := lv_neT c181 (a := 22) (by decide)
                                                                                    have q23 := lv_neT c187 (a := 23) (by decide)
                                                                                    have q24 := lv_neT c195 (a := 24) (by decide)
                                                                                    have q25 := lv_neT c203 (a := 25) (by decide)
                                                                                    have q26 := lv_neT c212 (a := 26) (by decide)
                                                                                    have q27 := lv_neT c222 (a := 27) (by decide)
                                                                                    have q28 := lv_neT c230 (a := 28) (by decide)
                                                                                    have q29 := lv_neT c238 (a := 29) (by decide)
                                                                                    have q30 := lv_neT c246 (a := 30) (by decide)
                                                                                    have q31 := lv_neT c256 (a := 31) (by decide)
                                                                                    have q32 := lv_neT c262 (a := 32) (by decide)
                                                                                    have q33 := lv_neT c268 (a := 33) (by decide)
                                                                                    have q34 := lv_neT c277 (a := 34) (by decide)
                                                                                    have q35 := lv_neT c286 (a := 35) (by decide)
                                                                                    have q36 := lv_neT c297 (a := 36) (by decide)
                                                                                    have q37 := lv_neT c308 (a := 37) (by decide)
                                                                                    rcases (show ((sf l3.toNatClampNeg) &&& (63 : Int32)).toInt < 0 ∨ 37 < ((sf l3.toNatClampNeg) &&& (63 : Int32)).toInt by omega) with q | q
                                                                                    · exact Or.inl q
                                                                                    · exact Or.inr (Or.inl q)
                                                                                  exact EV.mask [true, true, true, true] rfl (EV.more (eL_law_B1487 (bq := q) hsl hsf hw hd (fun l3' n' kd' I' R' h' => ih l3' n' kd' I' R' h') l3 n kd I R h) (Nat.le_refl _) (by omega) (by omega))
set_option maxHeartbeats 4000000 in
set_option maxRecDepth 100000 in
theorem eL_law {w : zW} {d : Nat} {n : Nat} {kd : zMK} {I : zMI} {R : zMR} {r : Int32 × (Nat × zMK) × zMI × zMR}  {sl : Nat} {sf : Nat → Int32} (hsl : zxl w = sl) (hsf : zxs w = sf) (hw : zst w = zSt0) (hS : zSh n kd) (hd : 138 ≤ d) (h : fL_law sl sf n kd I R = some r) : EV w d 5130 273942 YL_law 16 [some (.ref 26), some (.ref 32), some (.ref 81), none] [] (n, kd, I, R) (qL_law  r) := by
  unfold fL_law at h
  refine ev_iconst dL_law_16 (v := (0 : Int32)) zci_0 ?_
  refine ev_istore_n dL_law_17 rfl (by decide) rfl ?_
  exact EV.mask [true, true, true, true] rfl (EV.more (eL_law_L18 hsl hsf hw hd 513 (0 : Int32) n kd I R h) (Nat.le_refl _) (by omega) (by omega))
