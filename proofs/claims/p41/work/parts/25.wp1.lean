/-! the machine does as the functions say: laid by program -/
abbrev qL_law (r : Int32) : Option Value → zM → Prop := fun v _ => v = some (.int r)
set_option maxHeartbeats 4000000 in
set_option maxRecDepth 100000 in
theorem eL_law_B222 {w : zW} {d : Nat} {sl : Nat} {sf : Nat → Int32} {ah : Nat} {hF : zML} {gh : zGh}  {n : Nat} {kd : zMK} {r : Int32} {k56 : Int32 → Int32 → Int32 → Int64 → Int32 → zMI → zMR → Option (Int32)} (hsl : zxl w = sl) (hsf : zxs w = sf) (hh : zhm w = some (ah, hF)) (hge : zGhe gh) (hw : zst w = zSt0) (hS : zSh n kd) (ha : zHas n kd ah 14) (hn : (kd ah).2 = 130) (hd : 139 ≤ d)  (hk56 : ∀ (l3 : Int32) (l4 : Int32) (l5 : Int32) (l6 : Int64) (l8 : Int32) (I : zMI) (R : zMR), k56 l3 l4 l5 l6 l8 I R = some r → EV w d 60 1300 YL_law 56 [some (.ref 26), some (.ref 32), some (.ref ah), some (.int l3), some (.int l4), some (.int l5), some (.long l6), none, some (.int l8), none, none] [] (n, kd, I, R) (qL_law r)) : ∀ (l3 : Int32) (l4 : Int32) (l6 : Int64) (l8 : Int32) (s0 : Int32) (s1 : Int32) (s2 : Int32) (I : zMI) (R : zMR), fL_law_B222 n kd sl sf ah hF gh k56 l3 l4 l6 l8 s0 s1 s2 I R = some r → EV w d 60 1300 YL_law 222 [some (.ref 26), some (.ref 32), some (.ref ah), some (.int l3), some (.int l4), none, some (.long l6), none, some (.int l8), none, none] [.int s2, .int s1, .int s0] (n, kd, I, R) (qL_law r) := by
  intro l3 l4 l6 l8 s0 s1 s2 I R h
  unfold fL_law_B222 at h
  refine ev_imul dL_law_222 rfl ?_
  refine ev_iadd dL_law_223 rfl ?_
  refine ev_istore dL_law_224 (by decide) rfl ?_
  refine ev_lload dL_law_226 rfl ?_
  refine ev_ldc2 dL_law_228 zk_NineHeapsLaw_115 ?_
  refine ev_aload_n dL_law_231 rfl rfl ?_
  refine ev_bipush dL_law_232 (v := (50 : Int32)) zcb_50 ?_
  refine ev_iload dL_law_234 rfl ?_
  refine ev_iadd dL_law_236 rfl ?_
  obtain ⟨g1, h⟩ := zgd h
  refine em_laldW hh dL_law_237 ha hn g1 rfl ?_
  refine ev_lmul dL_law_238 rfl ?_
  refine ev_aload_n dL_law_239 rfl rfl ?_
  refine ev_bipush dL_law_240 (v := (45 : Int32)) zcb_45 ?_
  refine ev_iload dL_law_242 rfl ?_
  refine ev_iadd dL_law_244 rfl ?_
  obtain ⟨g2, h⟩ := zgd h
  refine em_laldW hh dL_law_245 ha hn g2 rfl ?_
  refine ev_ladd dL_law_246 rfl ?_
  refine ev_ladd dL_law_247 rfl ?_
  refine ev_lstore dL_law_248 (by decide) rfl ?_
  refine ev_aload_n dL_law_250 rfl rfl ?_
  refine ev_iload dL_law_251 rfl ?_
  refine ev_iconst dL_law_253 (v := (0 : Int32)) zci_0 ?_
  obtain ⟨p3, e4, h⟩ := zbd h
  refine ev_callV0 dL_law_254 zm11_told zl_NineHeapsLaw_158 zi11_told zv11_told (zrcX hS) (As := [.int l8, .int (0 : Int32)]) (rest := []) rfl rfl (Nat.le_of_ble_eq_true rfl) rfl (Nat.le_of_ble_eq_true rfl) (d' := 4) (by omega) (e11_told hw hS (Nat.le_refl _) e4) (fun v μ1 q => ?_)
  obtain ⟨rfl, rfl⟩ := q
  refine ev_aload_n dL_law_257 rfl rfl ?_
  refine ev_iload dL_law_258 rfl ?_
  obtain ⟨p5, e6, h⟩ := zbd h
  refine ev_callS0 dL_law_260 zmL_kind zl_NineHeapsLaw_44 zsL_kind (As := [.ref 26, .int l8]) (rest := [.int p3]) rfl rfl (Nat.le_of_ble_eq_true rfl) rfl (Nat.le_of_ble_eq_true rfl) (d' := 2) (by omega) (eL_kind hsl hsf (Nat.le_refl _) e6) (fun v μ1 q => ?_)
  obtain ⟨rfl, rfl⟩ := q
  refine ev_icmp_ne dL_law_263 (tgt := 323) (by decide) (fun c7 => ?_) (fun c7 => ?_)
  · replace h := zif c7 h
    refine ev_iconst dL_law_323 (v := (0 : Int32)) zci_0 ?_
    obtain rfl := Option.some.inj h
    exact ev_end_i dL_law_324 rfl rfl rfl
  · replace h := zit c7 h
    refine ev_aload_n dL_law_266 rfl rfl ?_
    refine ev_iload dL_law_267 rfl ?_
    refine ev_iconst dL_law_269 (v := (1 : Int32)) zci_1 ?_
    obtain ⟨p8, e9, h⟩ := zbd h
    refine ev_callV0 dL_law_270 zm11_told zl_NineHeapsLaw_158 zi11_told zv11_told (zrcX hS) (As := [.int l8, .int (1 : Int32)]) (rest := []) rfl rfl (Nat.le_of_ble_eq_true rfl) rfl (Nat.le_of_ble_eq_true rfl) (d' := 4) (by omega) (e11_told hw hS (Nat.le_refl _) e9) (fun v μ1 q => ?_)
    obtain ⟨rfl, rfl⟩ := q
    refine ev_aload_n dL_law_273 rfl rfl ?_
    refine ev_iload dL_law_274 rfl ?_
    obtain ⟨p10, e11, h⟩ := zbd h
    refine ev_callS0 dL_law_276 zmL_more zl_NineHeapsLaw_47 zsL_more (As := [.ref 26, .int l8]) (rest := [.int p8]) rfl rfl (Nat.le_of_ble_eq_true rfl) rfl (Nat.le_of_ble_eq_true rfl) (d' := 2) (by omega) (eL_more hsl hsf (Nat.le_refl _) e11) (fun v μ1 q => ?_)
    obtain ⟨rfl, rfl⟩ := q
    refine ev_icmp_ne dL_law_279 (tgt := 323) (by decide) (fun c12 => ?_) (fun c12 => ?_)
    · replace h := zif c12 h
      refine ev_iconst dL_law_323 (v := (0 : Int32)) zci_0 ?_
      obtain rfl := Option.some.inj h
      exact ev_end_i dL_law_324 rfl rfl rfl
    · replace h := zit c12 h
      refine ev_aload_n dL_law_282 rfl rfl ?_
      refine ev_iload dL_law_283 rfl ?_
      refine ev_iconst dL_law_285 (v := (2 : Int32)) zci_2 ?_
      obtain ⟨p13, e14, h⟩ := zbd h
      refine ev_callV0 dL_law_286 zm11_told zl_NineHeapsLaw_158 zi11_told zv11_told (zrcX hS) (As := [.int l8, .int (2 : Int32)]) (rest := []) rfl rfl (Nat.le_of_ble_eq_true rfl) rfl (Nat.le_of_ble_eq_true rfl) (d' := 4) (by omega) (e11_told hw hS (Nat.le_refl _) e14) (fun v μ1 q => ?_)
      obtain ⟨rfl, rfl⟩ := q
      refine ev_aload_n dL_law_289 rfl rfl ?_
      refine ev_iload dL_law_290 rfl ?_
      obtain ⟨p15, e16, h⟩ := zbd h
      refine ev_callS0 dL_law_292 zmL_from zl_NineHeapsLaw_50 zsL_from (As := [.ref 26, .int l8]) (rest := [.int p13]) rfl rfl (Nat.le_of_ble_eq_true rfl) rfl (Nat.le_of_ble_eq_true rfl) (d' := 2) (by omega) (eL_from hsl hsf (Nat.le_refl _) e16) (fun v μ1 q => ?_)
      obtain ⟨rfl, rfl⟩ := q
      refine ev_icmp_ne dL_law_295 (tgt := 323) (by decide) (fun c17 => ?_) (fun c17 => ?_)
      · replace h := zif c17 h
        refine ev_iconst dL_law_323 (v := (0 : Int32)) zci_0 ?_
        obtain rfl := Option.some.inj h
        exact ev_end_i dL_law_324 rfl rfl rfl
      · replace h := zit c17 h
        refine ev_aload_n dL_law_298 rfl rfl ?_
        refine ev_iload dL_law_299 rfl ?_
        refine ev_iconst dL_law_301 (v := (3 : Int32)) zci_3 ?_
        obtain ⟨p18, e19, h⟩ := zbd h
        refine ev_callV0 dL_law_302 zm11_told zl_NineHeapsLaw_158 zi11_told zv11_told (zrcX hS) (As := [.int l8, .int (3 : Int32)]) (rest := []) rfl rfl (Nat.le_of_ble_eq_true rfl) rfl (Nat.le_of_ble_eq_true rfl) (d' := 4) (by omega) (e11_told hw hS (Nat.le_refl _) e19) (fun v μ1 q => ?_)
        obtain ⟨rfl, rfl⟩ := q
        refine ev_aload_n dL_law_305 rfl rfl ?_
        refine ev_iload dL_law_306 rfl ?_
        obtain ⟨p20, e21, h⟩ := zbd h
        refine ev_callS0 dL_law_308 zmL_kind zl_NineHeapsLaw_44 zsL_kind (As := [.ref 26, .int l8]) (rest := [.int p18]) rfl rfl (Nat.le_of_ble_eq_true rfl) rfl (Nat.le_of_ble_eq_true rfl) (d' := 2) (by omega) (eL_kind hsl hsf (Nat.le_refl _) e21) (fun v μ1 q => ?_)
        obtain ⟨rfl, rfl⟩ := q
        refine ev_iconst dL_law_311 (v := (3 : Int32)) zci_3 ?_
        obtain ⟨x23, e24, h⟩ := zld h
        have k26 : EV w d 60 1300 YL_law 320 [some (.ref 26), some (.ref 32), some (.ref ah), some (.int l3), some (.int l4), some (.int (s0 + (s1 * s2))), some (.long (l6 + (((9 : Int64) * (hF ((50 : Int32) + l8).toNatClampNeg)) + (hF ((45 : Int32) + l8).toNatClampNeg)))), none, some (.int l8), none, none] [.int x23, .int p18] (n, kd, I, R) (qL_law r) := by
          refine ev_icmp_eq dL_law_320 (tgt := 325) (by decide) (fun c25 => ?_) (fun c25 => ?_)
          · replace h := zit c25 h
            refine ev_iinc dL_law_325 (v := l8 + (1 : Int32)) rfl rfl (by decide) rfl ?_
            refine ev_goto dL_law_328 (tgt := 56) (by decide) ?_
            exact EV.mask [true, true, true, true, true, true, true, false, true, false, false] rfl (hk56 l3 l4 (s0 + (s1 * s2)) (l6 + (((9 : Int64) * (hF ((50 : Int32) + l8).toNatClampNeg)) + (hF ((45 : Int32) + l8).toNatClampNeg))) (l8 + (1 : Int32)) I R h)
          · replace h := zif c25 h
            refine ev_iconst dL_law_323 (v := (0 : Int32)) zci_0 ?_
            obtain rfl := Option.some.inj h
            exact ev_end_i dL_law_324 rfl rfl rfl
        clear h
        have h := e24
        clear e24
        refine ev_icmp_ne dL_law_312 (tgt := 319) (by decide) (fun c22 => ?_) (fun c22 => ?_)
        · replace h := zif c22 h
          refine ev_iconst dL_law_319 (v := (1 : Int32)) zci_1 ?_
          obtain rfl := h
          exact k26
        · replace h := zit c22 h
          refine ev_iconst dL_law_315 (v := (0 : Int32)) zci_0 ?_
          refine ev_goto dL_law_316 (tgt := 320) (by decide) ?_
          obtain rfl := h
          exact k26
set_option maxHeartbeats 4000000 in
set_option maxRecDepth 100000 in
theorem eL_law_L56 {w : zW} {d : Nat} {sl : Nat} {sf : Nat → Int32} {ah : Nat} {hF : zML} {gh : zGh}  {n : Nat} {kd : zMK} {r : Int32} {k331 : Int32 → Int32 → Int32 → Int64 → zMI → zMR → Option (Int32)} (hsl : zxl w = sl) (hsf : zxs w = sf) (hh : zhm w = some (ah, hF)) (hge : zGhe gh) (hw : zst w = zSt0) (hS : zSh n kd) (ha : zHas n kd ah 14) (hn : (kd ah).2 = 130) (hd : 139 ≤ d)  (hk331 : ∀ (l3 : Int32) (l4 : Int32) (l5 : Int32) (l6 : Int64) (I : zMI) (R : zMR), k331 l3 l4 l5 l6 I R = some r → EV w d 60 1300 YL_law 331 [some (.ref 26), some (.ref 32), some (.ref ah), some (.int l3), some (.int l4), some (.int l5), some (.long l6), none, none, none, none] [] (n, kd, I, R) (qL_law r)) : ∀ (q : Nat) (l3 : Int32) (l4 : Int32) (l5 : Int32) (l6 : Int64) (l8 : Int32) (I : zMI) (R : zMR), fL_law_L56 n kd sl sf ah hF gh k331 q l3 l4 l5 l6 l8 I R = some r → EV w d 60 1300 YL_law 56 [some (.ref 26), some (.ref 32), some (.ref ah), some (.int l3), some (.int l4), some (.int l5), some (.long l6), none, some (.int l8), none, none] [] (n, kd, I, R) (qL_law r) := by
  intro q
  induction q with
  | zero =>
    intro l3 l4 l5 l6 l8 I R h
    cases h
  | succ q ih =>
    intro l3 l4 l5 l6 l8 I R h
    unfold fL_law_L56 at h
    refine ev_iload dL_law_56 rfl ?_
    refine ev_iload_n dL_law_58 rfl rfl ?_
    refine ev_icmp_ge dL_law_59 (tgt := 331) (by decide) (fun c27 => ?_) (fun c27 => ?_)
    · replace h := zit c27 h
      exact EV.mask [true, true, true, true, true, true, true, false, false, false, false] rfl (hk331 l3 l4 l5 l6 I R h)
    · replace h := zif c27 h
      refine ev_aload_n dL_law_62 rfl rfl ?_
      refine ev_iload dL_law_63 rfl ?_
      refine ev_iload dL_law_65 rfl ?_
      refine ev_iconst dL_law_67 (v := (0 : Int32)) zci_0 ?_
      obtain ⟨p28, e29, h⟩ := zbd h
      refine ev_callV0 dL_law_68 zm11_one zl_NineHeapsLaw_155 zi11_one zv11_one (zrcX hS) (As := [.int l8, .int l4, .int (0 : Int32)]) (rest := []) rfl rfl (Nat.le_of_ble_eq_true rfl) rfl (Nat.le_of_ble_eq_true rfl) (d' := 8) (by omega) (e11_one hw hS (Nat.le_refl _) e29) (fun v μ1 q => ?_)
      obtain ⟨rfl, rfl⟩ := q
      obtain ⟨J30, e31, h⟩ := zld h
      refine EV.ghost (zGE_to (hge n kd p28.2.1 p28.2.2) e31) ?_
      refine ev_i2l dL_law_71 rfl ?_
      refine ev_aload_n dL_law_72 rfl rfl ?_
      refine ev_bipush dL_law_73 (v := (30 : Int32)) zcb_30 ?_
      refine ev_iload dL_law_75 rfl ?_
      refine ev_iadd dL_law_77 rfl ?_
      obtain ⟨g32, h⟩ := zgd h
      refine em_laldW hh dL_law_78 ha hn g32 rfl ?_
      refine ev_lcmp dL_law_79 rfl ?_
      refine ev_if_ne dL_law_80 (tgt := 167) (by decide) (fun c33 => ?_) (fun c33 => ?_)
      · replace h := zif c33 h
        refine ev_iconst dL_law_167 (v := (0 : Int32)) zci_0 ?_
        obtain rfl := Option.some.inj h
        exact ev_end_i dL_law_168 rfl rfl rfl
      · replace h := zit c33 h
        refine ev_aload_n dL_law_83 rfl rfl ?_
        refine ev_iload dL_law_84 rfl ?_
        refine ev_iload dL_law_86 rfl ?_
        refine ev_iconst dL_law_88 (v := (1 : Int32)) zci_1 ?_
        obtain ⟨p34, e35, h⟩ := zbd h
        refine ev_callV0 dL_law_89 zm11_one zl_NineHeapsLaw_155 zi11_one zv11_one (zrcX hS) (As := [.int l8, .int l4, .int (1 : Int32)]) (rest := []) rfl rfl (Nat.le_of_ble_eq_true rfl) rfl (Nat.le_of_ble_eq_true rfl) (d' := 8) (by omega) (e11_one hw hS (Nat.le_refl _) e35) (fun v μ1 q => ?_)
        obtain ⟨rfl, rfl⟩ := q
        obtain ⟨J36, e37, h⟩ := zld h
        refine EV.ghost (zGE_to (hge n kd p34.2.1 p34.2.2) e37) ?_
        refine ev_i2l dL_law_92 rfl ?_
        refine ev_aload_n dL_law_93 rfl rfl ?_
        refine ev_bipush dL_law_94 (v := (35 : Int32)) zcb_35 ?_
        refine ev_iload dL_law_96 rfl ?_
        refine ev_iadd dL_law_98 rfl ?_
        obtain ⟨g38, h⟩ := zgd h
        refine em_laldW hh dL_law_99 ha hn g38 rfl ?_
        refine ev_lcmp dL_law_100 rfl ?_
        refine ev_if_ne dL_law_101 (tgt := 167) (by decide) (fun c39 => ?_) (fun c39 => ?_)
        · replace h := zif c39 h
          refine ev_iconst dL_law_167 (v := (0 : Int32)) zci_0 ?_
          obtain rfl := Option.some.inj h
          exact ev_end_i dL_law_168 rfl rfl rfl
        · replace h := zit c39 h
          refine ev_aload_n dL_law_104 rfl rfl ?_
          refine ev_iload dL_law_105 rfl ?_
          refine ev_iload dL_law_107 rfl ?_
          refine ev_iconst dL_law_109 (v := (2 : Int32)) zci_2 ?_
          obtain ⟨p40, e41, h⟩ := zbd h
          refine ev_callV0 dL_law_110 zm11_one zl_NineHeapsLaw_155 zi11_one zv11_one (zrcX hS) (As := [.int l8, .int l4, .int (2 : Int32)]) (rest := []) rfl rfl (Nat.le_of_ble_eq_true rfl) rfl (Nat.le_of_ble_eq_true rfl) (d' := 8) (by omega) (e11_one hw hS (Nat.le_refl _) e41) (fun v μ1 q => ?_)
          obtain ⟨rfl, rfl⟩ := q
          obtain ⟨J42, e43, h⟩ := zld h
          refine EV.ghost (zGE_to (hge n kd p40.2.1 p40.2.2) e43) ?_
          refine ev_i2l dL_law_113 rfl ?_
          refine ev_aload_n dL_law_114 rfl rfl ?_
          refine ev_bipush dL_law_115 (v := (50 : Int32)) zcb_50 ?_
          refine ev_iload dL_law_117 rfl ?_
          refine ev_iadd dL_law_119 rfl ?_
          obtain ⟨g44, h⟩ := zgd h
          refine em_laldW hh dL_law_120 ha hn g44 rfl ?_
          refine ev_lcmp dL_law_121 rfl ?_
          refine ev_if_ne dL_law_122 (tgt := 167) (by decide) (fun c45 => ?_) (fun c45 => ?_)
          · replace h := zif c45 h
            refine ev_iconst dL_law_167 (v := (0 : Int32)) zci_0 ?_
            obtain rfl := Option.some.inj h
            exact ev_end_i dL_law_168 rfl rfl rfl
          · replace h := zit c45 h
            refine ev_aload_n dL_law_125 rfl rfl ?_
            refine ev_iload dL_law_126 rfl ?_
            refine ev_iload dL_law_128 rfl ?_
            refine ev_iconst dL_law_130 (v := (3 : Int32)) zci_3 ?_
            obtain ⟨p46, e47, h⟩ := zbd h
            refine ev_callV0 dL_law_131 zm11_one zl_NineHeapsLaw_155 zi11_one zv11_one (zrcX hS) (As := [.int l8, .int l4, .int (3 : Int32)]) (rest := []) rfl rfl (Nat.le_of_ble_eq_true rfl) rfl (Nat.le_of_ble_eq_true rfl) (d' := 8) (by omega) (e11_one hw hS (Nat.le_refl _) e47) (fun v μ1 q => ?_)
            obtain ⟨rfl, rfl⟩ := q
            obtain ⟨J48, e49, h⟩ := zld h
            refine EV.ghost (zGE_to (hge n kd p46.2.1 p46.2.2) e49) ?_
            refine ev_i2l dL_law_134 rfl ?_
            refine ev_aload_n dL_law_135 rfl rfl ?_
            refine ev_bipush dL_law_136 (v := (55 : Int32)) zcb_55 ?_
            refine ev_iload dL_law_138 rfl ?_
            refine ev_iadd dL_law_140 rfl ?_
            obtain ⟨g50, h⟩ := zgd h
            refine em_laldW hh dL_law_141 ha hn g50 rfl ?_
            refine ev_lcmp dL_law_142 rfl ?_
            refine ev_if_ne dL_law_143 (tgt := 167) (by decide) (fun c51 => ?_) (fun c51 => ?_)
            · replace h := zif c51 h
              refine ev_iconst dL_law_167 (v := (0 : Int32)) zci_0 ?_
              obtain rfl := Option.some.inj h
              exact ev_end_i dL_law_168 rfl rfl rfl
            · replace h := zit c51 h
              refine ev_aload_n dL_law_146 rfl rfl ?_
              refine ev_iload dL_law_147 rfl ?_
              refine ev_iload dL_law_149 rfl ?_
              refine ev_iconst dL_law_151 (v := (4 : Int32)) zci_4 ?_
              obtain ⟨p52, e53, h⟩ := zbd h
              refine ev_callV0 dL_law_152 zm11_one zl_NineHeapsLaw_155 zi11_one zv11_one (zrcX hS) (As := [.int l8, .int l4, .int (4 : Int32)]) (rest := []) rfl rfl (Nat.le_of_ble_eq_true rfl) rfl (Nat.le_of_ble_eq_true rfl) (d' := 8) (by omega) (e11_one hw hS (Nat.le_refl _) e53) (fun v μ1 q => ?_)
              obtain ⟨rfl, rfl⟩ := q
              obtain ⟨J54, e55, h⟩ := zld h
              refine EV.ghost (zGE_to (hge n kd p52.2.1 p52.2.2) e55) ?_
              refine ev_i2l dL_law_155 rfl ?_
              refine ev_aload_n dL_law_156 rfl rfl ?_
              refine ev_bipush dL_law_157 (v := (45 : Int32)) zcb_45 ?_
              refine ev_iload dL_law_159 rfl ?_
              refine ev_iadd dL_law_161 rfl ?_
              obtain ⟨g56, h⟩ := zgd h
              refine em_laldW hh dL_law_162 ha hn g56 rfl ?_
              refine ev_lcmp dL_law_163 rfl ?_
              refine ev_if_eq dL_law_164 (tgt := 169) (by decide) (fun c57 => ?_) (fun c57 => ?_)
              · replace h := zit c57 h
                refine ev_iload dL_law_169 rfl ?_
                refine ev_aload_n dL_law_171 rfl rfl ?_
                refine ev_bipush dL_law_172 (v := (55 : Int32)) zcb_55 ?_
                refine ev_iload dL_law_174 rfl ?_
                refine ev_iadd dL_law_176 rfl ?_
                refine em_laldW hh dL_law_177 ha hn g50 rfl ?_
                refine ev_l2i dL_law_178 rfl ?_
                refine ev_aload_n dL_law_179 rfl rfl ?_
                obtain ⟨p58, e59, h⟩ := zbd h
                refine ev_callS0 dL_law_180 zmL_plain zl_NineHeapsLaw_56 zsL_plain (As := [.ref 26]) (rest := [.int ((hF ((55 : Int32) + l8).toNatClampNeg).toInt32), .int l5]) rfl rfl (Nat.le_of_ble_eq_true rfl) rfl (Nat.le_of_ble_eq_true rfl) (d' := 2) (by omega) (eL_plain hsl hsf (Nat.le_refl _) e59) (fun v μ1 q => ?_)
                obtain ⟨rfl, rfl⟩ := q
                refine ev_if_eq dL_law_183 (tgt := 190) (by decide) (fun c60 => ?_) (fun c60 => ?_)
                · replace h := zit c60 h
                  refine ev_aload_n dL_law_190 rfl rfl ?_
                  refine ev_bipush dL_law_191 (v := (50 : Int32)) zcb_50 ?_
                  refine ev_iload dL_law_193 rfl ?_
                  refine ev_iadd dL_law_195 rfl ?_
                  refine em_laldW hh dL_law_196 ha hn g44 rfl ?_
                  refine ev_aload_n dL_law_197 rfl rfl ?_
                  refine ev_iload dL_law_198 rfl ?_
                  obtain ⟨p61, e62, h⟩ := zbd h
                  refine ev_callS0 dL_law_200 zmL_more zl_NineHeapsLaw_47 zsL_more (As := [.ref 26, .int l8]) (rest := [.long (hF ((50 : Int32) + l8).toNatClampNeg), .int ((hF ((55 : Int32) + l8).toNatClampNeg).toInt32), .int l5]) rfl rfl (Nat.le_of_ble_eq_true rfl) rfl (Nat.le_of_ble_eq_true rfl) (d' := 2) (by omega) (eL_more hsl hsf (Nat.le_refl _) e62) (fun v μ1 q => ?_)
                  obtain ⟨rfl, rfl⟩ := q
                  refine ev_aload_n dL_law_203 rfl rfl ?_
                  refine ev_iconst dL_law_204 (v := (0 : Int32)) zci_0 ?_
                  obtain ⟨p63, e64, h⟩ := zbd h
                  refine ev_callS0 dL_law_205 zmL_at zl_NineHeapsLaw_69 zsL_at (As := [.ref 26, .int (0 : Int32)]) (rest := [.int p61, .long (hF ((50 : Int32) + l8).toNatClampNeg), .int ((hF ((55 : Int32) + l8).toNatClampNeg).toInt32), .int l5]) rfl rfl (Nat.le_of_ble_eq_true rfl) rfl (Nat.le_of_ble_eq_true rfl) (d' := 1) (by omega) (eL_at hsl hsf (Nat.le_refl _) e64) (fun v μ1 q => ?_)
                  obtain ⟨rfl, rfl⟩ := q
                  refine ev_bipush dL_law_208 (v := (9 : Int32)) zcb_9 ?_
                  refine ev_ishr dL_law_210 rfl ?_
                  refine ev_iconst dL_law_211 (v := (3 : Int32)) zci_3 ?_
                  refine ev_iand dL_law_212 rfl ?_
                  refine ev_imul dL_law_213 rfl ?_
                  refine ev_i2l dL_law_214 rfl ?_
                  refine ev_ladd dL_law_215 rfl ?_
                  refine ev_iconst dL_law_216 (v := (0 : Int32)) zci_0 ?_
                  refine ev_bipush dL_law_217 (v := (99 : Int32)) zcb_99 ?_
                  obtain ⟨p65, e66, h⟩ := zbd h
                  refine ev_callS0 dL_law_219 zmL_held zl_NineHeapsLaw_106 zsL_held (As := [.long ((hF ((50 : Int32) + l8).toNatClampNeg) + ((p61 * ((p63 >>> ((9 : Int32) &&& 31)) &&& (3 : Int32))).toInt64)), .int (0 : Int32), .int (99 : Int32)]) (rest := [.int ((hF ((55 : Int32) + l8).toNatClampNeg).toInt32), .int l5]) rfl rfl (Nat.le_of_ble_eq_true rfl) rfl (Nat.le_of_ble_eq_true rfl) (d' := 2) (by omega) (eL_held hsl hsf (Nat.le_refl _) e66) (fun v μ1 q => ?_)
                  obtain ⟨rfl, rfl⟩ := q
                  exact EV.mask [true, true, true, true, true, false, true, false, true, false, false] rfl (eL_law_B222 hsl hsf hh hge hw hS ha hn hd (fun l3' l4' l5' l6' l8' I' R' h' => ih l3' l4' l5' l6' l8' I' R' h') l3 l4 l6 l8 l5 ((hF ((55 : Int32) + l8).toNatClampNeg).toInt32) p65 J54 p52.2.2 h)
                · replace h := zif c60 h
                  refine ev_iconst dL_law_186 (v := (1 : Int32)) zci_1 ?_
                  refine ev_goto dL_law_187 (tgt := 222) (by decide) ?_
                  exact EV.mask [true, true, true, true, true, false, true, false, true, false, false] rfl (eL_law_B222 hsl hsf hh hge hw hS ha hn hd (fun l3' l4' l5' l6' l8' I' R' h' => ih l3' l4' l5' l6' l8' I' R' h') l3 l4 l6 l8 l5 ((hF ((55 : Int32) + l8).toNatClampNeg).toInt32) (1 : Int32) J54 p52.2.2 h)
              · replace h := zif c57 h
                refine ev_iconst dL_law_167 (v := (0 : Int32)) zci_0 ?_
                obtain rfl := Option.some.inj h
                exact ev_end_i dL_law_168 rfl rfl rfl
set_option maxHeartbeats 4000000 in
set_option maxRecDepth 100000 in
theorem eL_law_L415 {w : zW} {d : Nat} {sl : Nat} {sf : Nat → Int32} {ah : Nat} {hF : zML} {gh : zGh}  {n : Nat} {kd : zMK} {r : Int32} {k524 : Int32 → Int32 → Int64 → Int64 → zMI → zMR → Option (Int32)} (hsl : zxl w = sl) (hsf : zxs w = sf) (hh : zhm w = some (ah, hF)) (hge : zGhe gh) (hw : zst w = zSt0) (hS : zSh n kd) (ha : zHas n kd ah 14) (hn : (kd ah).2 = 130) (hd : 139 ≤ d)  (hk524 : ∀ (l3 : Int32) (l4 : Int32) (l6 : Int64) (l8 : Int64) (I : zMI) (R : zMR), k524 l3 l4 l6 l8 I R = some r → EV w d 60 1300 YL_law 524 [none, some (.ref 32), some (.ref ah), some (.int l3), some (.int l4), none, some (.long l6), none, some (.long l8), none, none] [] (n, kd, I, R) (qL_law r)) : ∀ (q : Nat) (l3 : Int32) (l4 : Int32) (l6 : Int64) (l8 : Int64) (l10 : Int32) (I : zMI) (R : zMR), fL_law_L415 n kd sl sf ah hF gh k524 q l3 l4 l6 l8 l10 I R = some r → EV w d 60 1300 YL_law 415 [some (.ref 26), some (.ref 32), some (.ref ah), some (.int l3), some (.int l4), none, some (.long l6), none, some (.long l8), none, some (.int l10)] [] (n, kd, I, R) (qL_law r) := by
  intro q
  induction q with
  | zero =>
    intro l3 l4 l6 l8 l10 I R h
    cases h
  | succ q ih =>
    intro l3 l4 l6 l8 l10 I R h
    unfold fL_law_L415 at h
    refine ev_iload dL_law_415 rfl ?_
    refine ev_bipush dL_law_417 (v := (9 : Int32)) zcb_9 ?_
    refine ev_icmp_ge dL_law_419 (tgt := 524) (by decide) (fun c67 => ?_) (fun c67 => ?_)
    · replace h := zit c67 h
      exact EV.mask [false, true, true, true, true, false, true, false, true, false, false] rfl (hk524 l3 l4 l6 l8 I R h)
    · replace h := zif c67 h
      refine ev_aload_n dL_law_422 rfl rfl ?_
      refine ev_iload dL_law_423 rfl ?_
      refine ev_iload dL_law_425 rfl ?_
      refine ev_iconst dL_law_427 (v := (0 : Int32)) zci_0 ?_
      obtain ⟨p68, e69, h⟩ := zbd h
      refine ev_callV0 dL_law_428 zm11_height zl_NineHeapsLaw_164 zi11_height zv11_height (zrcX hS) (As := [.int l10, .int l4, .int (0 : Int32)]) (rest := []) rfl rfl (Nat.le_of_ble_eq_true rfl) rfl (Nat.le_of_ble_eq_true rfl) (d' := 8) (by omega) (e11_height hw hS (Nat.le_refl _) e69) (fun v μ1 q => ?_)
      obtain ⟨rfl, rfl⟩ := q
      obtain ⟨J70, e71, h⟩ := zld h
      refine EV.ghost (zGE_to (hge n kd p68.2.1 p68.2.2) e71) ?_
      refine ev_i2l dL_law_431 rfl ?_
      refine ev_aload_n dL_law_432 rfl rfl ?_
      refine ev_bipush dL_law_433 (v := (70 : Int32)) zcb_70 ?_
      refine ev_iload dL_law_435 rfl ?_
      refine ev_iadd dL_law_437 rfl ?_
      obtain ⟨g72, h⟩ := zgd h
      refine em_laldW hh dL_law_438 ha hn g72 rfl ?_
      refine ev_lcmp dL_law_439 rfl ?_
      refine ev_if_ne dL_law_440 (tgt := 496) (by decide) (fun c73 => ?_) (fun c73 => ?_)
      · replace h := zif c73 h
        refine ev_iconst dL_law_496 (v := (0 : Int32)) zci_0 ?_
        obtain rfl := Option.some.inj h
        exact ev_end_i dL_law_497 rfl rfl rfl
      · replace h := zit c73 h
        refine ev_aload_n dL_law_443 rfl rfl ?_
        refine ev_iload dL_law_444 rfl ?_
        refine ev_iload dL_law_446 rfl ?_
        refine ev_iconst dL_law_448 (v := (1 : Int32)) zci_1 ?_
        obtain ⟨p74, e75, h⟩ := zbd h
        refine ev_callV0 dL_law_449 zm11_height zl_NineHeapsLaw_164 zi11_height zv11_height (zrcX hS) (As := [.int l10, .int l4, .int (1 : Int32)]) (rest := []) rfl rfl (Nat.le_of_ble_eq_true rfl) rfl (Nat.le_of_ble_eq_true rfl) (d' := 8) (by omega) (e11_height hw hS (Nat.le_refl _) e75) (fun v μ1 q => ?_)
        obtain ⟨rfl, rfl⟩ := q
        obtain ⟨J76, e77, h⟩ := zld h
        refine EV.ghost (zGE_to (hge n kd p74.2.1 p74.2.2) e77) ?_
        refine ev_i2l dL_law_452 rfl ?_
        refine ev_aload_n dL_law_453 rfl rfl ?_
        refine ev_bipush dL_law_454 (v := (90 : Int32)) zcb_90 ?_
        refine ev_iload dL_law_456 rfl ?_
        refine ev_iadd dL_law_458 rfl ?_
        obtain ⟨g78, h⟩ := zgd h
        refine em_laldW hh dL_law_459 ha hn g78 rfl ?_
        refine ev_lcmp dL_law_460 rfl ?_
        refine ev_if_ne dL_law_461 (tgt := 496) (by decide) (fun c79 => ?_) (fun c79 => ?_)
        · replace h := zif c79 h
          refine ev_iconst dL_law_496 (v := (0 : Int32)) zci_0 ?_
          obtain rfl := Option.some.inj h
          exact ev_end_i dL_law_497 rfl rfl rfl
        · replace h := zit c79 h
          refine ev_aload_n dL_law_464 rfl rfl ?_
          refine ev_iload dL_law_465 rfl ?_
          refine ev_iconst dL_law_467 (v := (0 : Int32)) zci_0 ?_
          obtain ⟨p80, e81, h⟩ := zbd h
          refine ev_callV0 dL_law_468 zm11_heap zl_NineHeapsLaw_167 zi11_heap zv11_heap (zrcX hS) (As := [.int l10, .int (0 : Int32)]) (rest := []) rfl rfl (Nat.le_of_ble_eq_true rfl) rfl (Nat.le_of_ble_eq_true rfl) (d' := 2) (by omega) (e11_heap hw hS (Nat.le_refl _) e81) (fun v μ1 q => ?_)
          obtain ⟨rfl, rfl⟩ := q
          refine ev_aload_n dL_law_471 rfl rfl ?_
          refine ev_iload dL_law_472 rfl ?_
          obtain ⟨p82, e83, h⟩ := zbd h
          refine ev_callS0 dL_law_474 zmL_high zl_NineHeapsLaw_24 zsL_high (As := [.ref 26, .int l10]) (rest := [.int p80]) rfl rfl (Nat.le_of_ble_eq_true rfl) rfl (Nat.le_of_ble_eq_true rfl) (d' := 2) (by omega) (eL_high hsl hsf (Nat.le_refl _) e83) (fun v μ1 q => ?_)
          obtain ⟨rfl, rfl⟩ := q
          refine ev_icmp_ne dL_law_477 (tgt := 496) (by decide) (fun c84 => ?_) (fun c84 => ?_)
          · replace h := zif c84 h
            refine ev_iconst dL_law_496 (v := (0 : Int32)) zci_0 ?_
            obtain rfl := Option.some.inj h
            exact ev_end_i dL_law_497 rfl rfl rfl
          · replace h := zit c84 h
            refine ev_aload_n dL_law_480 rfl rfl ?_
            refine ev_iload dL_law_481 rfl ?_
            refine ev_iconst dL_law_483 (v := (1 : Int32)) zci_1 ?_
            obtain ⟨p85, e86, h⟩ := zbd h
            refine ev_callV0 dL_law_484 zm11_heap zl_NineHeapsLaw_167 zi11_heap zv11_heap (zrcX hS) (As := [.int l10, .int (1 : Int32)]) (rest := []) rfl rfl (Nat.le_of_ble_eq_true rfl) rfl (Nat.le_of_ble_eq_true rfl) (d' := 2) (by omega) (e11_heap hw hS (Nat.le_refl _) e86) (fun v μ1 q => ?_)
            obtain ⟨rfl, rfl⟩ := q
            refine ev_aload_n dL_law_487 rfl rfl ?_
            refine ev_iload dL_law_488 rfl ?_
            obtain ⟨p87, e88, h⟩ := zbd h
            refine ev_callS0 dL_law_490 zmL_stick zl_NineHeapsLaw_34 zsL_stick (As := [.ref 26, .int l10]) (rest := [.int p85]) rfl rfl (Nat.le_of_ble_eq_true rfl) rfl (Nat.le_of_ble_eq_true rfl) (d' := 2) (by omega) (eL_stick hsl hsf (Nat.le_refl _) e88) (fun v μ1 q => ?_)
            obtain ⟨rfl, rfl⟩ := q
            refine ev_icmp_eq dL_law_493 (tgt := 498) (by decide) (fun c89 => ?_) (fun c89 => ?_)
            · replace h := zit c89 h
              refine ev_lload dL_law_498 rfl ?_
              refine ev_aload_n dL_law_500 rfl rfl ?_
              refine ev_iload dL_law_501 rfl ?_
              obtain ⟨p90, e91, h⟩ := zbd h
              refine ev_callS0 dL_law_503 zmL_high zl_NineHeapsLaw_24 zsL_high (As := [.ref 26, .int l10]) (rest := [.long l8]) rfl rfl (Nat.le_of_ble_eq_true rfl) rfl (Nat.le_of_ble_eq_true rfl) (d' := 2) (by omega) (eL_high hsl hsf (Nat.le_refl _) e91) (fun v μ1 q => ?_)
              obtain ⟨rfl, rfl⟩ := q
              refine ev_i2l dL_law_506 rfl ?_
              refine ev_aload_n dL_law_507 rfl rfl ?_
              refine ev_bipush dL_law_508 (v := (70 : Int32)) zcb_70 ?_
              refine ev_iload dL_law_510 rfl ?_
              refine ev_iadd dL_law_512 rfl ?_
              refine em_laldW hh dL_law_513 ha hn g72 rfl ?_
              refine ev_lsub dL_law_514 rfl ?_
              refine ev_ladd dL_law_515 rfl ?_
              refine ev_lstore dL_law_516 (by decide) rfl ?_
              refine ev_iinc dL_law_518 (v := l10 + (1 : Int32)) rfl rfl (by decide) rfl ?_
              refine ev_goto dL_law_521 (tgt := 415) (by decide) ?_
              exact EV.mask [true, true, true, true, true, false, true, false, true, false, true] rfl (ih l3 l4 l6 (l8 + (p90.toInt64 - (hF ((70 : Int32) + l10).toNatClampNeg))) (l10 + (1 : Int32)) J76 p74.2.2 h)
            · replace h := zif c89 h
              refine ev_iconst dL_law_496 (v := (0 : Int32)) zci_0 ?_
              obtain rfl := Option.some.inj h
              exact ev_end_i dL_law_497 rfl rfl rfl
set_option maxHeartbeats 4000000 in
set_option maxRecDepth 100000 in
theorem eL_law_L610 {w : zW} {d : Nat} {sl : Nat} {sf : Nat → Int32} {ah : Nat} {hF : zML} {gh : zGh}  {n : Nat} {kd : zMK} {r : Int32} {k642 : Int32 → zMI → zMR → Option (Int32)} (hsl : zxl w = sl) (hsf : zxs w = sf) (hh : zhm w = some (ah, hF)) (hge : zGhe gh) (hw : zst w = zSt0) (hS : zSh n kd) (ha : zHas n kd ah 14) (hn : (kd ah).2 = 130) (hd : 139 ≤ d)  (hk642 : ∀ (l4 : Int32) (I : zMI) (R : zMR), k642 l4 I R = some r → EV w d 60 1300 YL_law 642 [none, some (.ref 32), some (.ref ah), none, some (.int l4), none, none, none, none, none, none] [] (n, kd, I, R) (qL_law r)) : ∀ (q : Nat) (l3 : Int32) (l4 : Int32) (l10 : Int32) (I : zMI) (R : zMR), fL_law_L610 n kd sl sf ah hF gh k642 q l3 l4 l10 I R = some r → EV w d 60 1300 YL_law 610 [none, some (.ref 32), some (.ref ah), some (.int l3), some (.int l4), none, none, none, none, none, some (.int l10)] [] (n, kd, I, R) (qL_law r) := by
  intro q
  induction q with
  | zero =>
    intro l3 l4 l10 I R h
    cases h
  | succ q ih =>
    intro l3 l4 l10 I R h
    unfold fL_law_L610 at h
    refine ev_iload dL_law_610 rfl ?_
    refine ev_iload_n dL_law_612 rfl rfl ?_
    refine ev_icmp_ge dL_law_613 (tgt := 642) (by decide) (fun c92 => ?_) (fun c92 => ?_)
    · replace h := zit c92 h
      exact EV.mask [false, true, true, false, true, false, false, false, false, false, false] rfl (hk642 l4 I R h)
    · replace h := zif c92 h
      refine ev_aload_n dL_law_616 rfl rfl ?_
      refine ev_iload dL_law_617 rfl ?_
      refine ev_iconst dL_law_619 (v := (1 : Int32)) zci_1 ?_
      obtain ⟨p93, e94, h⟩ := zbd h
      refine ev_callV0 dL_law_620 zm11_start zl_NineHeapsLaw_173 zi11_start zv11_start (zrcX hS) (As := [.int l10, .int (1 : Int32)]) (rest := []) rfl rfl (Nat.le_of_ble_eq_true rfl) rfl (Nat.le_of_ble_eq_true rfl) (d' := 8) (by omega) (e11_start hw hS (Nat.le_refl _) e94) (fun v μ1 q => ?_)
      obtain ⟨rfl, rfl⟩ := q
      obtain ⟨J95, e96, h⟩ := zld h
      refine EV.ghost (zGE_to (hge n kd p93.2.1 p93.2.2) e96) ?_
      refine ev_aload_n dL_law_623 rfl rfl ?_
      refine ev_sipush dL_law_624 (v := (600 : Int32)) zcs_600 ?_
      refine ev_iconst dL_law_627 (v := (0 : Int32)) zci_0 ?_
      obtain ⟨p97, e98, h⟩ := zbd h
      refine ev_callV0 dL_law_628 zm11_run zl_NineHeapsLaw_161 zi11_run zv11_run (zrcX hS) (As := [.int (600 : Int32), .int (0 : Int32)]) (rest := [.int p93.1]) rfl rfl (Nat.le_of_ble_eq_true rfl) rfl (Nat.le_of_ble_eq_true rfl) (d' := 8) (by omega) (e11_run hw hS (Nat.le_refl _) e98) (fun v μ1 q => ?_)
      obtain ⟨rfl, rfl⟩ := q
      obtain ⟨J99, e100, h⟩ := zld h
      refine EV.ghost (zGE_to (hge n kd p97.2.1 p97.2.2) e100) ?_
      refine ev_icmp_ge dL_law_631 (tgt := 636) (by decide) (fun c101 => ?_) (fun c101 => ?_)
      · replace h := zit c101 h
        refine ev_iinc dL_law_636 (v := l10 + (1 : Int32)) rfl rfl (by decide) rfl ?_
        refine ev_goto dL_law_639 (tgt := 610) (by decide) ?_
        exact EV.mask [false, true, true, true, true, false, false, false, false, false, true] rfl (ih l3 l4 (l10 + (1 : Int32)) J99 p97.2.2 h)
      · replace h := zif c101 h
        refine ev_iconst dL_law_634 (v := (0 : Int32)) zci_0 ?_
        obtain rfl := Option.some.inj h
        exact ev_end_i dL_law_635 rfl rfl rfl
set_option maxHeartbeats 4000000 in
set_option maxRecDepth 100000 in
theorem eL_law_L687 {w : zW} {d : Nat} {sl : Nat} {sf : Nat → Int32} {ah : Nat} {hF : zML} {gh : zGh}  {n : Nat} {kd : zMK} {r : Int32} {k721 : zMI → zMR → Option (Int32)} (hsl : zxl w = sl) (hsf : zxs w = sf) (hh : zhm w = some (ah, hF)) (hge : zGhe gh) (hw : zst w = zSt0) (hS : zSh n kd) (ha : zHas n kd ah 14) (hn : (kd ah).2 = 130) (hd : 139 ≤ d)  (hk721 : ∀  (I : zMI) (R : zMR), k721 I R = some r → EV w d 60 1300 YL_law 721 [none, some (.ref 32), none, none, none, none, none, none, none, none, none] [] (n, kd, I, R) (qL_law r)) : ∀ (q : Nat) (l10 : Int32) (I : zMI) (R : zMR), fL_law_L687 n kd sl sf ah hF gh k721 q l10 I R = some r → EV w d 60 1300 YL_law 687 [none, some (.ref 32), some (.ref ah), none, none, none, none, none, none, none, some (.int l10)] [] (n, kd, I, R) (qL_law r) := by
  intro q
  induction q with
  | zero =>
    intro l10 I R h
    cases h
  | succ q ih =>
    intro l10 I R h
    unfold fL_law_L687 at h
    refine ev_iload dL_law_687 rfl ?_
    refine ev_bipush dL_law_689 (v := (9 : Int32)) zcb_9 ?_
    refine ev_icmp_ge dL_law_691 (tgt := 721) (by decide) (fun c102 => ?_) (fun c102 => ?_)
    · replace h := zit c102 h
      exact EV.mask [false, true, false, false, false, false, false, false, false, false, false] rfl (hk721 I R h)
    · replace h := zif c102 h
      refine ev_aload_n dL_law_694 rfl rfl ?_
      refine ev_iload dL_law_695 rfl ?_
      refine ev_iconst dL_law_697 (v := (0 : Int32)) zci_0 ?_
      obtain ⟨p103, e104, h⟩ := zbd h
      refine ev_callV0 dL_law_698 zm11_heap zl_NineHeapsLaw_167 zi11_heap zv11_heap (zrcX hS) (As := [.int l10, .int (0 : Int32)]) (rest := []) rfl rfl (Nat.le_of_ble_eq_true rfl) rfl (Nat.le_of_ble_eq_true rfl) (d' := 2) (by omega) (e11_heap hw hS (Nat.le_refl _) e104) (fun v μ1 q => ?_)
      obtain ⟨rfl, rfl⟩ := q
      refine ev_i2l dL_law_701 rfl ?_
      refine ev_aload_n dL_law_702 rfl rfl ?_
      refine ev_bipush dL_law_703 (v := (70 : Int32)) zcb_70 ?_
      refine ev_iload dL_law_705 rfl ?_
      refine ev_iadd dL_law_707 rfl ?_
      obtain ⟨g105, h⟩ := zgd h
      refine em_laldW hh dL_law_708 ha hn g105 rfl ?_
      refine ev_lcmp dL_law_709 rfl ?_
      refine ev_if_eq dL_law_710 (tgt := 715) (by decide) (fun c106 => ?_) (fun c106 => ?_)
      · replace h := zit c106 h
        refine ev_iinc dL_law_715 (v := l10 + (1 : Int32)) rfl rfl (by decide) rfl ?_
        refine ev_goto dL_law_718 (tgt := 687) (by decide) ?_
        exact EV.mask [false, true, true, false, false, false, false, false, false, false, true] rfl (ih (l10 + (1 : Int32)) I R h)
      · replace h := zif c106 h
        refine ev_iconst dL_law_713 (v := (0 : Int32)) zci_0 ?_
        obtain rfl := Option.some.inj h
        exact ev_end_i dL_law_714 rfl rfl rfl
set_option maxHeartbeats 4000000 in
set_option maxRecDepth 100000 in
theorem eL_law_B721 {w : zW} {d : Nat} {sl : Nat} {sf : Nat → Int32} {ah : Nat} {hF : zML} {gh : zGh}  {n : Nat} {kd : zMK} {r : Int32}  (hsl : zxl w = sl) (hsf : zxs w = sf) (hh : zhm w = some (ah, hF)) (hge : zGhe gh) (hw : zst w = zSt0) (hS : zSh n kd) (ha : zHas n kd ah 14) (hn : (kd ah).2 = 130) (hd : 139 ≤ d)   : ∀  (I : zMI) (R : zMR), fL_law_B721 n kd sl sf ah hF gh I R = some r → EV w d 60 1300 YL_law 721 [none, some (.ref 32), none, none, none, none, none, none, none, none, none] [] (n, kd, I, R) (qL_law r) := by
  intro I R h
  unfold fL_law_B721 at h
  refine ev_aload_n dL_law_721 rfl rfl ?_
  refine ev_sipush dL_law_722 (v := (601 : Int32)) zcs_601 ?_
  refine ev_iconst dL_law_725 (v := (0 : Int32)) zci_0 ?_
  obtain ⟨p107, e108, h⟩ := zbd h
  refine ev_callV0 dL_law_726 zm11_run zl_NineHeapsLaw_161 zi11_run zv11_run (zrcX hS) (As := [.int (601 : Int32), .int (0 : Int32)]) (rest := []) rfl rfl (Nat.le_of_ble_eq_true rfl) rfl (Nat.le_of_ble_eq_true rfl) (d' := 8) (by omega) (e11_run hw hS (Nat.le_refl _) e108) (fun v μ1 q => ?_)
  obtain ⟨rfl, rfl⟩ := q
  obtain ⟨J109, e110, h⟩ := zld h
  refine EV.ghost (zGE_to (hge n kd p107.2.1 p107.2.2) e110) ?_
  refine ev_bipush dL_law_729 (v := (-2 : Int32)) zcb_m2 ?_
  refine ev_icmp_ne dL_law_731 (tgt := 919) (by decide) (fun c111 => ?_) (fun c111 => ?_)
  · replace h := zif c111 h
    refine ev_iconst dL_law_919 (v := (0 : Int32)) zci_0 ?_
    obtain rfl := Option.some.inj h
    exact ev_end_i dL_law_920 rfl rfl rfl
  · replace h := zit c111 h
    refine ev_aload_n dL_law_734 rfl rfl ?_
    refine ev_iconst dL_law_735 (v := (0 : Int32)) zci_0 ?_
    refine ev_iconst dL_law_736 (v := (5 : Int32)) zci_5 ?_
    obtain ⟨p112, e113, h⟩ := zbd h
    refine ev_callV0 dL_law_737 zm11_run zl_NineHeapsLaw_161 zi11_run zv11_run (zrcX hS) (As := [.int (0 : Int32), .int (5 : Int32)]) (rest := []) rfl rfl (Nat.le_of_ble_eq_true rfl) rfl (Nat.le_of_ble_eq_true rfl) (d' := 8) (by omega) (e11_run hw hS (Nat.le_refl _) e113) (fun v μ1 q => ?_)
    obtain ⟨rfl, rfl⟩ := q
    obtain ⟨J114, e115, h⟩ := zld h
    refine EV.ghost (zGE_to (hge n kd p112.2.1 p112.2.2) e115) ?_
    refine ev_bipush dL_law_740 (v := (-2 : Int32)) zcb_m2 ?_
    refine ev_icmp_ne dL_law_742 (tgt := 919) (by decide) (fun c116 => ?_) (fun c116 => ?_)
    · replace h := zif c116 h
      refine ev_iconst dL_law_919 (v := (0 : Int32)) zci_0 ?_
      obtain rfl := Option.some.inj h
      exact ev_end_i dL_law_920 rfl rfl rfl
    · replace h := zit c116 h
      refine ev_aload_n dL_law_745 rfl rfl ?_
      refine ev_iconst dL_law_746 (v := (0 : Int32)) zci_0 ?_
      refine ev_iconst dL_law_747 (v := (0 : Int32)) zci_0 ?_
      obtain ⟨p117, e118, h⟩ := zbd h
      refine ev_callV0 dL_law_748 zm11_run zl_NineHeapsLaw_161 zi11_run zv11_run (zrcX hS) (As := [.int (0 : Int32), .int (0 : Int32)]) (rest := []) rfl rfl (Nat.le_of_ble_eq_true rfl) rfl (Nat.le_of_ble_eq_true rfl) (d' := 8) (by omega) (e11_run hw hS (Nat.le_refl _) e118) (fun v μ1 q => ?_)
      obtain ⟨rfl, rfl⟩ := q
      obtain ⟨J119, e120, h⟩ := zld h
      refine EV.ghost (zGE_to (hge n kd p117.2.1 p117.2.2) e120) ?_
      refine ev_if_ne dL_law_751 (tgt := 919) (by decide) (fun c121 => ?_) (fun c121 => ?_)
      · replace h := zif c121 h
        refine ev_iconst dL_law_919 (v := (0 : Int32)) zci_0 ?_
        obtain rfl := Option.some.inj h
        exact ev_end_i dL_law_920 rfl rfl rfl
      · replace h := zit c121 h
        refine ev_aload_n dL_law_754 rfl rfl ?_
        refine ev_iconst dL_law_755 (v := (5 : Int32)) zci_5 ?_
        refine ev_iconst dL_law_756 (v := (0 : Int32)) zci_0 ?_
        refine ev_iconst dL_law_757 (v := (0 : Int32)) zci_0 ?_
        obtain ⟨p122, e123, h⟩ := zbd h
        refine ev_callV0 dL_law_758 zm11_one zl_NineHeapsLaw_155 zi11_one zv11_one (zrcX hS) (As := [.int (5 : Int32), .int (0 : Int32), .int (0 : Int32)]) (rest := []) rfl rfl (Nat.le_of_ble_eq_true rfl) rfl (Nat.le_of_ble_eq_true rfl) (d' := 8) (by omega) (e11_one hw hS (Nat.le_refl _) e123) (fun v μ1 q => ?_)
        obtain ⟨rfl, rfl⟩ := q
        obtain ⟨J124, e125, h⟩ := zld h
        refine EV.ghost (zGE_to (hge n kd p122.2.1 p122.2.2) e125) ?_
        refine ev_bipush dL_law_761 (v := (-5 : Int32)) zcb_m5 ?_
        refine ev_icmp_ne dL_law_763 (tgt := 919) (by decide) (fun c126 => ?_) (fun c126 => ?_)
        · replace h := zif c126 h
          refine ev_iconst dL_law_919 (v := (0 : Int32)) zci_0 ?_
          obtain rfl := Option.some.inj h
          exact ev_end_i dL_law_920 rfl rfl rfl
        · replace h := zit c126 h
          refine ev_aload_n dL_law_766 rfl rfl ?_
          refine ev_iconst dL_law_767 (v := (0 : Int32)) zci_0 ?_
          refine ev_sipush dL_law_768 (v := (601 : Int32)) zcs_601 ?_
          refine ev_iconst dL_law_771 (v := (0 : Int32)) zci_0 ?_
          obtain ⟨p127, e128, h⟩ := zbd h
          refine ev_callV0 dL_law_772 zm11_one zl_NineHeapsLaw_155 zi11_one zv11_one (zrcX hS) (As := [.int (0 : Int32), .int (601 : Int32), .int (0 : Int32)]) (rest := []) rfl rfl (Nat.le_of_ble_eq_true rfl) rfl (Nat.le_of_ble_eq_true rfl) (d' := 8) (by omega) (e11_one hw hS (Nat.le_refl _) e128) (fun v μ1 q => ?_)
          obtain ⟨rfl, rfl⟩ := q
          obtain ⟨J129, e130, h⟩ := zld h
          refine EV.ghost (zGE_to (hge n kd p127.2.1 p127.2.2) e130) ?_
          refine ev_bipush dL_law_775 (v := (-7 : Int32)) zcb_m7 ?_
          refine ev_icmp_ne dL_law_777 (tgt := 919) (by decide) (fun c131 => ?_) (fun c131 => ?_)
          · replace h := zif c131 h
            refine ev_iconst dL_law_919 (v := (0 : Int32)) zci_0 ?_
            obtain rfl := Option.some.inj h
            exact ev_end_i dL_law_920 rfl rfl rfl
          · replace h := zit c131 h
            refine ev_aload_n dL_law_780 rfl rfl ?_
            refine ev_iconst dL_law_781 (v := (0 : Int32)) zci_0 ?_
            refine ev_iconst dL_law_782 (v := (0 : Int32)) zci_0 ?_
            refine ev_iconst dL_law_783 (v := (5 : Int32)) zci_5 ?_
            obtain ⟨p132, e133, h⟩ := zbd h
            refine ev_callV0 dL_law_784 zm11_one zl_NineHeapsLaw_155 zi11_one zv11_one (zrcX hS) (As := [.int (0 : Int32), .int (0 : Int32), .int (5 : Int32)]) (rest := []) rfl rfl (Nat.le_of_ble_eq_true rfl) rfl (Nat.le_of_ble_eq_true rfl) (d' := 8) (by omega) (e11_one hw hS (Nat.le_refl _) e133) (fun v μ1 q => ?_)
            obtain ⟨rfl, rfl⟩ := q
            obtain ⟨J134, e135, h⟩ := zld h
            refine EV.ghost (zGE_to (hge n kd p132.2.1 p132.2.2) e135) ?_
            refine ev_bipush dL_law_787 (v := (-7 : Int32)) zcb_m7 ?_
            refine ev_icmp_ne dL_law_789 (tgt := 919) (by decide) (fun c136 => ?_) (fun c136 => ?_)
            · replace h := zif c136 h
              refine ev_iconst dL_law_919 (v := (0 : Int32)) zci_0 ?_
              obtain rfl := Option.some.inj h
              exact ev_end_i dL_law_920 rfl rfl rfl
            · replace h := zit c136 h
              refine ev_aload_n dL_law_792 rfl rfl ?_
              refine ev_bipush dL_law_793 (v := (9 : Int32)) zcb_9 ?_
              refine ev_iconst dL_law_795 (v := (0 : Int32)) zci_0 ?_
              refine ev_iconst dL_law_796 (v := (0 : Int32)) zci_0 ?_
              obtain ⟨p137, e138, h⟩ := zbd h
              refine ev_callV0 dL_law_797 zm11_height zl_NineHeapsLaw_164 zi11_height zv11_height (zrcX hS) (As := [.int (9 : Int32), .int (0 : Int32), .int (0 : Int32)]) (rest := []) rfl rfl (Nat.le_of_ble_eq_true rfl) rfl (Nat.le_of_ble_eq_true rfl) (d' := 8) (by omega) (e11_height hw hS (Nat.le_refl _) e138) (fun v μ1 q => ?_)
              obtain ⟨rfl, rfl⟩ := q
              obtain ⟨J139, e140, h⟩ := zld h
              refine EV.ghost (zGE_to (hge n kd p137.2.1 p137.2.2) e140) ?_
              refine ev_bipush dL_law_800 (v := (-6 : Int32)) zcb_m6 ?_
              refine ev_icmp_ne dL_law_802 (tgt := 919) (by decide) (fun c141 => ?_) (fun c141 => ?_)
              · replace h := zif c141 h
                refine ev_iconst dL_law_919 (v := (0 : Int32)) zci_0 ?_
                obtain rfl := Option.some.inj h
                exact ev_end_i dL_law_920 rfl rfl rfl
              · replace h := zit c141 h
                refine ev_aload_n dL_law_805 rfl rfl ?_
                refine ev_iconst dL_law_806 (v := (0 : Int32)) zci_0 ?_
                refine ev_sipush dL_law_807 (v := (601 : Int32)) zcs_601 ?_
                refine ev_iconst dL_law_810 (v := (0 : Int32)) zci_0 ?_
                obtain ⟨p142, e143, h⟩ := zbd h
                refine ev_callV0 dL_law_811 zm11_height zl_NineHeapsLaw_164 zi11_height zv11_height (zrcX hS) (As := [.int (0 : Int32), .int (601 : Int32), .int (0 : Int32)]) (rest := []) rfl rfl (Nat.le_of_ble_eq_true rfl) rfl (Nat.le_of_ble_eq_true rfl) (d' := 8) (by omega) (e11_height hw hS (Nat.le_refl _) e143) (fun v μ1 q => ?_)
                obtain ⟨rfl, rfl⟩ := q
                obtain ⟨J144, e145, h⟩ := zld h
                refine EV.ghost (zGE_to (hge n kd p142.2.1 p142.2.2) e145) ?_
                refine ev_bipush dL_law_814 (v := (-7 : Int32)) zcb_m7 ?_
                refine ev_icmp_ne dL_law_816 (tgt := 919) (by decide) (fun c146 => ?_) (fun c146 => ?_)
                · replace h := zif c146 h
                  refine ev_iconst dL_law_919 (v := (0 : Int32)) zci_0 ?_
                  obtain rfl := Option.some.inj h
                  exact ev_end_i dL_law_920 rfl rfl rfl
                · replace h := zit c146 h
                  refine ev_aload_n dL_law_819 rfl rfl ?_
                  refine ev_iconst dL_law_820 (v := (0 : Int32)) zci_0 ?_
                  refine ev_iconst dL_law_821 (v := (0 : Int32)) zci_0 ?_
                  refine ev_iconst dL_law_822 (v := (2 : Int32)) zci_2 ?_
                  obtain ⟨p147, e148, h⟩ := zbd h
                  refine ev_callV0 dL_law_823 zm11_height zl_NineHeapsLaw_164 zi11_height zv11_height (zrcX hS) (As := [.int (0 : Int32), .int (0 : Int32), .int (2 : Int32)]) (rest := []) rfl rfl (Nat.le_of_ble_eq_true rfl) rfl (Nat.le_of_ble_eq_true rfl) (d' := 8) (by omega) (e11_height hw hS (Nat.le_refl _) e148) (fun v μ1 q => ?_)
                  obtain ⟨rfl, rfl⟩ := q
                  obtain ⟨J149, e150, h⟩ := zld h
                  refine EV.ghost (zGE_to (hge n kd p147.2.1 p147.2.2) e150) ?_
                  refine ev_bipush dL_law_826 (v := (-7 : Int32)) zcb_m7 ?_
                  refine ev_icmp_ne dL_law_828 (tgt := 919) (by decide) (fun c151 => ?_) (fun c151 => ?_)
                  · replace h := zif c151 h
                    refine ev_iconst dL_law_919 (v := (0 : Int32)) zci_0 ?_
                    obtain rfl := Option.some.inj h
                    exact ev_end_i dL_law_920 rfl rfl rfl
                  · replace h := zit c151 h
                    refine ev_aload_n dL_law_831 rfl rfl ?_
                    refine ev_sipush dL_law_832 (v := (601 : Int32)) zcs_601 ?_
                    obtain ⟨p152, e153, h⟩ := zbd h
                    refine ev_callV0 dL_law_835 zm11_go zl_NineHeapsLaw_181 zi11_go zv11_go (zrcX hS) (As := [.int (601 : Int32)]) (rest := []) rfl rfl (Nat.le_of_ble_eq_true rfl) rfl (Nat.le_of_ble_eq_true rfl) (d' := 8) (by omega) (e11_go hw hS (Nat.le_refl _) e153) (fun v μ1 q => ?_)
                    obtain ⟨rfl, rfl⟩ := q
                    obtain ⟨J154, e155, h⟩ := zld h
                    refine EV.ghost (zGE_to (hge n kd p152.2.1 p152.2.2) e155) ?_
                    refine ev_bipush dL_law_838 (v := (-2 : Int32)) zcb_m2 ?_
                    refine ev_icmp_ne dL_law_840 (tgt := 919) (by decide) (fun c156 => ?_) (fun c156 => ?_)
                    · replace h := zif c156 h
                      refine ev_iconst dL_law_919 (v := (0 : Int32)) zci_0 ?_
                      obtain rfl := Option.some.inj h
                      exact ev_end_i dL_law_920 rfl rfl rfl
                    · replace h := zit c156 h
                      refine ev_aload_n dL_law_843 rfl rfl ?_
                      refine ev_iconst dL_law_844 (v := (-1 : Int32)) zci_m1 ?_
                      obtain ⟨p157, e158, h⟩ := zbd h
                      refine ev_callV0 dL_law_845 zm11_go zl_NineHeapsLaw_181 zi11_go zv11_go (zrcX hS) (As := [.int (-1 : Int32)]) (rest := []) rfl rfl (Nat.le_of_ble_eq_true rfl) rfl (Nat.le_of_ble_eq_true rfl) (d' := 8) (by omega) (e11_go hw hS (Nat.le_refl _) e158) (fun v μ1 q => ?_)
                      obtain ⟨rfl, rfl⟩ := q
                      obtain ⟨J159, e160, h⟩ := zld h
                      refine EV.ghost (zGE_to (hge n kd p157.2.1 p157.2.2) e160) ?_
                      refine ev_bipush dL_law_848 (v := (-2 : Int32)) zcb_m2 ?_
                      refine ev_icmp_ne dL_law_850 (tgt := 919) (by decide) (fun c161 => ?_) (fun c161 => ?_)
                      · replace h := zif c161 h
                        refine ev_iconst dL_law_919 (v := (0 : Int32)) zci_0 ?_
                        obtain rfl := Option.some.inj h
                        exact ev_end_i dL_law_920 rfl rfl rfl
                      · replace h := zit c161 h
                        refine ev_aload_n dL_law_853 rfl rfl ?_
                        refine ev_iconst dL_law_854 (v := (5 : Int32)) zci_5 ?_
                        refine ev_iconst dL_law_855 (v := (0 : Int32)) zci_0 ?_
                        obtain ⟨p162, e163, h⟩ := zbd h
                        refine ev_callV0 dL_law_856 zm11_told zl_NineHeapsLaw_158 zi11_told zv11_told (zrcX hS) (As := [.int (5 : Int32), .int (0 : Int32)]) (rest := []) rfl rfl (Nat.le_of_ble_eq_true rfl) rfl (Nat.le_of_ble_eq_true rfl) (d' := 4) (by omega) (e11_told hw hS (Nat.le_refl _) e163) (fun v μ1 q => ?_)
                        obtain ⟨rfl, rfl⟩ := q
                        refine ev_bipush dL_law_859 (v := (-5 : Int32)) zcb_m5 ?_
                        refine ev_icmp_ne dL_law_861 (tgt := 919) (by decide) (fun c164 => ?_) (fun c164 => ?_)
                        · replace h := zif c164 h
                          refine ev_iconst dL_law_919 (v := (0 : Int32)) zci_0 ?_
                          obtain rfl := Option.some.inj h
                          exact ev_end_i dL_law_920 rfl rfl rfl
                        · replace h := zit c164 h
                          refine ev_aload_n dL_law_864 rfl rfl ?_
                          refine ev_iconst dL_law_865 (v := (0 : Int32)) zci_0 ?_
                          refine ev_iconst dL_law_866 (v := (4 : Int32)) zci_4 ?_
                          obtain ⟨p165, e166, h⟩ := zbd h
                          refine ev_callV0 dL_law_867 zm11_told zl_NineHeapsLaw_158 zi11_told zv11_told (zrcX hS) (As := [.int (0 : Int32), .int (4 : Int32)]) (rest := []) rfl rfl (Nat.le_of_ble_eq_true rfl) rfl (Nat.le_of_ble_eq_true rfl) (d' := 4) (by omega) (e11_told hw hS (Nat.le_refl _) e166) (fun v μ1 q => ?_)
                          obtain ⟨rfl, rfl⟩ := q
                          refine ev_bipush dL_law_870 (v := (-7 : Int32)) zcb_m7 ?_
                          refine ev_icmp_ne dL_law_872 (tgt := 919) (by decide) (fun c167 => ?_) (fun c167 => ?_)
                          · replace h := zif c167 h
                            refine ev_iconst dL_law_919 (v := (0 : Int32)) zci_0 ?_
                            obtain rfl := Option.some.inj h
                            exact ev_end_i dL_law_920 rfl rfl rfl
                          · replace h := zit c167 h
                            refine ev_aload_n dL_law_875 rfl rfl ?_
                            refine ev_bipush dL_law_876 (v := (9 : Int32)) zcb_9 ?_
                            refine ev_iconst dL_law_878 (v := (0 : Int32)) zci_0 ?_
                            obtain ⟨p168, e169, h⟩ := zbd h
                            refine ev_callV0 dL_law_879 zm11_heap zl_NineHeapsLaw_167 zi11_heap zv11_heap (zrcX hS) (As := [.int (9 : Int32), .int (0 : Int32)]) (rest := []) rfl rfl (Nat.le_of_ble_eq_true rfl) rfl (Nat.le_of_ble_eq_true rfl) (d' := 2) (by omega) (e11_heap hw hS (Nat.le_refl _) e169) (fun v μ1 q => ?_)
                            obtain ⟨rfl, rfl⟩ := q
                            refine ev_bipush dL_law_882 (v := (-6 : Int32)) zcb_m6 ?_
                            refine ev_icmp_ne dL_law_884 (tgt := 919) (by decide) (fun c170 => ?_) (fun c170 => ?_)
                            · replace h := zif c170 h
                              refine ev_iconst dL_law_919 (v := (0 : Int32)) zci_0 ?_
                              obtain rfl := Option.some.inj h
                              exact ev_end_i dL_law_920 rfl rfl rfl
                            · replace h := zit c170 h
                              refine ev_aload_n dL_law_887 rfl rfl ?_
                              refine ev_iconst dL_law_888 (v := (0 : Int32)) zci_0 ?_
                              refine ev_iconst dL_law_889 (v := (2 : Int32)) zci_2 ?_
                              obtain ⟨p171, e172, h⟩ := zbd h
                              refine ev_callV0 dL_law_890 zm11_heap zl_NineHeapsLaw_167 zi11_heap zv11_heap (zrcX hS) (As := [.int (0 : Int32), .int (2 : Int32)]) (rest := []) rfl rfl (Nat.le_of_ble_eq_true rfl) rfl (Nat.le_of_ble_eq_true rfl) (d' := 2) (by omega) (e11_heap hw hS (Nat.le_refl _) e172) (fun v μ1 q => ?_)
                              obtain ⟨rfl, rfl⟩ := q
                              refine ev_bipush dL_law_893 (v := (-7 : Int32)) zcb_m7 ?_
                              refine ev_icmp_ne dL_law_895 (tgt := 919) (by decide) (fun c173 => ?_) (fun c173 => ?_)
                              · replace h := zif c173 h
                                refine ev_iconst dL_law_919 (v := (0 : Int32)) zci_0 ?_
                                obtain rfl := Option.some.inj h
                                exact ev_end_i dL_law_920 rfl rfl rfl
                              · replace h := zit c173 h
                                refine ev_fresh (kc' := 8) (ks' := 88) (by omega) (by decide) (by decide) (by decide) ?_
                                refine ev_if_ne_f dL_law_912 (tgt := 919) (by decide) (by decide) ?_
                                refine ev_iconst dL_law_915 (v := (1 : Int32)) zci_1 ?_
                                refine ev_goto dL_law_916 (tgt := 920) (by decide) ?_
                                obtain rfl := Option.some.inj h
                                exact ev_end_i dL_law_920 rfl rfl rfl
set_option maxHeartbeats 4000000 in
set_option maxRecDepth 100000 in
theorem eL_law_B642 {w : zW} {d : Nat} {sl : Nat} {sf : Nat → Int32} {ah : Nat} {hF : zML} {gh : zGh}  {n : Nat} {kd : zMK} {r : Int32}  (hsl : zxl w = sl) (hsf : zxs w = sf) (hh : zhm w = some (ah, hF)) (hge : zGhe gh) (hw : zst w = zSt0) (hS : zSh n kd) (ha : zHas n kd ah 14) (hn : (kd ah).2 = 130) (hd : 139 ≤ d)   : ∀ (l4 : Int32) (I : zMI) (R : zMR), fL_law_B642 n kd sl sf ah hF gh l4 I R = some r → EV w d 60 1300 YL_law 642 [none, some (.ref 32), some (.ref ah), none, some (.int l4), none, none, none, none, none, none] [] (n, kd, I, R) (qL_law r) := by
  intro l4 I R h
  unfold fL_law_B642 at h
  refine ev_aload_n dL_law_642 rfl rfl ?_
  refine ev_iconst dL_law_643 (v := (1 : Int32)) zci_1 ?_
  refine ev_iload dL_law_644 rfl ?_
  obtain ⟨p175, e176, h⟩ := zbd h
  refine ev_callV0 dL_law_646 zm11_film zl_NineHeapsLaw_175 zi11_film zv11_film (zrcX hS) (As := [.int (1 : Int32), .int l4]) (rest := []) rfl rfl (Nat.le_of_ble_eq_true rfl) rfl (Nat.le_of_ble_eq_true rfl) (d' := 8) (by omega) (e11_film hw hS (Nat.le_refl _) e176) (fun v μ1 q => ?_)
  obtain ⟨rfl, rfl⟩ := q
  obtain ⟨J177, e178, h⟩ := zld h
  refine EV.ghost (zGE_to (hge n kd p175.2.1 p175.2.2) e178) ?_
  refine ev_bipush dL_law_649 (v := (9 : Int32)) zcb_9 ?_
  refine ev_icmp_ne dL_law_651 (tgt := 665) (by decide) (fun c179 => ?_) (fun c179 => ?_)
  · replace h := zif c179 h
    refine ev_iconst dL_law_665 (v := (0 : Int32)) zci_0 ?_
    obtain rfl := Option.some.inj h
    exact ev_end_i dL_law_666 rfl rfl rfl
  · replace h := zit c179 h
    refine ev_aload_n dL_law_654 rfl rfl ?_
    refine ev_iconst dL_law_655 (v := (1 : Int32)) zci_1 ?_
    refine ev_iload dL_law_656 rfl ?_
    obtain ⟨p180, e181, h⟩ := zbd h
    refine ev_callV0 dL_law_658 zm11_judge zl_NineHeapsLaw_178 zi11_judge zv11_judge (zrcX hS) (As := [.int (1 : Int32), .int l4]) (rest := []) rfl rfl (Nat.le_of_ble_eq_true rfl) rfl (Nat.le_of_ble_eq_true rfl) (d' := 8) (by omega) (e11_judge hw hS (Nat.le_refl _) e181) (fun v μ1 q => ?_)
    obtain ⟨rfl, rfl⟩ := q
    obtain ⟨J182, e183, h⟩ := zld h
    refine EV.ghost (zGE_to (hge n kd p180.2.1 p180.2.2) e183) ?_
    refine ev_iconst dL_law_661 (v := (-1 : Int32)) zci_m1 ?_
    refine ev_icmp_eq dL_law_662 (tgt := 667) (by decide) (fun c184 => ?_) (fun c184 => ?_)
    · replace h := zit c184 h
      refine ev_aload_n dL_law_667 rfl rfl ?_
      refine ev_iload dL_law_668 rfl ?_
      obtain ⟨p185, e186, h⟩ := zbd h
      refine ev_callV0 dL_law_670 zm11_go zl_NineHeapsLaw_181 zi11_go zv11_go (zrcX hS) (As := [.int l4]) (rest := []) rfl rfl (Nat.le_of_ble_eq_true rfl) rfl (Nat.le_of_ble_eq_true rfl) (d' := 8) (by omega) (e11_go hw hS (Nat.le_refl _) e186) (fun v μ1 q => ?_)
      obtain ⟨rfl, rfl⟩ := q
      obtain ⟨J187, e188, h⟩ := zld h
      refine EV.ghost (zGE_to (hge n kd p185.2.1 p185.2.2) e188) ?_
      refine ev_i2l dL_law_673 rfl ?_
      refine ev_aload_n dL_law_674 rfl rfl ?_
      refine ev_bipush dL_law_675 (v := (101 : Int32)) zcb_101 ?_
      obtain ⟨g189, h⟩ := zgd h
      refine em_laldW hh dL_law_677 ha hn g189 rfl ?_
      refine ev_lcmp dL_law_678 rfl ?_
      refine ev_if_eq dL_law_679 (tgt := 684) (by decide) (fun c190 => ?_) (fun c190 => ?_)
      · replace h := zit c190 h
        refine ev_iconst dL_law_684 (v := (0 : Int32)) zci_0 ?_
        refine ev_istore dL_law_685 (by decide) rfl ?_
        exact EV.mask [false, true, true, false, false, false, false, false, false, false, true] rfl (eL_law_L687 hsl hsf hh hge hw hS ha hn hd (fun I' R' h' => eL_law_B721 hsl hsf hh hge hw hS ha hn hd I' R' h') zF (0 : Int32) J187 p185.2.2 h)
      · replace h := zif c190 h
        refine ev_iconst dL_law_682 (v := (0 : Int32)) zci_0 ?_
        obtain rfl := Option.some.inj h
        exact ev_end_i dL_law_683 rfl rfl rfl
    · replace h := zif c184 h
      refine ev_iconst dL_law_665 (v := (0 : Int32)) zci_0 ?_
      obtain rfl := Option.some.inj h
      exact ev_end_i dL_law_666 rfl rfl rfl
set_option maxHeartbeats 4000000 in
set_option maxRecDepth 100000 in
theorem eL_law_B607 {w : zW} {d : Nat} {sl : Nat} {sf : Nat → Int32} {ah : Nat} {hF : zML} {gh : zGh}  {n : Nat} {kd : zMK} {r : Int32}  (hsl : zxl w = sl) (hsf : zxs w = sf) (hh : zhm w = some (ah, hF)) (hge : zGhe gh) (hw : zst w = zSt0) (hS : zSh n kd) (ha : zHas n kd ah 14) (hn : (kd ah).2 = 130) (hd : 139 ≤ d)   : ∀ (l3 : Int32) (l4 : Int32) (I : zMI) (R : zMR), fL_law_B607 n kd sl sf ah hF gh l3 l4 I R = some r → EV w d 60 1300 YL_law 607 [none, some (.ref 32), some (.ref ah), some (.int l3), some (.int l4), none, none, none, none, none, none] [] (n, kd, I, R) (qL_law r) := by
  intro l3 l4 I R h
  unfold fL_law_B607 at h
  refine ev_iconst dL_law_607 (v := (0 : Int32)) zci_0 ?_
  refine ev_istore dL_law_608 (by decide) rfl ?_
  exact EV.mask [false, true, true, true, true, false, false, false, false, false, true] rfl (eL_law_L610 hsl hsf hh hge hw hS ha hn hd (fun l4' I' R' h' => eL_law_B642 hsl hsf hh hge hw hS ha hn hd l4' I' R' h') zF l3 l4 (0 : Int32) I R h)
set_option maxHeartbeats 4000000 in
set_option maxRecDepth 100000 in
theorem eL_law_B586 {w : zW} {d : Nat} {sl : Nat} {sf : Nat → Int32} {ah : Nat} {hF : zML} {gh : zGh}  {n : Nat} {kd : zMK} {r : Int32}  (hsl : zxl w = sl) (hsf : zxs w = sf) (hh : zhm w = some (ah, hF)) (hge : zGhe gh) (hw : zst w = zSt0) (hS : zSh n kd) (ha : zHas n kd ah 14) (hn : (kd ah).2 = 130) (hd : 139 ≤ d)   : ∀ (l3 : Int32) (l4 : Int32) (I : zMI) (R : zMR), fL_law_B586 n kd sl sf ah hF gh l3 l4 I R = some r → EV w d 60 1300 YL_law 586 [none, some (.ref 32), some (.ref ah), some (.int l3), some (.int l4), none, none, none, none, none, none] [] (n, kd, I, R) (qL_law r) := by
  intro l3 l4 I R h
  unfold fL_law_B586 at h
  refine ev_aload_n dL_law_586 rfl rfl ?_
  refine ev_iconst dL_law_587 (v := (0 : Int32)) zci_0 ?_
  obtain ⟨p191, e192, h⟩ := zbd h
  refine ev_callV0 dL_law_588 zm11_best zl_NineHeapsLaw_170 zi11_best zv11_best (zrcX hS) (As := [.int (0 : Int32)]) (rest := []) rfl rfl (Nat.le_of_ble_eq_true rfl) rfl (Nat.le_of_ble_eq_true rfl) (d' := 8) (by omega) (e11_best hw hS (Nat.le_refl _) e192) (fun v μ1 q => ?_)
  obtain ⟨rfl, rfl⟩ := q
  obtain ⟨J193, e194, h⟩ := zld h
  refine EV.ghost (zGE_to (hge n kd p191.2.1 p191.2.2) e194) ?_
  refine ev_if_ge dL_law_591 (tgt := 607) (by decide) (fun c195 => ?_) (fun c195 => ?_)
  · replace h := zit c195 h
    exact EV.mask [false, true, true, true, true, false, false, false, false, false, false] rfl (eL_law_B607 hsl hsf hh hge hw hS ha hn hd l3 l4 J193 p191.2.2 h)
  · replace h := zif c195 h
    refine ev_aload_n dL_law_594 rfl rfl ?_
    refine ev_sipush dL_law_595 (v := (600 : Int32)) zcs_600 ?_
    refine ev_iconst dL_law_598 (v := (4 : Int32)) zci_4 ?_
    obtain ⟨p196, e197, h⟩ := zbd h
    refine ev_callV0 dL_law_599 zm11_run zl_NineHeapsLaw_161 zi11_run zv11_run (zrcX hS) (As := [.int (600 : Int32), .int (4 : Int32)]) (rest := []) rfl rfl (Nat.le_of_ble_eq_true rfl) rfl (Nat.le_of_ble_eq_true rfl) (d' := 8) (by omega) (e11_run hw hS (Nat.le_refl _) e197) (fun v μ1 q => ?_)
    obtain ⟨rfl, rfl⟩ := q
    obtain ⟨J198, e199, h⟩ := zld h
    refine EV.ghost (zGE_to (hge n kd p196.2.1 p196.2.2) e199) ?_
    refine ev_if_lt dL_law_602 (tgt := 607) (by decide) (fun c200 => ?_) (fun c200 => ?_)
    · replace h := zit c200 h
      exact EV.mask [false, true, true, true, true, false, false, false, false, false, false] rfl (eL_law_B607 hsl hsf hh hge hw hS ha hn hd l3 l4 J198 p196.2.2 h)
    · replace h := zif c200 h
      refine ev_iconst dL_law_605 (v := (0 : Int32)) zci_0 ?_
      obtain rfl := Option.some.inj h
      exact ev_end_i dL_law_606 rfl rfl rfl
set_option maxHeartbeats 4000000 in
set_option maxRecDepth 100000 in
theorem eL_law_B543 {w : zW} {d : Nat} {sl : Nat} {sf : Nat → Int32} {ah : Nat} {hF : zML} {gh : zGh}  {n : Nat} {kd : zMK} {r : Int32}  (hsl : zxl w = sl) (hsf : zxs w = sf) (hh : zhm w = some (ah, hF)) (hge : zGhe gh) (hw : zst w = zSt0) (hS : zSh n kd) (ha : zHas n kd ah 14) (hn : (kd ah).2 = 130) (hd : 139 ≤ d)   : ∀ (l3 : Int32) (l4 : Int32) (I : zMI) (R : zMR), fL_law_B543 n kd sl sf ah hF gh l3 l4 I R = some r → EV w d 60 1300 YL_law 543 [none, some (.ref 32), some (.ref ah), some (.int l3), some (.int l4), none, none, none, none, none, none] [] (n, kd, I, R) (qL_law r) := by
  intro l3 l4 I R h
  unfold fL_law_B543 at h
  refine ev_aload_n dL_law_543 rfl rfl ?_
  refine ev_iconst dL_law_544 (v := (1 : Int32)) zci_1 ?_
  obtain ⟨p201, e202, h⟩ := zbd h
  refine ev_callV0 dL_law_545 zm11_best zl_NineHeapsLaw_170 zi11_best zv11_best (zrcX hS) (As := [.int (1 : Int32)]) (rest := []) rfl rfl (Nat.le_of_ble_eq_true rfl) rfl (Nat.le_of_ble_eq_true rfl) (d' := 8) (by omega) (e11_best hw hS (Nat.le_refl _) e202) (fun v μ1 q => ?_)
  obtain ⟨rfl, rfl⟩ := q
  obtain ⟨J203, e204, h⟩ := zld h
  refine EV.ghost (zGE_to (hge n kd p201.2.1 p201.2.2) e204) ?_
  refine ev_if_lt dL_law_548 (tgt := 605) (by decide) (fun c205 => ?_) (fun c205 => ?_)
  · replace h := zit c205 h
    refine ev_iconst dL_law_605 (v := (0 : Int32)) zci_0 ?_
    obtain rfl := Option.some.inj h
    exact ev_end_i dL_law_606 rfl rfl rfl
  · replace h := zif c205 h
    refine ev_aload_n dL_law_551 rfl rfl ?_
    refine ev_iconst dL_law_552 (v := (0 : Int32)) zci_0 ?_
    obtain ⟨p206, e207, h⟩ := zbd h
    refine ev_callV0 dL_law_553 zm11_best zl_NineHeapsLaw_170 zi11_best zv11_best (zrcX hS) (As := [.int (0 : Int32)]) (rest := []) rfl rfl (Nat.le_of_ble_eq_true rfl) rfl (Nat.le_of_ble_eq_true rfl) (d' := 8) (by omega) (e11_best hw hS (Nat.le_refl _) e207) (fun v μ1 q => ?_)
    obtain ⟨rfl, rfl⟩ := q
    obtain ⟨J208, e209, h⟩ := zld h
    refine EV.ghost (zGE_to (hge n kd p206.2.1 p206.2.2) e209) ?_
    refine ev_if_lt dL_law_556 (tgt := 586) (by decide) (fun c210 => ?_) (fun c210 => ?_)
    · replace h := zit c210 h
      exact EV.mask [false, true, true, true, true, false, false, false, false, false, false] rfl (eL_law_B586 hsl hsf hh hge hw hS ha hn hd l3 l4 J208 p206.2.2 h)
    · replace h := zif c210 h
      refine ev_aload_n dL_law_559 rfl rfl ?_
      refine ev_sipush dL_law_560 (v := (600 : Int32)) zcs_600 ?_
      refine ev_iconst dL_law_563 (v := (4 : Int32)) zci_4 ?_
      obtain ⟨p211, e212, h⟩ := zbd h
      refine ev_callV0 dL_law_564 zm11_run zl_NineHeapsLaw_161 zi11_run zv11_run (zrcX hS) (As := [.int (600 : Int32), .int (4 : Int32)]) (rest := []) rfl rfl (Nat.le_of_ble_eq_true rfl) rfl (Nat.le_of_ble_eq_true rfl) (d' := 8) (by omega) (e11_run hw hS (Nat.le_refl _) e212) (fun v μ1 q => ?_)
      obtain ⟨rfl, rfl⟩ := q
      obtain ⟨J213, e214, h⟩ := zld h
      refine EV.ghost (zGE_to (hge n kd p211.2.1 p211.2.2) e214) ?_
      refine ev_if_lt dL_law_567 (tgt := 586) (by decide) (fun c215 => ?_) (fun c215 => ?_)
      · replace h := zit c215 h
        exact EV.mask [false, true, true, true, true, false, false, false, false, false, false] rfl (eL_law_B586 hsl hsf hh hge hw hS ha hn hd l3 l4 J213 p211.2.2 h)
      · replace h := zif c215 h
        refine ev_aload_n dL_law_570 rfl rfl ?_
        refine ev_iconst dL_law_571 (v := (0 : Int32)) zci_0 ?_
        obtain ⟨p216, e217, h⟩ := zbd h
        refine ev_callV0 dL_law_572 zm11_best zl_NineHeapsLaw_170 zi11_best zv11_best (zrcX hS) (As := [.int (0 : Int32)]) (rest := []) rfl rfl (Nat.le_of_ble_eq_true rfl) rfl (Nat.le_of_ble_eq_true rfl) (d' := 8) (by omega) (e11_best hw hS (Nat.le_refl _) e217) (fun v μ1 q => ?_)
        obtain ⟨rfl, rfl⟩ := q
        obtain ⟨J218, e219, h⟩ := zld h
        refine EV.ghost (zGE_to (hge n kd p216.2.1 p216.2.2) e219) ?_
        refine ev_aload_n dL_law_575 rfl rfl ?_
        refine ev_sipush dL_law_576 (v := (600 : Int32)) zcs_600 ?_
        refine ev_iconst dL_law_579 (v := (4 : Int32)) zci_4 ?_
        obtain ⟨p220, e221, h⟩ := zbd h
        refine ev_callV0 dL_law_580 zm11_run zl_NineHeapsLaw_161 zi11_run zv11_run (zrcX hS) (As := [.int (600 : Int32), .int (4 : Int32)]) (rest := [.int p216.1]) rfl rfl (Nat.le_of_ble_eq_true rfl) rfl (Nat.le_of_ble_eq_true rfl) (d' := 8) (by omega) (e11_run hw hS (Nat.le_refl _) e221) (fun v μ1 q => ?_)
        obtain ⟨rfl, rfl⟩ := q
        obtain ⟨J222, e223, h⟩ := zld h
        refine EV.ghost (zGE_to (hge n kd p220.2.1 p220.2.2) e223) ?_
        refine ev_icmp_gt dL_law_583 (tgt := 605) (by decide) (fun c224 => ?_) (fun c224 => ?_)
        · replace h := zit c224 h
          refine ev_iconst dL_law_605 (v := (0 : Int32)) zci_0 ?_
          obtain rfl := Option.some.inj h
          exact ev_end_i dL_law_606 rfl rfl rfl
        · replace h := zif c224 h
          exact EV.mask [false, true, true, true, true, false, false, false, false, false, false] rfl (eL_law_B586 hsl hsf hh hge hw hS ha hn hd l3 l4 J222 p220.2.2 h)
set_option maxHeartbeats 4000000 in
set_option maxRecDepth 100000 in
theorem eL_law_B524 {w : zW} {d : Nat} {sl : Nat} {sf : Nat → Int32} {ah : Nat} {hF : zML} {gh : zGh}  {n : Nat} {kd : zMK} {r : Int32}  (hsl : zxl w = sl) (hsf : zxs w = sf) (hh : zhm w = some (ah, hF)) (hge : zGhe gh) (hw : zst w = zSt0) (hS : zSh n kd) (ha : zHas n kd ah 14) (hn : (kd ah).2 = 130) (hd : 139 ≤ d)   : ∀ (l3 : Int32) (l4 : Int32) (l6 : Int64) (l8 : Int64) (I : zMI) (R : zMR), fL_law_B524 n kd sl sf ah hF gh l3 l4 l6 l8 I R = some r → EV w d 60 1300 YL_law 524 [none, some (.ref 32), some (.ref ah), some (.int l3), some (.int l4), none, some (.long l6), none, some (.long l8), none, none] [] (n, kd, I, R) (qL_law r) := by
  intro l3 l4 l6 l8 I R h
  unfold fL_law_B524 at h
  refine ev_aload_n dL_law_524 rfl rfl ?_
  refine ev_bipush dL_law_525 (v := (100 : Int32)) zcb_100 ?_
  obtain ⟨g225, h⟩ := zgd h
  refine em_laldW hh dL_law_527 ha hn g225 rfl ?_
  refine ev_lconst dL_law_528 (v := (0 : Int64)) rfl ?_
  refine ev_lcmp dL_law_529 rfl ?_
  refine ev_if_ne dL_law_530 (tgt := 543) (by decide) (fun c226 => ?_) (fun c226 => ?_)
  · replace h := zif c226 h
    exact EV.mask [false, true, true, true, true, false, false, false, false, false, false] rfl (eL_law_B543 hsl hsf hh hge hw hS ha hn hd l3 l4 I R h)
  · replace h := zit c226 h
    refine ev_lload dL_law_533 rfl ?_
    refine ev_lload dL_law_535 rfl ?_
    refine ev_lcmp dL_law_537 rfl ?_
    refine ev_if_ge dL_law_538 (tgt := 543) (by decide) (fun c227 => ?_) (fun c227 => ?_)
    · replace h := zit c227 h
      exact EV.mask [false, true, true, true, true, false, false, false, false, false, false] rfl (eL_law_B543 hsl hsf hh hge hw hS ha hn hd l3 l4 I R h)
    · replace h := zif c227 h
      refine ev_iconst dL_law_541 (v := (0 : Int32)) zci_0 ?_
      obtain rfl := Option.some.inj h
      exact ev_end_i dL_law_542 rfl rfl rfl
set_option maxHeartbeats 4000000 in
set_option maxRecDepth 100000 in
theorem eL_law_B331 {w : zW} {d : Nat} {sl : Nat} {sf : Nat → Int32} {ah : Nat} {hF : zML} {gh : zGh}  {n : Nat} {kd : zMK} {r : Int32}  (hsl : zxl w = sl) (hsf : zxs w = sf) (hh : zhm w = some (ah, hF)) (hge : zGhe gh) (hw : zst w = zSt0) (hS : zSh n kd) (ha : zHas n kd ah 14) (hn : (kd ah).2 = 130) (hd : 139 ≤ d)   : ∀ (l3 : Int32) (l4 : Int32) (l5 : Int32) (l6 : Int64) (I : zMI) (R : zMR), fL_law_B331 n kd sl sf ah hF gh l3 l4 l5 l6 I R = some r → EV w d 60 1300 YL_law 331 [some (.ref 26), some (.ref 32), some (.ref ah), some (.int l3), some (.int l4), some (.int l5), some (.long l6), none, none, none, none] [] (n, kd, I, R) (qL_law r) := by
  intro l3 l4 l5 l6 I R h
  unfold fL_law_B331 at h
  refine ev_aload_n dL_law_331 rfl rfl ?_
  refine ev_iload dL_law_332 rfl ?_
  refine ev_iconst dL_law_334 (v := (0 : Int32)) zci_0 ?_
  obtain ⟨p228, e229, h⟩ := zbd h
  refine ev_callV0 dL_law_335 zm11_run zl_NineHeapsLaw_161 zi11_run zv11_run (zrcX hS) (As := [.int l4, .int (0 : Int32)]) (rest := []) rfl rfl (Nat.le_of_ble_eq_true rfl) rfl (Nat.le_of_ble_eq_true rfl) (d' := 8) (by omega) (e11_run hw hS (Nat.le_refl _) e229) (fun v μ1 q => ?_)
  obtain ⟨rfl, rfl⟩ := q
  obtain ⟨J230, e231, h⟩ := zld h
  refine EV.ghost (zGE_to (hge n kd p228.2.1 p228.2.2) e231) ?_
  refine ev_i2l dL_law_338 rfl ?_
  refine ev_aload_n dL_law_339 rfl rfl ?_
  refine ev_bipush dL_law_340 (v := (101 : Int32)) zcb_101 ?_
  obtain ⟨g232, h⟩ := zgd h
  refine em_laldW hh dL_law_342 ha hn g232 rfl ?_
  refine ev_lcmp dL_law_343 rfl ?_
  refine ev_if_ne dL_law_344 (tgt := 407) (by decide) (fun c233 => ?_) (fun c233 => ?_)
  · replace h := zif c233 h
    refine ev_iconst dL_law_407 (v := (0 : Int32)) zci_0 ?_
    obtain rfl := Option.some.inj h
    exact ev_end_i dL_law_408 rfl rfl rfl
  · replace h := zit c233 h
    refine ev_aload_n dL_law_347 rfl rfl ?_
    refine ev_iload dL_law_348 rfl ?_
    refine ev_iconst dL_law_350 (v := (1 : Int32)) zci_1 ?_
    obtain ⟨p234, e235, h⟩ := zbd h
    refine ev_callV0 dL_law_351 zm11_run zl_NineHeapsLaw_161 zi11_run zv11_run (zrcX hS) (As := [.int l4, .int (1 : Int32)]) (rest := []) rfl rfl (Nat.le_of_ble_eq_true rfl) rfl (Nat.le_of_ble_eq_true rfl) (d' := 8) (by omega) (e11_run hw hS (Nat.le_refl _) e235) (fun v μ1 q => ?_)
    obtain ⟨rfl, rfl⟩ := q
    obtain ⟨J236, e237, h⟩ := zld h
    refine EV.ghost (zGE_to (hge n kd p234.2.1 p234.2.2) e237) ?_
    refine ev_i2l dL_law_354 rfl ?_
    refine ev_aload_n dL_law_355 rfl rfl ?_
    refine ev_bipush dL_law_356 (v := (102 : Int32)) zcb_102 ?_
    obtain ⟨g238, h⟩ := zgd h
    refine em_laldW hh dL_law_358 ha hn g238 rfl ?_
    refine ev_lcmp dL_law_359 rfl ?_
    refine ev_if_ne dL_law_360 (tgt := 407) (by decide) (fun c239 => ?_) (fun c239 => ?_)
    · replace h := zif c239 h
      refine ev_iconst dL_law_407 (v := (0 : Int32)) zci_0 ?_
      obtain rfl := Option.some.inj h
      exact ev_end_i dL_law_408 rfl rfl rfl
    · replace h := zit c239 h
      refine ev_aload_n dL_law_363 rfl rfl ?_
      refine ev_iload dL_law_364 rfl ?_
      refine ev_iconst dL_law_366 (v := (2 : Int32)) zci_2 ?_
      obtain ⟨p240, e241, h⟩ := zbd h
      refine ev_callV0 dL_law_367 zm11_run zl_NineHeapsLaw_161 zi11_run zv11_run (zrcX hS) (As := [.int l4, .int (2 : Int32)]) (rest := []) rfl rfl (Nat.le_of_ble_eq_true rfl) rfl (Nat.le_of_ble_eq_true rfl) (d' := 8) (by omega) (e11_run hw hS (Nat.le_refl _) e241) (fun v μ1 q => ?_)
      obtain ⟨rfl, rfl⟩ := q
      obtain ⟨J242, e243, h⟩ := zld h
      refine EV.ghost (zGE_to (hge n kd p240.2.1 p240.2.2) e243) ?_
      refine ev_i2l dL_law_370 rfl ?_
      refine ev_aload_n dL_law_371 rfl rfl ?_
      refine ev_bipush dL_law_372 (v := (103 : Int32)) zcb_103 ?_
      obtain ⟨g244, h⟩ := zgd h
      refine em_laldW hh dL_law_374 ha hn g244 rfl ?_
      refine ev_lcmp dL_law_375 rfl ?_
      refine ev_if_ne dL_law_376 (tgt := 407) (by decide) (fun c245 => ?_) (fun c245 => ?_)
      · replace h := zif c245 h
        refine ev_iconst dL_law_407 (v := (0 : Int32)) zci_0 ?_
        obtain rfl := Option.some.inj h
        exact ev_end_i dL_law_408 rfl rfl rfl
      · replace h := zit c245 h
        refine ev_aload_n dL_law_379 rfl rfl ?_
        refine ev_iload dL_law_380 rfl ?_
        refine ev_iconst dL_law_382 (v := (3 : Int32)) zci_3 ?_
        obtain ⟨p246, e247, h⟩ := zbd h
        refine ev_callV0 dL_law_383 zm11_run zl_NineHeapsLaw_161 zi11_run zv11_run (zrcX hS) (As := [.int l4, .int (3 : Int32)]) (rest := []) rfl rfl (Nat.le_of_ble_eq_true rfl) rfl (Nat.le_of_ble_eq_true rfl) (d' := 8) (by omega) (e11_run hw hS (Nat.le_refl _) e247) (fun v μ1 q => ?_)
        obtain ⟨rfl, rfl⟩ := q
        obtain ⟨J248, e249, h⟩ := zld h
        refine EV.ghost (zGE_to (hge n kd p246.2.1 p246.2.2) e249) ?_
        refine ev_iload dL_law_386 rfl ?_
        refine ev_icmp_ne dL_law_388 (tgt := 407) (by decide) (fun c250 => ?_) (fun c250 => ?_)
        · replace h := zif c250 h
          refine ev_iconst dL_law_407 (v := (0 : Int32)) zci_0 ?_
          obtain rfl := Option.some.inj h
          exact ev_end_i dL_law_408 rfl rfl rfl
        · replace h := zit c250 h
          refine ev_aload_n dL_law_391 rfl rfl ?_
          refine ev_iload dL_law_392 rfl ?_
          refine ev_iconst dL_law_394 (v := (4 : Int32)) zci_4 ?_
          obtain ⟨p251, e252, h⟩ := zbd h
          refine ev_callV0 dL_law_395 zm11_run zl_NineHeapsLaw_161 zi11_run zv11_run (zrcX hS) (As := [.int l4, .int (4 : Int32)]) (rest := []) rfl rfl (Nat.le_of_ble_eq_true rfl) rfl (Nat.le_of_ble_eq_true rfl) (d' := 8) (by omega) (e11_run hw hS (Nat.le_refl _) e252) (fun v μ1 q => ?_)
          obtain ⟨rfl, rfl⟩ := q
          obtain ⟨J253, e254, h⟩ := zld h
          refine EV.ghost (zGE_to (hge n kd p251.2.1 p251.2.2) e254) ?_
          refine ev_i2l dL_law_398 rfl ?_
          refine ev_aload_n dL_law_399 rfl rfl ?_
          refine ev_bipush dL_law_400 (v := (104 : Int32)) zcb_104 ?_
          obtain ⟨g255, h⟩ := zgd h
          refine em_laldW hh dL_law_402 ha hn g255 rfl ?_
          refine ev_lcmp dL_law_403 rfl ?_
          refine ev_if_eq dL_law_404 (tgt := 409) (by decide) (fun c256 => ?_) (fun c256 => ?_)
          · replace h := zit c256 h
            refine ev_lconst dL_law_409 (v := (0 : Int64)) rfl ?_
            refine ev_lstore dL_law_410 (by decide) rfl ?_
            refine ev_iconst dL_law_412 (v := (0 : Int32)) zci_0 ?_
            refine ev_istore dL_law_413 (by decide) rfl ?_
            exact EV.mask [true, true, true, true, true, false, true, false, true, false, true] rfl (eL_law_L415 hsl hsf hh hge hw hS ha hn hd (fun l3' l4' l6' l8' I' R' h' => eL_law_B524 hsl hsf hh hge hw hS ha hn hd l3' l4' l6' l8' I' R' h') zF l3 l4 l6 (0 : Int64) (0 : Int32) J253 p251.2.2 h)
          · replace h := zif c256 h
            refine ev_iconst dL_law_407 (v := (0 : Int32)) zci_0 ?_
            obtain rfl := Option.some.inj h
            exact ev_end_i dL_law_408 rfl rfl rfl
set_option maxHeartbeats 4000000 in
set_option maxRecDepth 100000 in
theorem eL_law {w : zW} {d : Nat} {sl : Nat} {sf : Nat → Int32} {ah : Nat} {hF : zML} {gh : zGh}  {n : Nat} {kd : zMK} {I : zMI} {R : zMR} {r : Int32} {l3 : Int32} {l4 : Int32} (hsl : zxl w = sl) (hsf : zxs w = sf) (hh : zhm w = some (ah, hF)) (hge : zGhe gh) (hw : zst w = zSt0) (hS : zSh n kd) (ha : zHas n kd ah 14) (hn : (kd ah).2 = 130) (hd : 139 ≤ d)  (h : fL_law n kd sl sf ah hF gh l3 l4 I R = some r) : EV w d 60 1300 YL_law 47 [some (.ref 26), some (.ref 32), some (.ref ah), some (.int l3), some (.int l4), none, none, none, none, none, none] [] (n, kd, I, R) (qL_law r) := by
  unfold fL_law at h
  refine ev_iconst dL_law_47 (v := (0 : Int32)) zci_0 ?_
  refine ev_istore dL_law_48 (by decide) rfl ?_
  refine ev_lconst dL_law_50 (v := (0 : Int64)) rfl ?_
  refine ev_lstore dL_law_51 (by decide) rfl ?_
  refine ev_iconst dL_law_53 (v := (0 : Int32)) zci_0 ?_
  refine ev_istore dL_law_54 (by decide) rfl ?_
  exact EV.mask [true, true, true, true, true, true, true, false, true, false, false] rfl (eL_law_L56 hsl hsf hh hge hw hS ha hn hd (fun l3' l4' l5' l6' I' R' h' => eL_law_B331 hsl hsf hh hge hw hS ha hn hd l3' l4' l5' l6' I' R' h') zF l3 l4 (0 : Int32) (0 : Int64) (0 : Int32) I R h)
