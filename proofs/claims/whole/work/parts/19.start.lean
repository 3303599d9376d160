/-! what the constructors leave -/
def zI0 : zMI := fun _ _ => 0
def zR0 : zMR := fun _ _ => none
def zD0 : zMK := fun _ => (0, 0)
def zMX : Option ((Nat × zMK) × zMI × zMR) := f11_initc 32 33 (uK zD0 32 (27, 0)) (uA zI0 32 (fun _ => 0)) (uRA zR0 32)
theorem zMX_1 : zMX.map (fun r => r.1.1) = some 81 := by decide +kernel
def zMM : Option ((Nat × zMK) × zMI × zMR) := zMX.bind fun r => f12_initc 81 82 (uK r.1.2 81 (28, 0)) (uA r.2.1 81 (fun _ => 0)) (uRA r.2.2 81)
theorem zMM_sh : (match zMM with | some r => r.1.1 == 114 && zShB r.1.1 r.1.2 && zfxB r.2.2 | none => false) = true := by decide +kernel
