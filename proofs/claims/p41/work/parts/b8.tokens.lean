/-! pure part: the texts' signs, by evaluation -/
def zTxL (A B C : Nat) : List Int32 := zSbyt.getD 12 [] ++ (Int32.ofNat (48 + A) :: (zSbyt.getD 13 [] ++ (Int32.ofNat (48 + B) :: (zSbyt.getD 14 [] ++ (Int32.ofNat (48 + C) :: zSbyt.getD 15 [])))))
def zTx (A B C : Nat) (k : Nat) : Int32 := (zTxL A B C).getD k 0
def zTk (A B C : Nat) : List Int32 := [100001, 0, Int32.ofNat (100000 + A), 18, 16, 4, 16, 5, 1, Int32.ofNat (100000 + B), 18, 16, 3, 17, 4, 2, Int32.ofNat (100000 + C), 18, 16]
def zJt (A B C : Nat) : zMI := fun a k => if a = 81 then (if k = 8 then 63 else if k = 11 then 1 else 0) else if a = 87 then zTx A B C k else if a = 95 then zTw k else 0
def zTkB (A B C : Nat) : Bool := match f12_text (zJt A B C) with
  | some q => decide (q.1 = 1 ∧ q.2 81 11 = 2) && (List.range 19).all (fun k => decide (q.2 88 (200 + k) = (zTk A B C).getD k 0)) && decide (q.2 89 4 = 0 ∧ q.2 89 5 = 7 ∧ q.2 89 6 = 14 ∧ q.2 89 7 = 19)
  | none => false
set_option maxRecDepth 1000000 in
theorem zTkB_all : ∀ A, A < 2 → ∀ B, B < 4 → ∀ C, C < 4 → zTkB A B C = true := by decide +kernel
