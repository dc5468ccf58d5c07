/-! the first text, both sides alike -/
def b0L : List Nat := [116, 104, 114, 111, 119, 115, 32, 57, 32, 59, 32, 99, 111, 109, 101, 115, 32, 49, 32, 59, 32, 112, 97, 121, 115, 32, 49, 32, 59, 32, 32, 32]
def b0 (i : Nat) : Nat := b0L.getD i 0
def s0 : Gm := fun c k j => if c = 2 ∧ k = 0 ∧ j = 1 then 32 else if c = 6 ∧ k = 0 then nI (b0 j) else 0
def r0 : Bool := match f_X1_read 700 100 0 0 s0 with
  | some (f, s) => decide (f = -1) && decide (s 12 0 0 = 1) && decide (s 12 0 1 = 2) && decide (s 12 0 2 = 3) && decide (s 11 0 0 = 9) && decide (s 11 0 1 = 1) && decide (s 11 0 2 = 1)
  | none => false
theorem r0_t : r0 = true := by decide +kernel
