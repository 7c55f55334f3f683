/-! ===== numbers that the program reckons ===== -/
/-- the rest that Math.floorMod gives -/
def fmI (x y : Int32) : Int32 := if (x ^^^ y) < 0 ∧ ¬ x - x / y * y = 0 then x - x / y * y + y else x - x / y * y
/-- Euclid's steps, k of them at most -/
def gl : Nat → Nat → Nat → Nat
  | 0, x, _ => x
  | k + 1, x, y => if y = 0 then x else gl k y (x % y)
