theorem qG_pred {q : Nat → Int64} {P : Nat} {wy : Int32} {pt cvf : Nat → Nat} {K wi ag : Nat} : ∀ {k : Nat}, 1 ≤ k → qG q P wy pt cvf K wi ag k = wg (qG q P wy pt cvf K wi ag (k - 1)) (pt (k - 1)) (10 - feN K wi ag wy) (10 - cvf (pt (k - 1))) (P + 1)
  | 0, h => absurd h (by omega)
  | k + 1, _ => rfl
def suN (wn : Nat → Nat) (mi : Nat) : Nat → Nat
  | 0 => mi
  | n + 1 => suN wn mi n + wn n
theorem suN_le {wn : Nat → Nat} {mi P : Nat} (hm : mi ≤ 9) (h : ∀ i, i < P → wn i ≤ 9) : ∀ i, i ≤ P → suN wn mi i ≤ 9 + 9 * i
  | 0, _ => by rw [suN]; omega
  | i + 1, hi => by
    have h1 := suN_le hm h i (by omega)
    have h2 := h i (by omega)
    rw [suN]
    omega
/-- where a rest falls -/
def pd (wn : Nat → Nat) : Nat → Nat → Nat → Nat
  | 0, i, _ => i
  | r + 1, i, x => if x < wn i then i else pd wn r (i + 1) (x - wn i)
