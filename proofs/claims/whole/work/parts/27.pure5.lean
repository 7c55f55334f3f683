/-- seconds that a word takes -/
def scW (sp : Nat) (ov : Int32) (x : Int32) (w : Nat) : Int32 := if w = 0 then x + nI 1 * nI sp else if w = 1 then x + ov else if w = 2 then x + nI 2 * nI sp else x
/-- the trial's seconds behind k touches by words -/
def scS (sp : Nat) (ov : Int32) (se : Int32) (wd : Nat → Nat) (n : Nat) : Nat → Int32
  | 0 => se
  | k + 1 => (if k = 0 then scS sp ov se wd n k else scW sp ov (scS sp ov se wd n k) (wd ((k - 1) % n))) + nI 1
/-- the trial's likelihoods behind k touches by words -/
def qW (q : Nat → Int64) (P pl : Nat) (wy : Int32) (wd : Nat → Nat) (n K wi ag : Nat) : Nat → Nat → Int64
  | 0 => q
  | k + 1 => wg (qW q P pl wy wd n K wi ag k) (nwS P pl wy wd n k).1 (10 - feN K wi ag (nwS P pl wy wd n k).2) 10 (P + 1)
theorem mod_next {k n : Nat} (hk : 1 ≤ k) (hn : 1 ≤ n) : (if (k - 1) % n + 1 < n then (k - 1) % n + 1 else 0) = k % n := by
  obtain ⟨j, rfl⟩ : ∃ j, k = j + 1 := ⟨k - 1, by omega⟩
  rw [Nat.add_sub_cancel]
  have h1 := Nat.mod_lt j (show 0 < n by omega)
  have h2 := Nat.div_add_mod j n
  split
  · rename_i h
    rw [show j + 1 = (j % n + 1) + n * (j / n) by omega, Nat.add_mul_mod_self_left, Nat.mod_eq_of_lt h]
  · rename_i h
    rw [show j + 1 = n * (j / n + 1) by rw [Nat.mul_add]; omega, Nat.mul_mod_right]
/-- likelihoods behind k touches at told places, in the trial -/
def qG (q : Nat → Int64) (P : Nat) (wy : Int32) (pt cvf : Nat → Nat) (K wi ag : Nat) : Nat → Nat → Int64
  | 0 => q
  | k + 1 => wg (qG q P wy pt cvf K wi ag k) (pt k) (10 - feN K wi ag wy) (10 - cvf (pt k)) (P + 1)
/-- where a draw falls -/
def suI (g : Nat → Int32) (mi : Int32) : Nat → Int32
  | 0 => mi
  | n + 1 => suI g mi n + g n
def lfJ (g : Nat → Int32) (x : Int64) : Nat → Int64
  | 0 => x
  | n + 1 => lfJ g x n - (g n).toInt64
theorem nwS_pred {P pl : Nat} {wy : Int32} {wd : Nat → Nat} {n : Nat} : ∀ {k : Nat}, 1 ≤ k → nwS P pl wy wd n k = (arN P (nwS P pl wy wd n (k - 1)).1 (nwS P pl wy wd n (k - 1)).2 (wdF (wd ((k - 1) % n))), if wd ((k - 1) % n) = 1 then -(nwS P pl wy wd n (k - 1)).2 else (nwS P pl wy wd n (k - 1)).2)
  | 0, h => absurd h (by omega)
  | k + 1, _ => rfl
theorem arN_0 {P a : Nat} {w : Int32} (h : a < P) : arN P a w 0 = a := by
  unfold arN
  split
  · rw [Nat.add_zero]; exact Nat.mod_eq_of_lt h
  · rw [Nat.sub_zero, Nat.add_mod_right]; exact Nat.mod_eq_of_lt h
