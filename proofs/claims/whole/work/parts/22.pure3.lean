/-- how far a place is behind another one, one way or the other -/
def frN (P fr : Nat) (wy : Int32) (k : Nat) : Nat := if wy = nI 1 then (k + P - fr) % P else (fr + P - k) % P
theorem frN_lt {P fr : Nat} {wy : Int32} {k : Nat} (h : 1 ≤ P) : frN P fr wy k < P := by
  unfold frN
  split <;> exact Nat.mod_lt _ (by omega)
theorem frN_t : ∀ P, P < 13 → ∀ fr, fr < P → ∀ k, k < P → rmI (nI k - nI fr + nI P) (nI P) = nI ((k + P - fr) % P) := by decide +kernel
/-- the model's mean if the end is far behind the beginning: what is left, seconds, by rounds -/
def mR (P sp far fe n : Nat) : Nat → Nat × Nat
  | 0 => (10 ^ n, 0)
  | r + 1 => ((mR P sp far fe n r).1 / 10 * (10 - fe), (mR P sp far fe n r).2 + (mR P sp far fe n r).1 / 10 * fe * sT sp (far + r * P))
theorem mR_le (P sp far fe n : Nat) (h : fe ≤ 10) : ∀ r, (mR P sp far fe n r).1 ≤ 10 ^ n
  | 0 => Nat.le_refl _
  | r + 1 => by
    have h1 := mR_le P sp far fe n h r
    show (mR P sp far fe n r).1 / 10 * (10 - fe) ≤ _
    have h2 : (mR P sp far fe n r).1 / 10 * (10 - fe) ≤ (mR P sp far fe n r).1 / 10 * 10 := Nat.mul_le_mul_left _ (by omega)
    have h3 : (mR P sp far fe n r).1 / 10 * 10 ≤ (mR P sp far fe n r).1 := Nat.div_mul_le_self _ _
    omega
def moA (q : Nat → Int64) (P sp fe n fr : Nat) (wy : Int32) : Nat → Int64
  | 0 => q P * lN (sT sp (n * P - 1)) * lN (10 ^ n)
  | k + 1 => moA q P sp fe n fr wy k + q k * lN ((mR P sp (frN P fr wy k) fe n n).2 + (mR P sp (frN P fr wy k) fe n n).1 * sT sp (n * P - 1))
/-- likelihoods weighed by a factor of each place -/
def wgR (q : Nat → Int64) (fac : Nat → Nat) : Nat → Nat → Int64
  | 0 => q
  | n + 1 => vp_updL (wgR q fac n) n (wgR q fac n n * lN (fac n))
theorem p10_lt {n : Nat} (h : n ≤ 10) : 10 ^ n < 2 ^ 63 := Nat.lt_of_le_of_lt (Nat.pow_le_pow_right (by omega) h) (by decide)
