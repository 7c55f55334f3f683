theorem fa_lt (a b : Int32) : a < b ↔ a.toInt < b.toInt := Int32.lt_iff_toInt_lt
theorem fa_le (a b : Int32) : a ≤ b ↔ a.toInt ≤ b.toInt := Int32.le_iff_toInt_le
theorem fa_eq (a b : Int32) : a = b ↔ a.toInt = b.toInt := Int32.toInt_inj.symm
theorem fa_lt64 (a b : Int64) : a < b ↔ a.toInt < b.toInt := Int64.lt_iff_toInt_lt
theorem fa_le64 (a b : Int64) : a ≤ b ↔ a.toInt ≤ b.toInt := Int64.le_iff_toInt_le
theorem fa_eq64 (a b : Int64) : a = b ↔ a.toInt = b.toInt := Int64.toInt_inj.symm
theorem fa_wide_lt (a b : Int32) : a.toInt64 < b.toInt64 ↔ a < b := by rw [fa_lt64, fa_lt, Int32.toInt_toInt64, Int32.toInt_toInt64]
theorem fa_wide_le (a b : Int32) : a.toInt64 ≤ b.toInt64 ↔ a ≤ b := by rw [fa_le64, fa_le, Int32.toInt_toInt64, Int32.toInt_toInt64]
theorem fa_wide_eq (a b : Int32) : a.toInt64 = b.toInt64 ↔ a = b := by rw [fa_eq64, fa_eq, Int32.toInt_toInt64, Int32.toInt_toInt64]
theorem fa_lit (n : Nat) : (OfNat.ofNat n : Int32) = nI n := rfl
theorem fa_litL (n : Nat) : (OfNat.ofNat n : Int64) = lN n := rfl
/-! ===== numbers that the program reckons ===== -/
/-- the rest that Math.floorMod gives -/
def fmI (x y : Int32) : Int32 := if (x ^^^ y) < 0 ∧ ¬ x - x / y * y = 0 then x - x / y * y + y else x - x / y * y
/-- Euclid's steps, k of them at most -/
def gl : Nat → Nat → Nat → Nat
  | 0, x, _ => x
  | k + 1, x, y => if y = 0 then x else gl k y (x % y)
/-- a row written from place o on, n times -/
def fI (g : Nat → Int32) (o : Nat) (v : Nat → Int32) : Nat → Nat → Int32
  | 0 => g
  | n + 1 => upd (fI g o v n) (o + n) (v n)
def fJ (g : Nat → Int64) (o : Nat) (v : Nat → Int64) : Nat → Nat → Int64
  | 0 => g
  | n + 1 => vp_updL (fJ g o v n) (o + n) (v n)
theorem fI_at (g : Nat → Int32) (o : Nat) (v : Nat → Int32) : ∀ (n j : Nat), fI g o v n j = if o ≤ j ∧ j < o + n then v (j - o) else g j
  | 0, j => by rw [fI, if_neg (by omega)]
  | n + 1, j => by
    rw [fI]
    by_cases h : j = o + n
    · subst h
      rw [pk_us, if_pos (by omega), show o + n - o = n by omega]
    · rw [pk_un h, fI_at g o v n j]
      by_cases h2 : o ≤ j ∧ j < o + n
      · rw [if_pos h2, if_pos (by omega)]
      · rw [if_neg h2, if_neg (by omega)]
theorem fJ_at (g : Nat → Int64) (o : Nat) (v : Nat → Int64) : ∀ (n j : Nat), fJ g o v n j = if o ≤ j ∧ j < o + n then v (j - o) else g j
  | 0, j => by rw [fJ, if_neg (by omega)]
  | n + 1, j => by
    rw [fJ]
    by_cases h : j = o + n
    · subst h
      rw [pk_uLs, if_pos (by omega), show o + n - o = n by omega]
    · rw [pk_uLn h, fJ_at g o v n j]
      by_cases h2 : o ≤ j ∧ j < o + n
      · rw [if_pos h2, if_pos (by omega)]
      · rw [if_neg h2, if_neg (by omega)]
/-- the first n longs of a row, added -/
def sJ (q : Nat → Int64) : Nat → Int64
  | 0 => lN 0
  | n + 1 => sJ q n + q n
/-- the likeliest of the first n places but x, and its likelihood -/
def lb (q : Nat → Int64) (x : Int32) : Nat → Nat × Int64
  | 0 => (0, -1)
  | i + 1 => if ¬ nI i = x ∧ ¬ q i ≤ (lb q x i).2 then (i, q i) else lb q x i
/-- likelihoods weighed: the one at pl by h, the others by e -/
def wg (q : Nat → Int64) (pl : Nat) (h e : Nat) : Nat → Nat → Int64
  | 0 => q
  | n + 1 => vp_updL (wg q pl h e n) n (wg q pl h e n n * lN (if n = pl then h else e))
/-- how sure a seeker's nail is -/
def feN (K wi ag : Nat) (wy : Int32) : Nat := if K = 3 then (if wi < ag then ag else wi) else if wy = nI 1 then wi else ag
/-- what a row of a lane keeps of an int -/
def pv (la v : Int32) : Int32 := if la = 0 then v.toInt8.toInt32 else if la = nI 1 then v.toInt16.toInt32 else v
/-- seconds till a touch -/
def sT (sp t : Nat) : Nat := 1 + t * (sp + 1)
/-- were the end at the k-th place: unfelt, and seconds, by the rounds -/
def sA (sp P k fe n : Nat) : Nat → Nat × Nat
  | 0 => (1, 0)
  | r + 1 => ((sA sp P k fe n r).1 * (10 - fe), (sA sp P k fe n r).2 + (sA sp P k fe n r).1 * fe * 10 ^ (n - 1 - r) * sT sp (r * P + k))
/-- the seekers' classes by their kinds -/
def kci : Nat → Nat
  | 1 => 5
  | 2 => 0
  | 3 => 1
  | 4 => 3
  | _ => 7
abbrev skC (K : Nat) (n w a : Int32) : CE := .inr (kci K, [.int n, .int w, .int a])
theorem sT_lt {sp t : Nat} (h : sp ≤ 9) (ht : t < 1000) : sT sp t < 2 ^ 31 := by
  have : t * (sp + 1) ≤ 999 * 10 := Nat.mul_le_mul (by omega) (by omega)
  unfold sT
  omega
theorem feN_le {K wi ag : Nat} {wy : Int32} (h1 : wi ≤ 10) (h2 : ag ≤ 10) : feN K wi ag wy ≤ 10 := by
  unfold feN
  repeat' split
  all_goals omega
