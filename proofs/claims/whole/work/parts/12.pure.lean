theorem fa_lt (a b : Int32) : a < b ↔ a.toInt < b.toInt := Int32.lt_iff_toInt_lt
theorem fa_le (a b : Int32) : a ≤ b ↔ a.toInt ≤ b.toInt := Int32.le_iff_toInt_le
theorem fa_eq (a b : Int32) : a = b ↔ a.toInt = b.toInt := Int32.toInt_inj.symm
theorem fa_lt64 (a b : Int64) : a < b ↔ a.toInt < b.toInt := Int64.lt_iff_toInt_lt
theorem fa_le64 (a b : Int64) : a ≤ b ↔ a.toInt ≤ b.toInt := Int64.le_iff_toInt_le
theorem fa_eq64 (a b : Int64) : a = b ↔ a.toInt = b.toInt := Int64.toInt_inj.symm
theorem fa_wide_lt (a b : Int32) : a.toInt64 < b.toInt64 ↔ a < b := by rw [fa_lt64, fa_lt, Int32.toInt_toInt64, Int32.toInt_toInt64]
theorem fa_wide_le (a b : Int32) : a.toInt64 ≤ b.toInt64 ↔ a ≤ b := by rw [fa_le64, fa_le, Int32.toInt_toInt64, Int32.toInt_toInt64]
theorem fa_wide_eq (a b : Int32) : a.toInt64 = b.toInt64 ↔ a = b := by rw [fa_eq64, fa_eq, Int32.toInt_toInt64, Int32.toInt_toInt64]
theorem fa_lit (n : Nat) : (OfNat.ofNat n : Int32) = nI n := rfl
theorem fa_litL (n : Nat) : (OfNat.ofNat n : Int64) = lN n := rfl
/-! ===== numbers that the program reckons ===== -/
/-- the rest that Math.floorMod gives -/
def fmI (x y : Int32) : Int32 := if (x ^^^ y) < 0 ∧ ¬ x - x / y * y = 0 then x - x / y * y + y else x - x / y * y
/-- Euclid's steps, k of them at most -/
def gl : Nat → Nat → Nat → Nat
  | 0, x, _ => x
  | k + 1, x, y => if y = 0 then x else gl k y (x % y)
/-- a row written from place o on, n times -/
def fI (g : Nat → Int32) (o : Nat) (v : Nat → Int32) : Nat → Nat → Int32
  | 0 => g
  | n + 1 => upd (fI g o v n) (o + n) (v n)
def fJ (g : Nat → Int64) (o : Nat) (v : Nat → Int64) : Nat → Nat → Int64
  | 0 => g
  | n + 1 => vp_updL (fJ g o v n) (o + n) (v n)
theorem fI_at (g : Nat → Int32) (o : Nat) (v : Nat → Int32) : ∀ (n j : Nat), fI g o v n j = if o ≤ j ∧ j < o + n then v (j - o) else g j
  | 0, j => by rw [fI, if_neg (by omega)]
  | n + 1, j => by
    rw [fI]
    by_cases h : j = o + n
    · subst h
      rw [pk_us, if_pos (by omega), show o + n - o = n by omega]
    · rw [pk_un h, fI_at g o v n j]
      by_cases h2 : o ≤ j ∧ j < o + n
      · rw [if_pos h2, if_pos (by omega)]
      · rw [if_neg h2, if_neg (by omega)]
theorem fJ_at (g : Nat → Int64) (o : Nat) (v : Nat → Int64) : ∀ (n j : Nat), fJ g o v n j = if o ≤ j ∧ j < o + n then v (j - o) else g j
  | 0, j => by rw [fJ, if_neg (by omega)]
  | n + 1, j => by
    rw [fJ]
    by_cases h : j = o + n
    · subst h
      rw [pk_uLs, if_pos (by omega), show o + n - o = n by omega]
    · rw [pk_uLn h, fJ_at g o v n j]
      by_cases h2 : o ≤ j ∧ j < o + n
      · rw [if_pos h2, if_pos (by omega)]
      · rw [if_neg h2, if_neg (by omega)]
/-- the first n longs of a row, added -/
def sJ (q : Nat → Int64) : Nat → Int64
  | 0 => lN 0
  | n + 1 => sJ q n + q n
/-- the likeliest of the first n places but x, and its likelihood -/
def lb (q : Nat → Int64) (x : Int32) : Nat → Nat × Int64
  | 0 => (0, -1)
  | i + 1 => if ¬ nI i = x ∧ ¬ q i ≤ (lb q x i).2 then (i, q i) else lb q x i
/-- likelihoods weighed: the one at pl by h, the others by e -/
def wg (q : Nat → Int64) (pl : Nat) (h e : Nat) : Nat → Nat → Int64
  | 0 => q
  | n + 1 => vp_updL (wg q pl h e n) n (wg q pl h e n n * lN (if n = pl then h else e))
/-- how sure a seeker's nail is -/
def feN (K wi ag : Nat) (wy : Int32) : Nat := if K = 3 then (if wi < ag then ag else wi) else if wy = nI 1 then wi else ag
/-- what a row of a lane keeps of an int -/
def pv (la v : Int32) : Int32 := if la = 0 then v.toInt8.toInt32 else if la = nI 1 then v.toInt16.toInt32 else v
/-- seconds till a touch -/
def sT (sp t : Nat) : Nat := 1 + t * (sp + 1)
/-- were the end at the k-th place: unfelt, and seconds, by the rounds -/
def sA (sp P k fe n : Nat) : Nat → Nat × Nat
  | 0 => (1, 0)
  | r + 1 => ((sA sp P k fe n r).1 * (10 - fe), (sA sp P k fe n r).2 + (sA sp P k fe n r).1 * fe * 10 ^ (n - 1 - r) * sT sp (r * P + k))
/-- the seekers' classes by their kinds -/
def kci : Nat → Nat
  | 1 => 5
  | 2 => 0
  | 3 => 1
  | 4 => 3
  | _ => 7
abbrev skC (K : Nat) (n w a : Int32) : CE := .inr (kci K, [.int n, .int w, .int a])
theorem sT_lt {sp t : Nat} (h : sp ≤ 9) (ht : t < 1000) : sT sp t < 2 ^ 31 := by
  have : t * (sp + 1) ≤ 999 * 10 := Nat.mul_le_mul (by omega) (by omega)
  unfold sT
  omega
theorem feN_le {K wi ag : Nat} {wy : Int32} (h1 : wi ≤ 10) (h2 : ag ≤ 10) : feN K wi ag wy ≤ 10 := by
  unfold feN
  repeat' split
  all_goals omega
def cpJ (q2 q : Nat → Int64) : Nat → Int64 := fun j => if j < 13 then q2 j else q j
theorem cpJ_eq (q2 q : Nat → Int64) : va_cpy q2 q (nI 0).toNatClampNeg (nI 0).toNatClampNeg (nI 13).toNatClampNeg = cpJ q2 q := by
  rw [nI_clamp (by omega), nI_clamp (by omega)]
  funext j
  simp [va_cpy, cpJ]
/-- the k-th place from fr on, one way or the other -/
def arN (P fr : Nat) (wy : Int32) (k : Nat) : Nat := if wy = nI 1 then (fr + k) % P else (fr + P - k) % P
theorem arN_lt {P fr : Nat} {wy : Int32} {k : Nat} (h : 1 ≤ P) : arN P fr wy k < P := by
  unfold arN
  split <;> exact Nat.mod_lt _ (by omega)
theorem arN_t1 : ∀ P, P < 13 → ∀ fr, fr < P → ∀ k, k < 13 → fmI (nI fr + nI 1 * nI k) (nI P) = nI ((fr + k) % P) := by decide +kernel
theorem arN_t2 : ∀ P, P < 13 → ∀ fr, fr < P → ∀ k, k < P + 1 → fmI (nI fr + (-1) * nI k) (nI P) = nI ((fr + P - k) % P) := by decide +kernel
theorem arN_eq {P fr : Nat} {wy : Int32} {k : Nat} (hw : wy = nI 1 ∨ wy = -1) (hP : P ≤ 12) (hf : fr < P) (hk : k ≤ P) : fmI (nI fr + wy * nI k) (nI P) = nI (arN P fr wy k) := by
  rcases hw with rfl | rfl
  · rw [arN, if_pos rfl]; exact arN_t1 P (by omega) fr hf k (by omega)
  · rw [arN, if_neg (by decide)]; exact arN_t2 P (by omega) fr hf k (by omega)
/-- mean seconds if the end is at the k-th place; of all -/
def sIA (sp P k fe n : Nat) : Nat := (sA sp P k fe n n).2 + (sA sp P k fe n n).1 * sT sp (n * P - 1)
def soA (q : Nat → Int64) (P sp fe n fr : Nat) (wy : Int32) : Nat → Int64
  | 0 => q P * lN (10 ^ n) * lN (sT sp (n * P - 1))
  | k + 1 => soA q P sp fe n fr wy k + q (arN P fr wy k) * lN (sIA sp P k fe n)
/-- a seeker's next place -/
def nxI (K : Nat) (q : Nat → Int64) (pl : Nat) (wy : Int32) (lf : Nat) (ta : Int32) (P : Nat) : Int32 :=
  if K = 2 then (if lf = 1 then fmI (nI pl - wy) (nI P) else fmI (nI pl + wy) (nI P))
  else if K = 4 then nI (lb q (nI pl) P).1
  else if K = 5 then (if ta = (-1000000) then nI (lb q (nI pl) P).1 else if ta = nI pl then nI (lb q (nI pl) P).1 else ta)
  else fmI (nI pl + wy) (nI P)
theorem nxI_1 {q : Nat → Int64} {pl : Nat} {wy : Int32} {lf : Nat} {ta : Int32} {P : Nat} : nxI 1 q pl wy lf ta P = fmI (nI pl + wy) (nI P) := by
  rw [nxI, if_neg (by decide), if_neg (by decide), if_neg (by decide)]
theorem nxI_2 {q : Nat → Int64} {pl : Nat} {wy : Int32} {lf : Nat} {ta : Int32} {P : Nat} : nxI 2 q pl wy lf ta P = if lf = 1 then fmI (nI pl - wy) (nI P) else fmI (nI pl + wy) (nI P) := by
  rw [nxI, if_pos rfl]
theorem nxI_3 {q : Nat → Int64} {pl : Nat} {wy : Int32} {lf : Nat} {ta : Int32} {P : Nat} : nxI 3 q pl wy lf ta P = fmI (nI pl + wy) (nI P) := by
  rw [nxI, if_neg (by decide), if_neg (by decide), if_neg (by decide)]
theorem nxI_4 {q : Nat → Int64} {pl : Nat} {wy : Int32} {lf : Nat} {ta : Int32} {P : Nat} : nxI 4 q pl wy lf ta P = nI (lb q (nI pl) P).1 := by
  rw [nxI, if_neg (by decide), if_pos rfl]
theorem nxI_5 {q : Nat → Int64} {pl : Nat} {wy : Int32} {lf : Nat} {ta : Int32} {P : Nat} : nxI 5 q pl wy lf ta P = if ta = (-1000000) then nI (lb q (nI pl) P).1 else if ta = nI pl then nI (lb q (nI pl) P).1 else ta := by
  rw [nxI, if_neg (by decide), if_neg (by decide), if_pos rfl]
theorem feN_1 {K wi ag : Nat} {wy : Int32} (h : K ≠ 3) : feN K wi ag wy = if wy = nI 1 then wi else ag := by rw [feN, if_neg h]
theorem feN_3 {wi ag : Nat} {wy : Int32} : feN 3 wi ag wy = if wi < ag then ag else wi := by rw [feN, if_pos rfl]
/-- how many of the first n rows are there -/
def cnR (mi : Nat → Int32) : Nat → Nat
  | 0 => 0
  | n + 1 => if mi n = 0 then cnR mi n + 1 else cnR mi n
