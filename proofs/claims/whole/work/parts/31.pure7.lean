/-! ===== asks ===== -/
def twL (g : Nat → Int32) (t : Nat) : List Nat → Nat → Int32
  | [] => g
  | b :: bs => twL (upd g t (nI b)) (t + 1) bs
def aSB : Nat → List Nat
  | 1 => [11, 10, 21, 20]
  | 2 => [12, 11, 10, 24, 21, 20]
  | 3 => [11, 10, 22, 21, 20]
  | 4 => [13, 10]
  | _ => [14, 13, 10]
def aMB : Nat → List Nat
  | 1 => [21, 20]
  | 2 => [24, 21, 20]
  | 3 => [22, 21, 20]
  | 4 => [23, 20, 13, 10]
  | _ => [23, 20, 14, 13, 10]
def aSV (K : Nat) (n w a : Int32) : Int32 := match K with
  | 1 => w + (n + a)
  | 2 => -(w + (nI 2 * (n + a)))
  | 3 => w + ((n + a) - nI 1000)
  | 4 => w - nI 100
  | _ => nI 2 * (w - nI 100)
def aMV (K : Nat) (n w a : Int32) : Int32 := match K with
  | 1 => n + a
  | 2 => nI 2 * (n + a)
  | 3 => (n + a) - nI 1000
  | 4 => n - (w - nI 100)
  | _ => n - (nI 2 * (w - nI 100))
/-! ===== reading: (place, fault) ===== -/
/-- a fault, if there is none yet -/
def fl (x : Nat) (z : Nat × Nat) : Nat × Nat := (z.1, if z.2 = 0 then x else z.2)
/-- the byte that is next -/
def lh (g : Nat → Int32) (n : Nat) (z : Nat × Nat) : Int32 := if z.2 = 0 ∧ z.1 < n then g z.1 else -1
/-- a sign is taken -/
def tS (g : Nat → Int32) (n : Nat) (sg : Int32) (z : Nat × Nat) : Nat × Nat := if z.2 = 0 ∧ lh g n z = sg then (z.1 + 1, 0) else fl 1 z
def isF (x : Int32) : Prop := ¬ x < nI 48 ∧ ¬ nI 57 < x
/-- how many figures there are from a on -/
def fgc (g : Nat → Int32) : Nat → Nat → Nat
  | 0, _ => 0
  | r + 1, a => if ¬ g a < nI 48 ∧ ¬ nI 57 < g a then fgc g r (a + 1) + 1 else 0
def fg (g : Nat → Int32) (n a : Nat) : Nat := fgc g (n - a) a
theorem fg_y {g : Nat → Int32} {n a : Nat} (h : a < n) (h2 : ¬ g a < nI 48 ∧ ¬ nI 57 < g a) : fg g n a = fg g n (a + 1) + 1 := by
  rw [fg, show n - a = (n - (a + 1)) + 1 by omega, fgc, if_pos h2, fg]
theorem fg_n {g : Nat → Int32} {n a : Nat} (h : n ≤ a ∨ ¬ (¬ g a < nI 48 ∧ ¬ nI 57 < g a)) : fg g n a = 0 := by
  by_cases h1 : n ≤ a
  · rw [fg, show n - a = 0 by omega, fgc]
  · rw [fg, show n - a = (n - (a + 1)) + 1 by omega, fgc, if_neg (h.resolve_left h1)]
theorem fg_le {g : Nat → Int32} : ∀ (r a : Nat), fgc g r a ≤ r
  | 0, a => Nat.le_refl _
  | r + 1, a => by
    rw [fgc]
    split
    · have := fg_le (g := g) r (a + 1); omega
    · omega
/-- the number that k figures from a on tell -/
def nvI (g : Nat → Int32) (a : Nat) : Nat → Int32
  | 0 => nI 0
  | j + 1 => nvI g a j * nI 10 + g (a + j) - nI 48
/-- a number is taken: behind it, and the number -/
def tN (g : Nat → Int32) (n lo hi : Nat) (z : Nat × Nat) : (Nat × Nat) × Nat :=
  if z.2 = 0 ∧ ¬ fg g n z.1 < 1 ∧ fg g n z.1 ≤ 2 then
    (if ¬ nvI g z.1 (fg g n z.1) < nI lo ∧ nvI g z.1 (fg g n z.1) ≤ nI hi then ((z.1 + fg g n z.1, 0), (nvI g z.1 (fg g n z.1)).toNatClampNeg) else (fl 2 z, 0))
  else (fl 1 z, 0)
theorem nI_back {x : Int32} {lo hi : Nat} (hhi : hi < 2 ^ 31) (h1 : ¬ x < nI lo) (hlo : lo < 2 ^ 31) (h2 : x ≤ nI hi) : x = nI x.toNatClampNeg ∧ lo ≤ x.toNatClampNeg ∧ x.toNatClampNeg ≤ hi := by
  rw [fa_lt, nI_toInt hlo] at h1
  rw [fa_le, nI_toInt hhi] at h2
  obtain ⟨j, hj, rfl⟩ := nI_of (x := x) (by rw [fa_lt]; show ¬ _ < (0 : Int); omega)
  rw [nI_clamp hj]
  rw [nI_toInt hj] at h1 h2
  exact ⟨rfl, by omega, by omega⟩
theorem tS_le {g : Nat → Int32} {n : Nat} {sg : Int32} {z : Nat × Nat} (h : z.1 ≤ n) (hs : ¬ sg = -1) : (tS g n sg z).1 ≤ n := by
  unfold tS
  split
  · rename_i h1
    obtain ⟨h2, h3⟩ := h1
    unfold lh at h3
    split at h3
    · rename_i h4; exact h4.2
    · exact absurd h3.symm hs
  · exact h
theorem tN_le {g : Nat → Int32} {n lo hi : Nat} {z : Nat × Nat} (h : z.1 ≤ n) : (tN g n lo hi z).1.1 ≤ n := by
  unfold tN
  split
  · split
    · have := fg_le (g := g) (n - z.1) z.1
      show z.1 + fg g n z.1 ≤ n
      unfold fg
      omega
    · exact h
  · exact h
theorem tN_hi {g : Nat → Int32} {n lo hi : Nat} {z : Nat × Nat} (hhi : hi < 2 ^ 31) (hlo : lo ≤ hi) : (tN g n lo hi z).2 ≤ hi ∧ ((tN g n lo hi z).1.2 = 0 → lo ≤ (tN g n lo hi z).2) := by
  unfold tN
  split
  · split
    · rename_i h1 h2
      have := nI_back hhi h2.1 (by omega) h2.2
      exact ⟨this.2.2, fun _ => this.2.1⟩
    · rename_i h1 h2
      exact ⟨Nat.zero_le _, fun q => by simp [fl, h1.1] at q⟩
  · rename_i h1
    refine ⟨Nat.zero_le _, fun q => ?_⟩
    by_cases hz : z.2 = 0
    · simp [fl, hz] at q
    · simp [fl, hz] at q
theorem fl_z {x : Nat} {z : Nat × Nat} (h : ¬ z.2 = 0) : fl x z = z := by rw [fl, if_neg h]
theorem fl_0 {x : Nat} {z : Nat × Nat} (h : z.2 = 0) : fl x z = (z.1, x) := by rw [fl, if_pos h]
