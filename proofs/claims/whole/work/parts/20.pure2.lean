/-- the rest of a division of ints -/
def rmI (x y : Int32) : Int32 := x - x / y * y
/-- the likeliest of the first places but x, as the model finds it -/
def lo (q : Nat → Int64) (x : Int32) : Nat → Option Nat
  | 0 => none
  | i + 1 => if nI i = x then lo q x i else match lo q x i with
    | none => some i
    | some b => if q i ≤ q b then some b else some i
def oB (o : Option Nat) : Int32 := match o with
  | none => (-1000000)
  | some b => nI b
theorem lo_lt {q : Nat → Int64} {x : Int32} : ∀ {i b : Nat}, lo q x i = some b → b < i
  | 0, b, h => by cases h
  | i + 1, b, h => by
    rw [lo] at h
    split at h
    · exact Nat.lt_succ_of_lt (lo_lt h)
    · split at h
      · cases h; exact Nat.lt_succ_self _
      · rename_i b' hb
        split at h
        · cases h; exact Nat.lt_succ_of_lt (lo_lt hb)
        · cases h; exact Nat.lt_succ_self _
theorem nI_none {b : Nat} (h : b < 2 ^ 31) : ¬ nI b = (-1000000) := by
  intro e
  have h1 := congrArg Int32.toInt e
  rw [nI_toInt h] at h1
  have h2 : ((-1000000 : Int32)).toInt = -1000000 := by decide
  rw [h2] at h1
  omega
theorem lo_some {q : Nat → Int64} {x : Int32} {i : Nat} (h : ¬ oB (lo q x i) = (-1000000)) : ∃ b, lo q x i = some b ∧ b < i := by
  cases hl : lo q x i with
  | none => rw [hl] at h; exact absurd rfl h
  | some b => exact ⟨b, rfl, lo_lt hl⟩
theorem lo_none {q : Nat → Int64} {x : Int32} {i : Nat} (hi : i < 2 ^ 31) (h : oB (lo q x i) = (-1000000)) : lo q x i = none := by
  cases hl : lo q x i with
  | none => rfl
  | some b => rw [hl] at h; exact absurd h (nI_none (Nat.lt_trans (lo_lt hl) hi))
/-- a seeker's next place, as the model finds it -/
def nxR (K : Nat) (q : Nat → Int64) (pl : Nat) (wy : Int32) (lf : Nat) (ta : Int32) (P : Nat) : Int32 :=
  if K = 2 then (if lf = 1 then rmI (nI pl - wy + nI P) (nI P) else rmI (nI pl + wy + nI P) (nI P))
  else if K = 4 then oB (lo q (nI pl) P)
  else if K = 5 then (if ta = (-1000000) then oB (lo q (nI pl) P) else if ta = nI pl then oB (lo q (nI pl) P) else ta)
  else rmI (nI pl + wy + nI P) (nI P)
