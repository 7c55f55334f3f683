/-- how far a word goes -/
def wdF (w : Nat) : Nat := if w = 0 then 1 else if w = 2 then 2 else 0
/-- where the nail is, and its way, behind k words -/
def nwS (P pl : Nat) (wy : Int32) (wd : Nat → Nat) (n : Nat) : Nat → Nat × Int32
  | 0 => (pl, wy)
  | k + 1 => (arN P (nwS P pl wy wd n k).1 (nwS P pl wy wd n k).2 (wdF (wd (k % n))), if wd (k % n) = 1 then -(nwS P pl wy wd n k).2 else (nwS P pl wy wd n k).2)
theorem nwS_ok {P pl : Nat} {wy : Int32} {wd : Nat → Nat} {n : Nat} (hP : 1 ≤ P) (hpl : pl < P) (hw : wy = nI 1 ∨ wy = -1) : ∀ k, (nwS P pl wy wd n k).1 < P ∧ ((nwS P pl wy wd n k).2 = nI 1 ∨ (nwS P pl wy wd n k).2 = -1)
  | 0 => ⟨hpl, hw⟩
  | k + 1 => by
    have ih := nwS_ok (wd := wd) (n := n) hP hpl hw k
    refine ⟨arN_lt hP, ?_⟩
    show (if wd (k % n) = 1 then -(nwS P pl wy wd n k).2 else (nwS P pl wy wd n k).2) = nI 1 ∨ (if wd (k % n) = 1 then -(nwS P pl wy wd n k).2 else (nwS P pl wy wd n k).2) = -1
    split
    · rcases ih.2 with h | h <;> rw [h]
      · exact Or.inr (by decide)
      · exact Or.inl (by decide)
    · exact ih.2
/-- likelihoods unfelt behind k touches by words -/
def qS (q : Nat → Int64) (P pl : Nat) (wy : Int32) (wd : Nat → Nat) (n K wi ag : Nat) : Nat → Nat → Int64
  | 0 => q
  | k + 1 => wgR (qS q P pl wy wd n K wi ag k) (fun z => if z = (nwS P pl wy wd n k).1 then 10 - feN K wi ag (nwS P pl wy wd n k).2 else 10) (P + 1)
theorem arR_t1 : ∀ P, P < 13 → ∀ fr, fr < P → ∀ k, k < 3 → rmI (nI fr + nI k * nI 1 + nI P) (nI P) = nI ((fr + k) % P) := by decide +kernel
theorem arR_t2 : ∀ P, P < 13 → 4 ≤ P → ∀ fr, fr < P → ∀ k, k < 3 → rmI (nI fr + nI k * (-1) + nI P) (nI P) = nI ((fr + P - k) % P) := by decide +kernel
theorem arR_eq {P fr : Nat} {wy : Int32} {k : Nat} (hw : wy = nI 1 ∨ wy = -1) (hP : P ≤ 12) (hP4 : 4 ≤ P) (hf : fr < P) (hk : k < 3) : rmI (nI fr + nI k * wy + nI P) (nI P) = nI (arN P fr wy k) := by
  rcases hw with rfl | rfl
  · rw [arN, if_pos rfl]; exact arR_t1 P (by omega) fr hf k hk
  · rw [arN, if_neg (by decide)]; exact arR_t2 P (by omega) hP4 fr hf k hk
/-- likelihoods behind k touches at told places -/
def qH (q : Nat → Int64) (P : Nat) (wy : Int32) (pt cvf : Nat → Nat) (K wi ag : Nat) : Nat → Nat → Int64
  | 0 => q
  | k + 1 => wgR (qH q P wy pt cvf K wi ag k) (fun z => if pt k = z then 10 - feN K wi ag wy else 10 - cvf (pt k)) (P + 1)
