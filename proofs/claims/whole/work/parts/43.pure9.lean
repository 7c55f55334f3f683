/-! ===== the whole reading ===== -/
abbrev RgS : Type := (Nat × Nat) × Nat × (Nat → Nat)
def rgL (g : Nat → Int32) (n P : Nat) : Nat → RgS → RgS
  | 0, s => s
  | k + 1, s => if lh g n s.1 = nI 114 then rgL g n P k (rgE g n P s.2.1 s.2.2 s.1, rgR g n P s.2.1 s.2.2 s.1, rgC g n P s.2.1 s.2.2 s.1) else s
abbrev SkS : Type := (Nat × Nat) × Nat × (Nat → Nat × Nat × Nat)
def skR (g : Nat → Int32) (n tl : Nat) (z : Nat × Nat) : Nat := if (skE g n tl z).2 = 0 then tl + 1 else tl
def skD (g : Nat → Int32) (n tl : Nat) (ks : Nat → Nat × Nat × Nat) (z : Nat × Nat) : Nat → Nat × Nat × Nat := if (skE g n tl z).2 = 0 then (fun j => if j = tl then (kdS (lh g n z), (skT g n tl z).2, (skU g n tl z).2) else ks j) else ks
def skL (g : Nat → Int32) (n : Nat) : Nat → SkS → SkS
  | 0, s => s
  | k + 1, s => if isSo (lh g n s.1) then skL g n k (skE g n s.2.1 s.1, skR g n s.2.1 s.1, skD g n s.2.1 s.2.2 s.1) else s
def rdP (g : Nat → Int32) (n : Nat) : Nat × Nat := tS g n (nI 59) (rpZ g n (tS g n (nI 112) (pZ g n)) (pL g n).2)
def rdR (g : Nat → Int32) (n : Nat) : RgS := rgL g n (pL g n).2 5 (rdP g n, 0, fun _ => 0)
def rdS (g : Nat → Int32) (n : Nat) : SkS := skL g n 5 ((rdR g n).1, 0, fun _ => (0, 0, 0))
def rdZ (g : Nat → Int32) (n : Nat) : Nat × Nat := if (rdS g n).1.1 < n then fl 1 (rdS g n).1 else (rdS g n).1
theorem lh_y {g : Nat → Int32} {n : Nat} {z : Nat × Nat} {k : Nat} (hk : k < 2 ^ 31) (h : lh g n z = nI k) : z.2 = 0 ∧ z.1 < n ∧ g z.1 = nI k := by
  unfold lh at h
  split at h
  · rename_i h1; exact ⟨h1.1, h1.2, h⟩
  · have := congrArg Int32.toInt h
    rw [nI_toInt hk] at this
    have h2 : ((-1 : Int32)).toInt = -1 := by decide
    rw [h2] at this
    omega
theorem lh_so {g : Nat → Int32} {n : Nat} {z : Nat × Nat} (h : isSo (lh g n z)) : z.2 = 0 ∧ z.1 < n := by
  rcases h with h | h | h | h | h <;> exact ⟨(lh_y (by omega) h).1, (lh_y (by omega) h).2.1⟩
theorem pL_ok {g : Nat → Int32} {n : Nat} : (pL g n).1.1 ≤ n ∧ (pL g n).1.2 < 100 := by
  unfold pL
  exact tN_ok (tS_ok ⟨Nat.zero_le _, (by decide : 0 < 100)⟩ (by decide))
theorem pS_ok {g : Nat → Int32} {n : Nat} : (pS g n).1.1 ≤ n ∧ (pS g n).1.2 < 100 := by
  unfold pS
  exact tN_ok (tS_ok pL_ok (by decide))
theorem pO_ok {g : Nat → Int32} {n : Nat} : (pO g n).1.1 ≤ n ∧ (pO g n).1.2 < 100 := by
  unfold pO
  exact tN_ok (tS_ok pS_ok (by decide))
theorem pM_ok {g : Nat → Int32} {n : Nat} : (pM g n).1.1 ≤ n ∧ (pM g n).1.2 < 100 := by
  unfold pM
  exact tN_ok (tS_ok pO_ok (by decide))
theorem pZ_ok {g : Nat → Int32} {n : Nat} : (pZ g n).1 ≤ n ∧ (pZ g n).2 < 100 := by
  unfold pZ
  exact tS_ok pM_ok (by decide)
theorem pL_hi {g : Nat → Int32} {n : Nat} : (pL g n).2 ≤ 12 ∧ ((pL g n).1.2 = 0 → 4 ≤ (pL g n).2) := tN_hi (by omega) (by omega)
/-- where there is no fault behind, there was none -/
theorem tS_0 {g : Nat → Int32} {n : Nat} {sg : Int32} {z : Nat × Nat} (h : (tS g n sg z).2 = 0) : z.2 = 0 := Classical.byContradiction fun q => q (by rw [tS_st q] at h; exact h)
theorem tN_0 {g : Nat → Int32} {n lo hi : Nat} {z : Nat × Nat} (h : (tN g n lo hi z).1.2 = 0) : z.2 = 0 := Classical.byContradiction fun q => q (by rw [tN_st q] at h; exact h)
theorem rpB_0 {g : Nat → Int32} {n i : Nat} {z : Nat × Nat} (h : (rpB g n i z).2 = 0) : z.2 = 0 := by
  unfold rpB at h
  split at h
  · exact h
  · exact tS_0 h
theorem rpZ_0 {g : Nat → Int32} {n : Nat} {z : Nat × Nat} : ∀ {i : Nat}, (rpZ g n z i).2 = 0 → z.2 = 0
  | 0, h => h
  | i + 1, h => rpZ_0 (rpB_0 (tN_0 h))
theorem rdP_0 {g : Nat → Int32} {n : Nat} (h : (rdP g n).2 = 0) : (pZ g n).2 = 0 := by
  unfold rdP at h
  exact tS_0 (rpZ_0 (tS_0 h))
theorem pZ_0 {g : Nat → Int32} {n : Nat} (h : (pZ g n).2 = 0) : (pL g n).1.2 = 0 := by
  unfold pZ pM pO pS at h
  exact tS_0 (tN_0 (tS_0 (tN_0 (tS_0 (tN_0 (tS_0 h))))))
theorem rdP_4 {g : Nat → Int32} {n : Nat} (h : (rdP g n).2 = 0) : 4 ≤ (pL g n).2 := pL_hi.2 (pZ_0 (rdP_0 h))
theorem rdP_ok {g : Nat → Int32} {n : Nat} : (rdP g n).1 ≤ n ∧ (rdP g n).2 < 100 := by
  unfold rdP
  exact tS_ok (rpZ_ok (tS_ok pZ_ok (by decide)) _) (by decide)
theorem rg1_0 {ri : Nat} {z : Nat × Nat} (h : (rg1 ri z).2 = 0) : z.2 = 0 := by
  refine Classical.byContradiction fun q => ?_
  unfold rg1 at h
  split at h
  · exact q h
  · rw [fl_z q] at h; exact q h
theorem rgE_0 {g : Nat → Int32} {n P ri : Nat} {cv : Nat → Nat} {z : Nat × Nat} (h : (rgE g n P ri cv z).2 = 0) : z.2 = 0 := by
  have h1 : (rg3 g n P ri cv z).2 = 0 := tS_0 (tN_0 (tS_0 h))
  unfold rg3 at h1
  split at h1
  · exact absurd h1 (by decide : ¬ (2 : Nat) = 0)
  · exact rg1_0 (tS_0 (tN_0 h1))
theorem rgR_le {g : Nat → Int32} {n P ri : Nat} {cv : Nat → Nat} {z : Nat × Nat} (h : ri ≤ 4) : rgR g n P ri cv z ≤ 4 := by
  unfold rgR
  split
  · rename_i h1; have := rg_lt h1; omega
  · exact h
theorem rgC_le {g : Nat → Int32} {n P ri : Nat} {cv : Nat → Nat} {z : Nat × Nat} (h : ∀ i, cv i ≤ 10) : ∀ i, rgC g n P ri cv z i ≤ 10 := by
  intro i
  unfold rgC
  split
  · unfold uN
    split
    · exact Nat.le_trans (tN_hi (by omega) (by omega)).1 (by omega)
    · exact h i
  · exact h i
theorem skR_le {g : Nat → Int32} {n tl : Nat} {z : Nat × Nat} (h : tl ≤ 4) : skR g n tl z ≤ 4 := by
  unfold skR
  split
  · rename_i h1; have := sk_lt h1; omega
  · exact h
