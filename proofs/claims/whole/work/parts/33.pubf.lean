/-! ===== small rows for the calls ===== -/
theorem rng {r : Int32} {N : Nat} (hN : N < 2 ^ 31) (h1 : ¬ r < nI 0) (h2 : ¬ nI N < r) : ∃ k, k ≤ N ∧ r = nI k := by
  obtain ⟨j, hj, rfl⟩ := nI_of (x := r) h1
  exact ⟨j, Nat.le_of_not_lt fun q => h2 ((nI_ltI hN hj).mpr q), rfl⟩
theorem nI_ne {x : Int32} {k : Nat} (hk : k < 2 ^ 31) (h : ¬ x = nI k) : ¬ x.toInt = (k : Int) := fun q => h (Int32.toInt_inj.mp (q.trans (nI_toInt hk).symm))
theorem fx_out4 {x : Int32} (h0 : ¬ x = nI 0) (h1 : ¬ x = nI 1) (h2 : ¬ x = nI 2) (h3 : ¬ x = nI 3) : x.toInt < 0 ∨ 3 < x.toInt := by
  have := nI_ne (by decide) h0; have := nI_ne (by decide) h1; have := nI_ne (by decide) h2; have := nI_ne (by decide) h3
  omega
theorem fx_out6 {x : Int32} (h0 : ¬ x = nI 0) (h1 : ¬ x = nI 1) (h2 : ¬ x = nI 2) (h3 : ¬ x = nI 3) (h4 : ¬ x = nI 4) (h5 : ¬ x = nI 5) : x.toInt < 0 ∨ 5 < x.toInt := by
  have := nI_ne (by decide) h0; have := nI_ne (by decide) h1; have := nI_ne (by decide) h2; have := nI_ne (by decide) h3; have := nI_ne (by decide) h4; have := nI_ne (by decide) h5
  omega
abbrev isR (r : Int32) : Prop := ¬ r < nI 0 ∧ ¬ nI 7 < r
abbrev isS (tl : Nat) (s : Int32) : Prop := ¬ s < nI 0 ∧ ¬ (nI tl - nI 1) < s
theorem nI_i64 {a : Nat} (h : a < 2 ^ 31) : ((nI a).toInt64).toInt = (a : Int) := by rw [Int32.toInt_toInt64, nI_toInt h]
theorem i64_add {a b : Int32} : (a.toInt64 + b.toInt64).toInt = a.toInt + b.toInt := by
  rw [Int64.toInt_add, Int32.toInt_toInt64, Int32.toInt_toInt64]
  have h1 := Int32.toInt_lt a; have h2 := Int32.le_toInt a; have h3 := Int32.toInt_lt b; have h4 := Int32.le_toInt b
  rw [Int.bmod_def]
  omega
theorem hld {i n : Int32} {sn : Nat} (hs : sn < 2 ^ 31) (h : ¬ i < 0 ∧ ¬ n < 0 ∧ ¬ (nI sn).toInt64 < i.toInt64 + n.toInt64) : ∃ a b, a + b ≤ sn ∧ i = nI a ∧ n = nI b := by
  obtain ⟨h1, h2, h3⟩ := h
  obtain ⟨a, ha, rfl⟩ := nI_of (x := i) h1
  obtain ⟨b, hb, rfl⟩ := nI_of (x := n) h2
  refine ⟨a, b, ?_, rfl, rfl⟩
  rw [fa_lt64, nI_i64 hs, i64_add, nI_toInt ha, nI_toInt hb] at h3
  omega
theorem hldN {a b sn : Nat} (ha : a < 2 ^ 31) (hb : b < 2 ^ 31) (hs : sn < 2 ^ 31) (h : a + b ≤ sn) : ¬ nI a < 0 ∧ ¬ nI b < 0 ∧ ¬ (nI sn).toInt64 < (nI a).toInt64 + (nI b).toInt64 := by
  refine ⟨?_, ?_, ?_⟩
  · rw [fa_lt, nI_toInt ha]; show ¬ _ < (0 : Int); omega
  · rw [fa_lt, nI_toInt hb]; show ¬ _ < (0 : Int); omega
  · rw [fa_lt64, nI_i64 hs, i64_add, nI_toInt ha, nI_toInt hb]; omega
theorem rngS {i : Int32} {tt : Nat} (ht : tt < 2 ^ 31) (h : ¬ i < nI 0 ∧ ¬ nI tt - nI 1 < i) : ∃ k, k < tt ∧ i = nI k := by
  obtain ⟨h1, h2⟩ := h
  obtain ⟨j, hj, rfl⟩ := nI_of (x := i) h1
  refine ⟨j, ?_, rfl⟩
  rcases Nat.eq_zero_or_pos tt with h0 | h0
  · subst h0
    refine absurd ?_ h2
    rw [fa_lt, nI_toInt hj]
    have : (nI 0 - nI 1).toInt = -1 := by decide
    rw [this]; omega
  · rw [pk_sub h0] at h2
    exact Nat.lt_of_not_le fun q => h2 ((nI_ltI (by omega) hj).mpr (by omega))
theorem rngS' {k tt : Nat} (ht : tt < 2 ^ 31) (h : k < tt) : ¬ nI k < nI 0 ∧ ¬ nI tt - nI 1 < nI k := by
  rw [pk_sub (by omega)]
  exact ⟨nI_nlt (by omega) (by omega), nI_nlt (by omega) (by omega)⟩
