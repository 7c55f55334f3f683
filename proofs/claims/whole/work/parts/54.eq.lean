/-! ===== the class's numbers are the model's ===== -/
theorem pe_wg (q : Nat → Int64) (pl a b : Nat) : ∀ (n i : Nat), wg q pl a b n i = if i < n then q i * lN (if i = pl then a else b) else q i
  | 0, i => by rw [wg, if_neg (Nat.not_lt_zero _)]
  | n + 1, i => by
    rw [wg]
    by_cases h1 : i = n
    · subst h1; rw [pk_uLs, pe_wg q pl a b i i, if_neg (Nat.lt_irrefl _), if_pos (Nat.lt_succ_self _)]
    · rw [pk_uLn h1, pe_wg q pl a b n i]
      by_cases h2 : i < n
      · rw [if_pos h2, if_pos (show i < n + 1 by omega)]
      · rw [if_neg h2, if_neg (show ¬ i < n + 1 by omega)]
theorem pe_wgR (q : Nat → Int64) (fac : Nat → Nat) : ∀ (n i : Nat), wgR q fac n i = if i < n then q i * lN (fac i) else q i
  | 0, i => by rw [wgR, if_neg (Nat.not_lt_zero _)]
  | n + 1, i => by
    rw [wgR]
    by_cases h1 : i = n
    · subst h1; rw [pk_uLs, pe_wgR q fac i i, if_neg (Nat.lt_irrefl _), if_pos (Nat.lt_succ_self _)]
    · rw [pk_uLn h1, pe_wgR q fac n i]
      by_cases h2 : i < n
      · rw [if_pos h2, if_pos (by omega)]
      · rw [if_neg h2, if_neg (by omega)]
theorem pe_sJ {q q' : Nat → Int64} : ∀ {n : Nat}, (∀ i, i < n → q i = q' i) → sJ q n = sJ q' n
  | 0, _ => rfl
  | n + 1, h => by rw [sJ, sJ, pe_sJ (fun i hi => h i (by omega)), h n (by omega)]
theorem pe_sN {v v' : Nat → Nat} : ∀ {n : Nat}, (∀ i, i < n → v i = v' i) → sN v n = sN v' n
  | 0, _ => rfl
  | n + 1, h => by rw [sN, sN, pe_sN (fun i hi => h i (by omega)), h n (by omega)]
theorem pe_l0 {n : Nat} (h : n < 2 ^ 63) : (0 : Int64) ≤ lN n := by
  have := (pk_lLE (a := 0) (b := n) (by omega) h).mpr (Nat.zero_le _)
  exact this
theorem pe_lb {q : Nat → Int64} {x : Int32} : ∀ {n : Nat}, (∀ i, i < n → 0 ≤ q i) → lb q x n = match lo q x n with
    | none => (0, -1)
    | some b => (b, q b)
  | 0, _ => rfl
  | n + 1, h => by
    have ih := pe_lb (x := x) (n := n) (fun i hi => h i (by omega))
    have h0 := h n (by omega)
    rw [lb, lo]
    by_cases h1 : nI n = x
    · rw [if_neg (fun k => k.1 h1), if_pos h1]; exact ih
    · rw [if_neg h1]
      cases hl : lo q x n with
      | none =>
        rw [hl] at ih
        have ih : lb q x n = (0, -1) := ih
        rw [ih, if_pos ⟨h1, fun k => by
          have k : q n ≤ -1 := k
          rw [fa_le64] at k h0
          have e1 : ((-1 : Int64)).toInt = -1 := by decide
          have e2 : ((0 : Int64)).toInt = 0 := by decide
          rw [e1] at k; rw [e2] at h0; omega⟩]
      | some b =>
        rw [hl] at ih
        have ih : lb q x n = (b, q b) := ih
        rw [ih]
        show (if ¬ nI n = x ∧ ¬ q n ≤ q b then (n, q n) else (b, q b)) = match (if q n ≤ q b then some b else some n) with
          | none => (0, -1)
          | some b => (b, q b)
        by_cases h2 : q n ≤ q b
        · rw [if_neg (fun k => k.2 h2), if_pos h2]
        · rw [if_pos ⟨h1, h2⟩, if_neg h2]
theorem pe_lost {q : Nat → Int64} {x : Int32} {n : Nat} (h : (∃ b, lo q x n = some b) ∨ ¬ nI n = x) : ∃ b, lo q x (n + 1) = some b := by
  rw [lo]
  by_cases h1 : nI n = x
  · rw [if_pos h1]; exact h.resolve_right (fun k => k h1)
  · rw [if_neg h1]
    cases lo q x n with
    | none => exact ⟨_, rfl⟩
    | some b =>
      show ∃ b', (if q n ≤ q b then some b else some n) = some b'
      by_cases h2 : q n ≤ q b
      · exact ⟨b, if_pos h2⟩
      · exact ⟨n, if_neg h2⟩
theorem pe_lo2 {q : Nat → Int64} {x : Int32} : ∀ {n : Nat}, ∃ b, lo q x (n + 2) = some b
  | 0 => by
    by_cases h0 : nI 0 = x
    · exact pe_lost (Or.inr (fun h1 => absurd ((nI_eq (a := 0) (b := 1) (by omega) (by omega)).mp (h0.trans h1.symm)) (by omega)))
    · exact pe_lost (Or.inl (pe_lost (Or.inr h0)))
  | n + 1 => pe_lost (Or.inl (pe_lo2 (n := n)))
theorem pe_lbo {q : Nat → Int64} {x : Int32} {P : Nat} (hP : 4 ≤ P) (h0 : ∀ i, i < P → 0 ≤ q i) : nI (lb q x P).1 = oB (lo q x P) ∧ (lb q x P).1 < P := by
  obtain ⟨n, rfl⟩ : ∃ n, P = n + 2 := ⟨P - 2, by omega⟩
  obtain ⟨b, hb⟩ := pe_lo2 (q := q) (x := x) (n := n)
  have e := pe_lb (x := x) h0
  rw [hb] at e
  have e : lb q x (n + 2) = (b, q b) := e
  rw [e, hb]
  exact ⟨rfl, lo_lt hb⟩
theorem pe_fp1 : ∀ P, P < 13 → ∀ a, a < P → fmI (nI a + nI 1) (nI P) = nI ((a + 1) % P) := by decide +kernel
theorem pe_fp2 : ∀ P, P < 13 → ∀ a, a < P → fmI (nI a + (-1)) (nI P) = nI ((a + P - 1) % P) := by decide +kernel
theorem pe_fm1 : ∀ P, P < 13 → ∀ a, a < P → fmI (nI a - nI 1) (nI P) = nI ((a + P - 1) % P) := by decide +kernel
theorem pe_fm2 : ∀ P, P < 13 → ∀ a, a < P → fmI (nI a - (-1)) (nI P) = nI ((a + 1) % P) := by decide +kernel
theorem pe_rm1 : ∀ P, P < 13 → ∀ a, a < P → rmI (nI a - nI 1 + nI P) (nI P) = nI ((a + P - 1) % P) := by decide +kernel
theorem pe_rm2 : ∀ P, P < 13 → ∀ a, a < P → rmI (nI a - (-1) + nI P) (nI P) = nI ((a + 1) % P) := by decide +kernel
theorem pe_fp {P a : Nat} {wy : Int32} (hP : P ≤ 12) (ha : a < P) (hw : wy = nI 1 ∨ wy = -1) : fmI (nI a + wy) (nI P) = rmI (nI a + wy + nI P) (nI P) ∧ ∃ t, t < P ∧ fmI (nI a + wy) (nI P) = nI t := by
  rcases hw with rfl | rfl
  · have e := pe_fp1 P (by omega) a ha
    exact ⟨e.trans (stN_t1 P (by omega) a ha).symm, _, Nat.mod_lt _ (by omega), e⟩
  · have e := pe_fp2 P (by omega) a ha
    exact ⟨e.trans (stN_t2 P (by omega) a ha).symm, _, Nat.mod_lt _ (by omega), e⟩
theorem pe_fm {P a : Nat} {wy : Int32} (hP : P ≤ 12) (ha : a < P) (hw : wy = nI 1 ∨ wy = -1) : fmI (nI a - wy) (nI P) = rmI (nI a - wy + nI P) (nI P) ∧ ∃ t, t < P ∧ fmI (nI a - wy) (nI P) = nI t := by
  rcases hw with rfl | rfl
  · have e := pe_fm1 P (by omega) a ha
    exact ⟨e.trans (pe_rm1 P (by omega) a ha).symm, _, Nat.mod_lt _ (by omega), e⟩
  · have e := pe_fm2 P (by omega) a ha
    exact ⟨e.trans (pe_rm2 P (by omega) a ha).symm, _, Nat.mod_lt _ (by omega), e⟩
theorem pe_nx0 {K : Nat} {q : Nat → Int64} {pl : Nat} {wy : Int32} {lf : Nat} {ta : Int32} {P : Nat} (hP : 4 ≤ P ∧ P ≤ 12) (hpl : pl < P) (hw : wy = nI 1 ∨ wy = -1) (hta : ta = (-1000000) ∨ ∃ t, t < P ∧ ta = nI t) (h0 : ∀ i, i < P → 0 ≤ q i) : nxI K q pl wy lf ta P = nxR K q pl wy lf ta P ∧ ∃ t, t < P ∧ nxI K q pl wy lf ta P = nI t := by
  have h1 := pe_fp hP.2 hpl hw
  have h2 := pe_fm hP.2 hpl hw
  have h3 := pe_lbo (x := nI pl) hP.1 h0
  unfold nxI nxR
  by_cases k2 : K = 2
  · rw [if_pos k2, if_pos k2]
    by_cases hl : lf = 1
    · rw [if_pos hl, if_pos hl]; exact h2
    · rw [if_neg hl, if_neg hl]; exact h1
  · rw [if_neg k2, if_neg k2]
    by_cases k4 : K = 4
    · rw [if_pos k4, if_pos k4]; exact ⟨h3.1, _, h3.2, rfl⟩
    · rw [if_neg k4, if_neg k4]
      by_cases k5 : K = 5
      · rw [if_pos k5, if_pos k5]
        by_cases t1 : ta = (-1000000)
        · rw [if_pos t1, if_pos t1]; exact ⟨h3.1, _, h3.2, rfl⟩
        · rw [if_neg t1, if_neg t1]
          by_cases t2 : ta = nI pl
          · rw [if_pos t2, if_pos t2]; exact ⟨h3.1, _, h3.2, rfl⟩
          · rw [if_neg t2, if_neg t2]
            obtain ⟨t, ht, e⟩ := hta.resolve_left t1
            exact ⟨rfl, t, ht, e⟩
      · rw [if_neg k5, if_neg k5]; exact h1
theorem pe_nx {K : Nat} {q q' : Nat → Int64} {pl : Nat} {wy : Int32} {lf : Nat} {ta : Int32} {P : Nat} (hP : 4 ≤ P ∧ P ≤ 12) (hpl : pl < P) (hw : wy = nI 1 ∨ wy = -1) (hta : ta = (-1000000) ∨ ∃ t, t < P ∧ ta = nI t) (h0 : ∀ i, i < P → 0 ≤ q i) (hq : ∀ i, i < P → q i = q' i) : nxI K q pl wy lf ta P = nxR K q' pl wy lf ta P :=
  (pe_nx0 hP hpl hw hta h0).1.trans (nxR_c hq)
theorem pe_su {q : Nat → Int64} : ∀ {n : Nat}, n < 100 → lo q (-1000000) (n + 1) = some (suS q n)
  | 0, _ => by rw [lo, if_neg (nI_none (by omega))]; rfl
  | n + 1, h => by
    rw [lo, if_neg (nI_none (by omega)), pe_su (n := n) (by omega), suS]
    show (if q (n + 1) ≤ q (suS q n) then some (suS q n) else some (n + 1)) = some (if q (n + 1) ≤ q (suS q n) then suS q n else n + 1)
    by_cases h2 : q (n + 1) ≤ q (suS q n)
    · rw [if_pos h2, if_pos h2]
    · rw [if_neg h2, if_neg h2]
theorem pe_suc {q q' : Nat → Int64} : ∀ {n : Nat}, (∀ i, i ≤ n → q i = q' i) → suS q n = suS q' n
  | 0, _ => rfl
  | n + 1, h => by
    have hs := suS_le (q := q') n
    rw [suS, suS, pe_suc (n := n) (fun i hi => h i (by omega)), h (n + 1) (by omega), h (suS q' n) (by omega)]
theorem pe_surest {q q' : Nat → Int64} {P : Nat} (hP : 4 ≤ P ∧ P ≤ 12) (h0 : ∀ i, i < P → 0 ≤ q i) (hq : ∀ i, i < P → q i = q' i) : (lb q (-1000000) P).1 = suS q' (P - 1) := by
  obtain ⟨n, rfl⟩ : ∃ n, P = n + 1 := ⟨P - 1, by omega⟩
  rw [pe_lb h0, pe_su (n := n) (by omega)]
  exact pe_suc (fun i hi => hq i (by omega))
theorem pe_go1 : ∀ P, P < 13 → ∀ a, a < P → ∀ n, n < 13 → fmI (nI a + nI 1 * nI n) (nI P) = nI (itN P (nI 1) a n) := by decide +kernel
theorem pe_go2 : ∀ P, P < 13 → ∀ a, a < P → ∀ n, n < 13 → fmI (nI a + (-1) * nI n) (nI P) = nI (itN P (-1) a n) := by decide +kernel
theorem pe_go {P a n : Nat} {wy : Int32} (hP : P ≤ 12) (ha : a < P) (hn : n ≤ 12) (hw : wy = nI 1 ∨ wy = -1) : fmI (nI a + wy * nI n) (nI P) = nI (itN P wy a n) := by
  rcases hw with rfl | rfl
  · exact pe_go1 P (by omega) a ha n (by omega)
  · exact pe_go2 P (by omega) a ha n (by omega)
/-- the shorter way round -/
def apC (P pl : Nat) (x : Int32) : Int32 := if (nI P - (if 0 ≤ (x - nI pl) then (x - nI pl) else -(x - nI pl))) < (if 0 ≤ (x - nI pl) then (x - nI pl) else -(x - nI pl)) then (nI P - (if 0 ≤ (x - nI pl) then (x - nI pl) else -(x - nI pl))) else (if 0 ≤ (x - nI pl) then (x - nI pl) else -(x - nI pl))
theorem pe_ap : ∀ P, P < 13 → ∀ a, a < P → ∀ t, t < P → apC P a (nI t) = if rmI (nI t - nI a + nI P) (nI P) ≤ nI P - rmI (nI t - nI a + nI P) (nI P) then rmI (nI t - nI a + nI P) (nI P) else nI P - rmI (nI t - nI a + nI P) (nI P) := by decide +kernel
theorem pe_feltN {v : Nat → Nat} {pl fl cv : Nat} : ∀ n : Nat, sN (fun z => v z * (if pl = z then fl else cv)) n = if pl < n then v pl * fl + (sN v n - v pl) * cv else sN v n * cv
  | 0 => by rw [if_neg (Nat.not_lt_zero _), sN, sN, Nat.zero_mul]
  | n + 1 => by
    rw [sN, pe_feltN n, sN]
    by_cases h : pl < n
    · have h1 := sN_le (v := v) h
      rw [if_pos h, if_pos (show pl < n + 1 by omega), if_neg (show ¬ pl = n by omega), Nat.add_assoc, ← Nat.add_mul, show sN v n - v pl + v n = sN v n + v n - v pl by omega]
    · rw [if_neg h]
      by_cases h2 : pl = n
      · subst h2
        rw [if_pos (Nat.lt_succ_self _), if_pos rfl, Nat.add_sub_cancel, Nat.add_comm]
      · rw [if_neg (show ¬ pl < n + 1 by omega), if_neg h2, ← Nat.add_mul]
theorem pe_felt {v : Nat → Nat} {pl fl cv P : Nat} (h : pl < P) : sN (fun z => v z * spN 1 pl fl cv z) (P + 1) = v pl * fl + (sN v (P + 1) - v pl) * cv := by
  have e : (fun z => v z * spN 1 pl fl cv z) = fun z => v z * (if pl = z then fl else cv) := by
    funext z; rw [spN, if_pos rfl]
  rw [e, pe_feltN, if_pos (by omega)]
theorem pe_sp {fz pl fe cv i : Nat} : (if i = pl then (if fz = 1 then fe else 10 - fe) else (if fz = 1 then cv else 10 - cv)) = spN fz pl fe cv i := by
  unfold spN
  by_cases h1 : i = pl
  · subst h1
    by_cases h2 : fz = 1
    · rw [if_pos rfl, if_pos h2, if_pos h2, if_pos rfl]
    · rw [if_pos rfl, if_neg h2, if_neg h2, if_pos rfl]
  · by_cases h2 : fz = 1
    · rw [if_neg h1, if_pos h2, if_pos h2, if_neg (fun k => h1 k.symm)]
    · rw [if_neg h1, if_neg h2, if_neg h2, if_neg (fun k => h1 k.symm)]
/-! sums in another order -/
theorem pe_sz : ∀ n : Nat, sN (fun _ => 0) n = 0
  | 0 => rfl
  | n + 1 => by rw [sN, pe_sz n]
theorem pe_sa {a b : Nat → Nat} : ∀ n : Nat, sN (fun j => a j + b j) n = sN a n + sN b n
  | 0 => rfl
  | n + 1 => by rw [sN, sN, sN, pe_sa n]; omega
theorem pe_ex {g : Nat → Nat → Nat} {m : Nat} : ∀ n : Nat, sN (fun i => sN (fun j => g i j) m) n = sN (fun j => sN (fun i => g i j) n) m
  | 0 => (pe_sz m).symm
  | n + 1 => by
    rw [sN, pe_ex n, ← pe_sa]
    rfl
theorem pe_one {g : Nat → Nat} {j : Nat} : ∀ {n : Nat}, j < n → (∀ i, i < n → i ≠ j → g i = 0) → sN g n = g j
  | 0, h, _ => absurd h (Nat.not_lt_zero _)
  | n + 1, h, hz => by
    rw [sN]
    by_cases h1 : j = n
    · subst h1
      have : sN g j = 0 := by
        rw [pe_sN (v' := fun _ => 0) (fun i hi => hz i (by omega) (by omega)), pe_sz]
      omega
    · rw [pe_one (n := n) (by omega) (fun i hi hne => hz i (by omega) hne), hz n (by omega) (by omega)]; omega
theorem pe_perm {v c : Nat → Nat} {P : Nat} {s t : Nat → Nat} (hs : ∀ k, k < P → s k < P) (ht : ∀ p, p < P → t p < P) (hst : ∀ k, k < P → ∀ p, p < P → (s k = p ↔ t p = k)) : sN (fun k => v (s k) * c k) P = sN (fun p => v p * c (t p)) P := by
  have e1 : sN (fun k => v (s k) * c k) P = sN (fun k => sN (fun p => if s k = p then v p * c k else 0) P) P := by
    refine pe_sN (fun k hk => ?_)
    rw [pe_one (j := s k) (hs k hk) (fun p hp hne => if_neg (fun q => hne q.symm)), if_pos rfl]
  have e2 : sN (fun p => v p * c (t p)) P = sN (fun p => sN (fun k => if s k = p then v p * c k else 0) P) P := by
    refine pe_sN (fun p hp => ?_)
    rw [pe_one (j := t p) (ht p hp) (fun k hk hne => if_neg (fun q => hne (((hst k hk p hp).mp q).symm))), if_pos ((hst (t p) (ht p hp) p hp).mpr rfl)]
  rw [e1, e2, pe_ex]
theorem pe_p1 : ∀ P, P < 13 → ∀ fr, fr < P → ∀ k, k < P → ∀ p, p < P → ((fr + k) % P = p ↔ (p + P - fr) % P = k) := by decide +kernel
theorem pe_p2 : ∀ P, P < 13 → ∀ fr, fr < P → ∀ k, k < P → ∀ p, p < P → ((fr + P - k) % P = p ↔ (fr + P - p) % P = k) := by decide +kernel
theorem pe_ar {P fr : Nat} {wy : Int32} (hP : P ≤ 12) (hf : fr < P) : ∀ k, k < P → ∀ p, p < P → (arN P fr wy k = p ↔ frN P fr wy p = k) := by
  intro k hk p hp
  unfold arN frN
  by_cases h : wy = nI 1
  · rw [if_pos h, if_pos h]; exact pe_p1 P (by omega) fr hf k hk p hp
  · rw [if_neg h, if_neg h]; exact pe_p2 P (by omega) fr hf k hk p hp
/-- both reckon one mean -/
theorem pe_mR {P sp far fe n : Nat} : ∀ r, r ≤ n → (mR P sp far fe n r).1 = (sA sp P far fe n r).1 * 10 ^ (n - r) ∧ (mR P sp far fe n r).2 = (sA sp P far fe n r).2
  | 0, _ => by rw [mR, sA, Nat.one_mul, Nat.sub_zero]; exact ⟨rfl, rfl⟩
  | r + 1, h => by
    obtain ⟨h1, h2⟩ := pe_mR (P := P) (sp := sp) (far := far) (fe := fe) (n := n) r (by omega)
    have e : (mR P sp far fe n r).1 / 10 = (sA sp P far fe n r).1 * 10 ^ (n - (r + 1)) := by
      rw [h1, show n - r = (n - (r + 1)) + 1 by omega, Nat.pow_succ, ← Nat.mul_assoc, Nat.mul_div_cancel _ (by omega)]
    constructor
    · show (mR P sp far fe n r).1 / 10 * (10 - fe) = (sA sp P far fe n r).1 * (10 - fe) * 10 ^ (n - (r + 1))
      rw [e, Nat.mul_right_comm]
    · show (mR P sp far fe n r).2 + (mR P sp far fe n r).1 / 10 * fe * sT sp (far + r * P) = (sA sp P far fe n r).2 + (sA sp P far fe n r).1 * fe * 10 ^ (n - 1 - r) * sT sp (r * P + far)
      rw [e, h2, Nat.add_comm far, show n - (r + 1) = n - 1 - r by omega, Nat.mul_right_comm (sA sp P far fe n r).1]
theorem pe_sIA {P sp k fe n : Nat} : (mR P sp k fe n n).2 + (mR P sp k fe n n).1 * sT sp (n * P - 1) = sIA sp P k fe n := by
  obtain ⟨h1, h2⟩ := pe_mR (P := P) (sp := sp) (far := k) (fe := fe) (n := n) n (Nat.le_refl _)
  rw [h1, h2, Nat.sub_self, Nat.pow_zero, Nat.mul_one, sIA]
def soN (v : Nat → Nat) (P sp fe n fr : Nat) (wy : Int32) (k : Nat) : Nat := v P * 10 ^ n * sT sp (n * P - 1) + sN (fun k => v (arN P fr wy k) * sIA sp P k fe n) k
theorem pe_soA {q : Nat → Int64} {v : Nat → Nat} {P sp fe n fr : Nat} {wy : Int32} (hP : 1 ≤ P) (hv : ∀ i, i ≤ P → q i = lN (v i)) : ∀ k, soA q P sp fe n fr wy k = lN (soN v P sp fe n fr wy k)
  | 0 => by rw [soA, soN, hv P (Nat.le_refl _), lN_mul, lN_mul]; rfl
  | k + 1 => by
    rw [soA, pe_soA hP hv k, hv _ (Nat.le_of_lt (arN_lt hP)), lN_mul, lN_add]
    show _ = lN (v P * 10 ^ n * sT sp (n * P - 1) + (sN (fun k => v (arN P fr wy k) * sIA sp P k fe n) k + v (arN P fr wy k) * sIA sp P k fe n))
    rw [← Nat.add_assoc]; rfl
theorem pe_moA {q : Nat → Int64} {v : Nat → Nat} {P sp fe n fr : Nat} {wy : Int32} (hv : ∀ i, i ≤ P → q i = lN (v i)) : ∀ k, k ≤ P → moA q P sp fe n fr wy k = lN (v P * 10 ^ n * sT sp (n * P - 1) + sN (fun p => v p * sIA sp P (frN P fr wy p) fe n) k)
  | 0, _ => by rw [moA, hv P (Nat.le_refl _), lN_mul, lN_mul, Nat.mul_right_comm]; rfl
  | k + 1, h => by
    rw [moA, pe_moA hv k (by omega), hv k (by omega), lN_mul, lN_add, pe_sIA, Nat.add_assoc]; rfl
theorem pe_mean {q q' : Nat → Int64} {v : Nat → Nat} {P sp fe n fr : Nat} {wy : Int32} (hP : 1 ≤ P ∧ P ≤ 12) (hf : fr < P) (hv : ∀ i, i ≤ P → q i = lN (v i)) (hv' : ∀ i, i ≤ P → q' i = lN (v i)) : soA q P sp fe n fr wy P = lN (soN v P sp fe n fr wy P) ∧ moA q' P sp fe n fr wy P = lN (soN v P sp fe n fr wy P) := by
  refine ⟨pe_soA hP.1 hv P, ?_⟩
  rw [pe_moA hv' P (Nat.le_refl _), soN, pe_perm (v := v) (c := fun k => sIA sp P k fe n) (s := arN P fr wy) (t := frN P fr wy) (fun k _ => arN_lt hP.1) (fun p _ => frN_lt hP.1) (pe_ar hP.2 hf)]
theorem pe_sTl {sp t : Nat} (h : sp ≤ 9) (ht : t ≤ 35) : sT sp t ≤ 351 := by
  have : t * (sp + 1) ≤ 35 * 10 := Nat.mul_le_mul ht (by omega)
  unfold sT
  omega
theorem pe_sA1 {sp P k fe n : Nat} : ∀ r, (sA sp P k fe n r).1 ≤ 10 ^ r
  | 0 => Nat.le_refl _
  | r + 1 => by
    show (sA sp P k fe n r).1 * (10 - fe) ≤ 10 ^ (r + 1)
    rw [Nat.pow_succ]
    exact Nat.mul_le_mul (pe_sA1 r) (by omega)
theorem pe_sA2 {sp P k fe n : Nat} (hsp : sp ≤ 9) (hfe : fe ≤ 10) (hP : P ≤ 12) (hk : k < P) (hn : n ≤ 3) : ∀ r, r ≤ n → (sA sp P k fe n r).2 ≤ r * (10 ^ n * 351)
  | 0, _ => Nat.zero_le _
  | r + 1, h => by
    have ih := pe_sA2 (k := k) hsp hfe hP hk hn r (by omega)
    show (sA sp P k fe n r).2 + (sA sp P k fe n r).1 * fe * 10 ^ (n - 1 - r) * sT sp (r * P + k) ≤ (r + 1) * (10 ^ n * 351)
    have h1 : (sA sp P k fe n r).1 * fe * 10 ^ (n - 1 - r) ≤ 10 ^ r * 10 * 10 ^ (n - 1 - r) := Nat.mul_le_mul_right _ (Nat.mul_le_mul (pe_sA1 r) hfe)
    have e1 : 10 ^ r * 10 * 10 ^ (n - 1 - r) = 10 ^ n := by
      rw [← Nat.pow_succ, ← Nat.pow_add, show r + 1 + (n - 1 - r) = n by omega]
    have h2 : r * P ≤ 2 * P := Nat.mul_le_mul_right _ (by omega)
    have h3 : sT sp (r * P + k) ≤ 351 := pe_sTl hsp (by omega)
    rw [e1] at h1
    have h4 := Nat.mul_le_mul h1 h3
    rw [Nat.succ_mul]
    omega
theorem pe_sIl {sp P k fe n : Nat} (hsp : sp ≤ 9) (hfe : fe ≤ 10) (hP : 1 ≤ P ∧ P ≤ 12) (hk : k < P) (hn : 1 ≤ n ∧ n ≤ 3) : sIA sp P k fe n ≤ 1404000 := by
  have h1 := pe_sA2 (k := k) hsp hfe hP.2 hk hn.2 n (Nat.le_refl _)
  have h2 : n * P ≤ 3 * 12 := Nat.mul_le_mul hn.2 hP.2
  have h3 : sT sp (n * P - 1) ≤ 351 := pe_sTl hsp (by omega)
  have h4 := Nat.mul_le_mul (pe_sA1 (sp := sp) (P := P) (k := k) (fe := fe) (n := n) n) h3
  have h5 : 10 ^ n ≤ 10 ^ 3 := Nat.pow_le_pow_right (by omega) hn.2
  have h6 : n * (10 ^ n * 351) ≤ 3 * (10 ^ 3 * 351) := Nat.mul_le_mul hn.2 (Nat.mul_le_mul_right _ h5)
  have h7 : 10 ^ n * 351 ≤ 10 ^ 3 * 351 := Nat.mul_le_mul_right _ h5
  unfold sIA
  omega
theorem pe_soL {v : Nat → Nat} {P sp fe n fr : Nat} {wy : Int32} (hsp : sp ≤ 9) (hfe : fe ≤ 10) (hP : 1 ≤ P ∧ P ≤ 12) (hn : 1 ≤ n ∧ n ≤ 3) (hv : ∀ i, i ≤ P → v i ≤ 9 * 10 ^ 10) : soN v P sp fe n fr wy P < 2 ^ 63 := by
  have h1 : sN (fun k => v (arN P fr wy k) * sIA sp P k fe n) P ≤ P * (9 * 10 ^ 10 * 1404000) := sN_mul (fun k hk => Nat.mul_le_mul (hv _ (Nat.le_of_lt (arN_lt hP.1))) (pe_sIl hsp hfe hP hk hn))
  have h2 : n * P ≤ 3 * 12 := Nat.mul_le_mul hn.2 hP.2
  have h3 : sT sp (n * P - 1) ≤ 351 := pe_sTl hsp (by omega)
  have h5 : 10 ^ n ≤ 10 ^ 3 := Nat.pow_le_pow_right (by omega) hn.2
  have h6 : v P * 10 ^ n * sT sp (n * P - 1) ≤ 9 * 10 ^ 10 * 10 ^ 3 * 351 := Nat.mul_le_mul (Nat.mul_le_mul (hv P (Nat.le_refl _)) h5) h3
  have h7 : P * (9 * 10 ^ 10 * 1404000) ≤ 12 * (9 * 10 ^ 10 * 1404000) := Nat.mul_le_mul_right _ hP.2
  unfold soN
  omega
theorem pe_bg {m m' : Nat → Int64} : ∀ {k : Nat}, (∀ i, i ≤ k → m i = m' i) → bgS m k = bgS m' k
  | 0, h => by rw [bgS, bgS, h 0 (Nat.le_refl _)]
  | k + 1, h => by rw [bgS, bgS, pe_bg (k := k) (fun i hi => h i (by omega)), h (k + 1) (Nat.le_refl _)]
/-- the first of its kind is one -/
theorem pe_first {p : Nat → Prop} {i j : Nat} (h1 : ∀ z, z < i → p z) (h2 : ¬ p i) (h3 : ∀ z, z < j → p z) (h4 : ¬ p j) : i = j := by
  rcases Nat.lt_trichotomy i j with h | h | h
  · exact absurd (h3 i h) h2
  · exact h
  · exact absurd (h1 j h) h4
/-! by words, at told places -/
def vW (v : Nat → Nat) (P pl : Nat) (wy : Int32) (wd : Nat → Nat) (n K wi ag : Nat) : Nat → Nat → Nat
  | 0 => v
  | k + 1 => fun i => vW v P pl wy wd n K wi ag k i * (if i = (nwS P pl wy wd n k).1 then 10 - feN K wi ag (nwS P pl wy wd n k).2 else 10)
theorem pe_qW {q : Nat → Int64} {v : Nat → Nat} {P pl : Nat} {wy : Int32} {wd : Nat → Nat} {n K wi ag : Nat} (hv : ∀ i, i ≤ P → q i = lN (v i)) : ∀ k, ∀ i, i ≤ P → qW q P pl wy wd n K wi ag k i = lN (vW v P pl wy wd n K wi ag k i)
  | 0, i, hi => hv i hi
  | k + 1, i, hi => by rw [qW, pe_wg, if_pos (by omega), pe_qW hv k i hi, lN_mul]; rfl
theorem pe_qS {q : Nat → Int64} {v : Nat → Nat} {P pl : Nat} {wy : Int32} {wd : Nat → Nat} {n K wi ag : Nat} (hv : ∀ i, i ≤ P → q i = lN (v i)) : ∀ k, ∀ i, i ≤ P → qS q P pl wy wd n K wi ag k i = lN (vW v P pl wy wd n K wi ag k i)
  | 0, i, hi => hv i hi
  | k + 1, i, hi => by rw [qS, pe_wgR, if_pos (by omega), pe_qS hv k i hi, lN_mul]; rfl
theorem pe_sm {v : Nat → Nat} {fac : Nat → Nat} (h : ∀ i, fac i ≤ 10) : ∀ n, sN (fun i => v i * fac i) n ≤ sN v n * 10
  | 0 => Nat.le_refl _
  | n + 1 => by
    have h1 := pe_sm (v := v) h n
    have h2 : v n * fac n ≤ v n * 10 := Nat.mul_le_mul_left _ (h n)
    rw [sN, sN, Nat.add_mul]
    omega
theorem pe_vW {v : Nat → Nat} {P pl : Nat} {wy : Int32} {wd : Nat → Nat} {n K wi ag : Nat} : ∀ k, sN (vW v P pl wy wd n K wi ag k) (P + 1) ≤ sN v (P + 1) * 10 ^ k
  | 0 => by rw [Nat.pow_zero, Nat.mul_one]; exact Nat.le_refl _
  | k + 1 => by
    have h1 := pe_vW (v := v) (P := P) (pl := pl) (wy := wy) (wd := wd) (n := n) (K := K) (wi := wi) (ag := ag) k
    have h2 := pe_sm (v := vW v P pl wy wd n K wi ag k) (fac := fun i => if i = (nwS P pl wy wd n k).1 then 10 - feN K wi ag (nwS P pl wy wd n k).2 else 10) (fun i => by
      show (if _ then _ else _) ≤ 10
      split
      · exact Nat.sub_le _ _
      · exact Nat.le_refl _) (P + 1)
    rw [Nat.pow_succ, ← Nat.mul_assoc]
    exact Nat.le_trans h2 (Nat.mul_le_mul_right _ h1)
theorem pe_tw {q q2 lam gso : Nat → Int64} {v : Nat → Nat} {P pl : Nat} {wy : Int32} {K wi ag : Nat} (hP : P ≤ 12) (hv : ∀ i, i ≤ P → q i = lN (v i)) (hl : ∀ i, i ≤ P → lam i = lN (v i)) :
    (∀ wd nz mz, mz ≤ 6 → sJ (qW (cpJ q q2) P pl wy wd nz K wi ag mz) (P + 1) = lN (sN (vW v P pl wy wd nz K wi ag mz) (P + 1)) ∧ sN (vW v P pl wy wd nz K wi ag mz) (P + 1) ≤ sN v (P + 1) * 10 ^ mz) ∧
    (∀ wd nz mz, mz ≤ 6 → sJ (qS (fJ gso 0 lam 13) P pl wy wd nz K wi ag mz) (P + 1) = lN (sN (vW v P pl wy wd nz K wi ag mz) (P + 1)) ∧ sN (vW v P pl wy wd nz K wi ag mz) (P + 1) ≤ sN v (P + 1) * 10 ^ mz) := by
  constructor
  · intro wd nz mz _
    exact ⟨sJ_N (fun i hi => pe_qW (fun i hi => (cpJ_c i (by omega)).trans (hv i hi)) mz i (by omega)), pe_vW mz⟩
  · intro wd nz mz _
    exact ⟨sJ_N (fun i hi => pe_qS (fun i hi => (fJ_c i (by omega)).trans (hl i hi)) mz i (by omega)), pe_vW mz⟩
def vG (v : Nat → Nat) (wy : Int32) (pt cvf : Nat → Nat) (K wi ag : Nat) : Nat → Nat → Nat
  | 0 => v
  | k + 1 => fun i => vG v wy pt cvf K wi ag k i * (if i = pt k then 10 - feN K wi ag wy else 10 - cvf (pt k))
theorem pe_qG {q : Nat → Int64} {v : Nat → Nat} {P : Nat} {wy : Int32} {pt cvf : Nat → Nat} {K wi ag : Nat} (hv : ∀ i, i ≤ P → q i = lN (v i)) : ∀ k, ∀ i, i ≤ P → qG q P wy pt cvf K wi ag k i = lN (vG v wy pt cvf K wi ag k i)
  | 0, i, hi => hv i hi
  | k + 1, i, hi => by rw [qG, pe_wg, if_pos (by omega), pe_qG hv k i hi, lN_mul]; rfl
theorem pe_qH {q : Nat → Int64} {v : Nat → Nat} {P : Nat} {wy : Int32} {pt cvf : Nat → Nat} {K wi ag : Nat} (hv : ∀ i, i ≤ P → q i = lN (v i)) : ∀ k, ∀ i, i ≤ P → qH q P wy pt cvf K wi ag k i = lN (vG v wy pt cvf K wi ag k i)
  | 0, i, hi => hv i hi
  | k + 1, i, hi => by
    rw [qH, pe_wgR, if_pos (by omega), pe_qH hv k i hi, lN_mul]
    show lN (_ * (if pt k = i then 10 - feN K wi ag wy else 10 - cvf (pt k))) = lN (_ * (if i = pt k then 10 - feN K wi ag wy else 10 - cvf (pt k)))
    by_cases h : i = pt k
    · rw [if_pos h, if_pos h.symm]
    · rw [if_neg h, if_neg (fun k => h k.symm)]
theorem pe_vG {v : Nat → Nat} {wy : Int32} {pt cvf : Nat → Nat} {K wi ag M i : Nat} (hv : v i ≤ M) : ∀ k, vG v wy pt cvf K wi ag k i ≤ M * 10 ^ k
  | 0 => by rw [Nat.pow_zero, Nat.mul_one]; exact hv
  | k + 1 => by
    rw [Nat.pow_succ, ← Nat.mul_assoc]
    exact Nat.mul_le_mul (pe_vG hv k) (by
      split
      · exact Nat.sub_le _ _
      · exact Nat.sub_le _ _)
theorem pe_gs {q lam : Nat → Int64} {v : Nat → Nat} {P : Nat} {wy ta : Int32} {pt cvf : Nat → Nat} {K wi ag n : Nat} {w : Nat → Int32} (hP : 4 ≤ P ∧ P ≤ 12) (hw : wy = nI 1 ∨ wy = -1) (hta : ta = (-1000000) ∨ ∃ t, t < P ∧ ta = nI t) (hn : n ≤ 6) (hpt : ∀ z, z < n → pt z < P) (hv : ∀ i, i ≤ P → q i = lN (v i)) (hl : ∀ i, i ≤ P → lam i = lN (v i)) (hb : ∀ i, i ≤ P → v i ≤ 9 * 10 ^ 10) : gsP q P wy pt cvf K wi ag n ta w ↔ hsP lam P wy pt cvf K wi ag n ta w := by
  have e : ∀ z, z < n - 1 → nxI K (qG q P wy pt cvf K wi ag (z + 1)) (pt z) wy 0 ta P = nxR K (qH lam P wy pt cvf K wi ag (z + 1)) (pt z) wy 0 ta P := by
    intro z hz
    refine pe_nx hP (hpt z (by omega)) hw hta (fun i hi => ?_) (fun i hi => ?_)
    · rw [pe_qG hv (z + 1) i (by omega)]
      have h1 := pe_vG (wy := wy) (pt := pt) (cvf := cvf) (K := K) (wi := wi) (ag := ag) (hb i (by omega)) (z + 1)
      have h2 : 10 ^ (z + 1) ≤ 10 ^ 6 := Nat.pow_le_pow_right (by omega) (by omega)
      have h3 : 9 * 10 ^ 10 * 10 ^ (z + 1) ≤ 9 * 10 ^ 10 * 10 ^ 6 := Nat.mul_le_mul_left _ h2
      exact pe_l0 (by omega)
    · rw [pe_qG hv (z + 1) i (by omega), pe_qH hl (z + 1) i (by omega)]
  exact ⟨fun h z hz => (e z hz).symm.trans (h z hz), fun h z hz => (e z hz).trans (h z hz)⟩
theorem pe_wh {p p' : Nat → Prop} [DecidablePred p] [DecidablePred p'] : ∀ {k : Nat}, (∀ i, i < k → (p i ↔ p' i)) → whS p k = whS p' k
  | 0, _ => rfl
  | k + 1, h => by
    rw [whS, whS, pe_wh (k := k) (fun i hi => h i (by omega))]
    by_cases h1 : p k
    · rw [if_pos h1, if_pos ((h k (by omega)).mp h1)]
    · rw [if_neg h1, if_neg (fun q => h1 ((h k (by omega)).mpr q))]
/-- seconds by words -/
theorem pe_sc {sp : Nat} {ov se : Int32} {wd : Nat → Nat} {n m : Nat} : ∀ k, scS sp ov se wd n (k + 1) + nI m = se + nI (k + 1) + rsS sp ov wd n m k
  | 0 => by
    rw [scS, if_pos rfl, scS, rsS]
  | k + 1 => by
    have ih := pe_sc (sp := sp) (ov := ov) (se := se) (wd := wd) (n := n) (m := m) k
    rw [scS, if_neg (by omega), rsS, Nat.add_sub_cancel]
    have e1 : nI (k + 1 + 1) = nI (k + 1) + nI 1 := (nI_add _ 1).symm
    have e2 : ∀ x : Int32, nI 1 * x = x := fun x => by show (1 : Int32) * x = x; exact Int32.one_mul x
    rw [e1]
    unfold scW
    by_cases h0 : wd (k % n) = 0
    · rw [if_pos h0, if_pos h0, e2]
      calc scS sp ov se wd n (k + 1) + nI sp + nI 1 + nI m = (scS sp ov se wd n (k + 1) + nI m) + nI sp + nI 1 := by ac_rfl
        _ = _ := by rw [ih]; ac_rfl
    · rw [if_neg h0, if_neg h0]
      by_cases h1 : wd (k % n) = 1
      · rw [if_pos h1, if_pos h1]
        calc scS sp ov se wd n (k + 1) + ov + nI 1 + nI m = (scS sp ov se wd n (k + 1) + nI m) + ov + nI 1 := by ac_rfl
          _ = _ := by rw [ih]; ac_rfl
      · rw [if_neg h1, if_neg h1]
        by_cases h2 : wd (k % n) = 2
        · rw [if_pos h2, if_pos h2]
          calc scS sp ov se wd n (k + 1) + nI 2 * nI sp + nI 1 + nI m = (scS sp ov se wd n (k + 1) + nI m) + nI 2 * nI sp + nI 1 := by ac_rfl
            _ = _ := by rw [ih]; ac_rfl
        · rw [if_neg h2, if_neg h2]
          have e3 : nI 0 = (0 : Int32) := rfl
          rw [e3, Int32.add_zero]
          calc scS sp ov se wd n (k + 1) + nI 1 + nI m = (scS sp ov se wd n (k + 1) + nI m) + nI 1 := by ac_rfl
            _ = _ := by rw [ih]; ac_rfl
theorem pe_sec {sp : Nat} {ov se : Int32} {wd : Nat → Nat} {n m : Nat} (hm : 1 ≤ m) : scS sp ov se wd n m - se = rsS sp ov wd n m (m - 1) := by
  obtain ⟨k, rfl⟩ : ∃ k, m = k + 1 := ⟨m - 1, by omega⟩
  have h := pe_sc (sp := sp) (ov := ov) (se := se) (wd := wd) (n := n) (m := k + 1) k
  rw [Nat.add_sub_cancel]
  have h2 : scS sp ov se wd n (k + 1) + nI (k + 1) = se + rsS sp ov wd n (k + 1) k + nI (k + 1) := by
    rw [h]; ac_rfl
  have h3 : scS sp ov se wd n (k + 1) = se + rsS sp ov wd n (k + 1) k := (Int32.add_left_inj _).mp h2
  rw [h3, Int32.add_comm, Int32.add_sub_cancel]
