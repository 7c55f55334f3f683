/-! ===== the model's reading: places, ridges, seekers ===== -/
def ppZ (g : Nat → Int32) (n : Nat) (z : Nat × Nat) (P i : Nat) : Nat × Nat := if i < P then rpB g n i (rpZ g n z i) else tS g n (nI 59) (rpZ g n z P)
theorem ppZ_0 {g : Nat → Int32} {n P : Nat} {z : Nat × Nat} (h : 0 < P) : ppZ g n z P 0 = z := by rw [ppZ, if_pos h, rpB, if_pos rfl, rpZ]
theorem ppZ_e {g : Nat → Int32} {n P : Nat} {z : Nat × Nat} : ppZ g n z P P = tS g n (nI 59) (rpZ g n z P) := by rw [ppZ, if_neg (by omega)]
theorem ppZ_n {g : Nat → Int32} {n P i : Nat} {z : Nat × Nat} (h : i < P) : (tN g n 1 9 (ppZ g n z P i)).1 = rpZ g n z (i + 1) ∧ (tN g n 1 9 (ppZ g n z P i)).2 = rpV g n z i := by rw [ppZ, if_pos h]; exact ⟨rfl, rfl⟩
theorem ppZ_s {g : Nat → Int32} {n P i : Nat} {z : Nat × Nat} (h : i < P) : tS g n (nI (if i = P - 1 then 59 else 44)) (rpZ g n z (i + 1)) = ppZ g n z P (i + 1) := by
  by_cases h1 : i = P - 1
  · rw [if_pos h1, ppZ, if_neg (by omega), show i + 1 = P by omega]
  · rw [if_neg h1, ppZ, if_pos (by omega), rpB, if_neg (by omega)]
theorem ppZ_ok {g : Nat → Int32} {n P i : Nat} {z : Nat × Nat} (h : z.1 ≤ n ∧ z.2 < 100) : (ppZ g n z P i).1 ≤ n ∧ (ppZ g n z P i).2 < 100 := by
  unfold ppZ
  split
  · exact rpB_ok (rpZ_ok h i)
  · exact tS_ok (rpZ_ok h P) (by decide)
theorem ppZ_1 {g : Nat → Int32} {n P i : Nat} {z : Nat × Nat} (h : i < P) (hf : ¬ (ppZ g n z P i).2 = 0) : ppZ g n z P (i + 1) = ppZ g n z P i := by
  rw [← ppZ_s h, ← (ppZ_n h).1, tN_st hf]
  exact tS_st hf
theorem ppZ_st {g : Nat → Int32} {n P : Nat} {z : Nat × Nat} : ∀ (d i : Nat), i + d = P → ¬ (ppZ g n z P i).2 = 0 → tS g n (nI 59) (rpZ g n z P) = ppZ g n z P i
  | 0, i, h, _ => by rw [show i = P by omega, ppZ_e]
  | d + 1, i, h, hf => by
    have h1 := ppZ_1 (by omega) hf
    rw [← h1]
    exact ppZ_st d (i + 1) (by omega) (by rw [h1]; exact hf)
theorem ppZ_00 {g : Nat → Int32} {n P i : Nat} {z : Nat × Nat} (h : i < P) (hf : (ppZ g n z P (i + 1)).2 = 0) : (ppZ g n z P i).2 = 0 ∧ (rpZ g n z (i + 1)).2 = 0 := by
  rw [← ppZ_s h] at hf
  have h1 := tS_0 hf
  refine ⟨?_, h1⟩
  rw [← (ppZ_n h).1] at h1
  exact tN_0 h1
/-- the model's ridge, as the class has it -/
theorem rg3_0 {g : Nat → Int32} {n P ri : Nat} {cv : Nat → Nat} {z : Nat × Nat} (h : ¬ (rgT g n P ri z).1.2 = 0 ∨ cv (rgT g n P ri z).2 = 0) : rg3 g n P ri cv z = (rgT g n P ri z).1 := by
  rw [rg3, if_neg]
  intro q
  exact h.elim (fun q2 => q2 q.2) q.1
theorem rg3_2 {g : Nat → Int32} {n P ri : Nat} {cv : Nat → Nat} {z : Nat × Nat} (hz : (rg2 g n ri z).2 = 0) (h1 : ¬ cv (rgT g n P ri z).2 = 0) (h2 : (rgT g n P ri z).1.2 = 0) : rg3 g n P ri cv z = (tN g n 0 (P - 1) (fl 2 (rg2 g n ri z))).1 := by
  have h3 : ¬ (fl 2 (rg2 g n ri z)).2 = 0 := by rw [fl_0 hz]; exact (by decide : ¬ (2 : Nat) = 0)
  rw [rg3, if_pos ⟨h1, h2⟩, tN_st h3, fl_0 hz]
theorem rgE_00 {g : Nat → Int32} {n P ri : Nat} {cv : Nat → Nat} {z : Nat × Nat} (h : (rgE g n P ri cv z).2 = 0) : (rgU g n P ri cv z).1.2 = 0 ∧ (rg3 g n P ri cv z).2 = 0 ∧ (rgT g n P ri z).1.2 = 0 ∧ rg3 g n P ri cv z = (rgT g n P ri z).1 := by
  have h1 : (rgU g n P ri cv z).1.2 = 0 := tS_0 h
  have h2 : (rg3 g n P ri cv z).2 = 0 := tS_0 (tN_0 h1)
  have h4 : ¬ (¬ cv (rgT g n P ri z).2 = 0 ∧ (rgT g n P ri z).1.2 = 0) := fun q => by
    rw [rg3, if_pos q] at h2
    exact absurd h2 (by decide : ¬ (2 : Nat) = 0)
  have h3 : rg3 g n P ri cv z = (rgT g n P ri z).1 := by rw [rg3, if_neg h4]
  exact ⟨h1, h2, by rw [← h3]; exact h2, h3⟩
theorem skE_00 {g : Nat → Int32} {n tl : Nat} {z : Nat × Nat} (h : (skE g n tl z).2 = 0) : (skU g n tl z).1.2 = 0 ∧ (skT g n tl z).1.2 = 0 := by
  have h1 : (skU g n tl z).1.2 = 0 := tS_0 h
  exact ⟨h1, tS_0 (tN_0 h1)⟩
theorem lh_c {g : Nat → Int32} {n c : Nat} {z : Nat × Nat} {cu sr tk va ft fA : Int32} (hMI : MI g n z cu sr tk va ft fA) (hz : z.2 < 100) (hc : 97 ≤ c ∧ c ≤ 122) : (ft = 0 ∧ tk = nI 2 ∧ va = nI c) ↔ lh g n z = nI c := by
  constructor
  · intro ⟨h1, h2, h3⟩
    have q := (MI_ft hMI hz).mp h1
    have h4 := hMI.1 q
    have h5 := (lx_iff (g := g) (n := n) (a := z.1) (c := c) (T := 2) (Or.inl ⟨rfl, hc⟩)).mp ⟨(lxT_eq (by omega)).mp (h4.2.2.1.symm.trans h2), h4.2.2.2.1.symm.trans h3⟩
    rw [lh, if_pos ⟨q, h5.1⟩]; exact h5.2
  · intro h
    have h1 := lh_y (by omega) h
    have h4 := hMI.1 h1.1
    have h5 := (lx_iff (g := g) (n := n) (a := z.1) (c := c) (T := 2) (Or.inl ⟨rfl, hc⟩)).mpr ⟨h1.2.1, h1.2.2⟩
    exact ⟨h4.2.2.2.2, h4.2.2.1.trans (congrArg nI h5.1), h4.2.2.2.1.trans h5.2⟩
/-- a letter is told apart -/
theorem MI_let {g : Nat → Int32} {n c : Nat} {z : Nat × Nat} {cu sr tk va ft fA : Int32} (hMI : MI g n z cu sr tk va ft fA) (hz : z.2 < 100) (hc : 97 ≤ c ∧ c ≤ 122) : bI (ft = 0 ∧ tk = nI 2 ∧ va = nI c) = nI 1 ∧ (z.2 = 0 → tS g n (nI c) z = (lxE g n z.1, 0)) ∨ bI (ft = 0 ∧ tk = nI 2 ∧ va = nI c) = nI 0 ∧ (z.2 = 0 → tS g n (nI c) z = (z.1, 1)) := by
  have h0 := lh_c hMI hz hc
  by_cases h : ft = 0 ∧ tk = nI 2 ∧ va = nI c
  · refine Or.inl ⟨bI_t h, fun q => ?_⟩
    have h1 := lh_y (by omega) (h0.mp h)
    rw [lx_tS q (T := 2) (Or.inl ⟨rfl, hc⟩), if_pos ((lx_iff (Or.inl ⟨rfl, hc⟩)).mpr ⟨h1.2.1, h1.2.2⟩)]
  · refine Or.inr ⟨bI_f h, fun q => ?_⟩
    rw [lx_tS q (T := 2) (Or.inl ⟨rfl, hc⟩), if_neg]
    intro q2
    have h1 := (lx_iff (Or.inl ⟨rfl, hc⟩)).mp q2
    exact h (h0.mpr (by rw [lh, if_pos ⟨q, h1.1⟩]; exact h1.2))
/-- a letter that stands there is taken -/
theorem tS_lx {g : Nat → Int32} {n c : Nat} {z : Nat × Nat} (hc : 97 ≤ c ∧ c ≤ 122) (h : lh g n z = nI c) : tS g n (nI c) z = (lxE g n z.1, 0) := by
  have h1 := lh_y (by omega) h
  rw [lx_tS h1.1 (T := 2) (Or.inl ⟨rfl, hc⟩), if_pos ((lx_iff (Or.inl ⟨rfl, hc⟩)).mpr ⟨h1.2.1, h1.2.2⟩)]
theorem kdS_by {x : Int32} (h : isSo x) : (if x = nI 117 then nI 1 else if x = nI 98 then nI 2 else if x = nI 108 then nI 3 else if x = nI 109 then nI 4 else if x = nI 116 then nI 5 else (-1000000)) = nI (kdS x) := by
  rcases h with rfl | rfl | rfl | rfl | rfl <;> decide
theorem kdS_no {x : Int32} : ¬ (if x = nI 117 then nI 1 else if x = nI 98 then nI 2 else if x = nI 108 then nI 3 else if x = nI 109 then nI 4 else if x = nI 116 then nI 5 else (-1000000)) = (-1000000) ↔ isSo x := by
  constructor
  · intro h
    refine Classical.byContradiction fun q => h ?_
    rw [if_neg (fun e => q (Or.inl e)), if_neg (fun e => q (Or.inr (Or.inl e))), if_neg (fun e => q (Or.inr (Or.inr (Or.inl e)))), if_neg (fun e => q (Or.inr (Or.inr (Or.inr (Or.inl e))))), if_neg (fun e => q (Or.inr (Or.inr (Or.inr (Or.inr e)))))]
  · intro h
    rw [kdS_by h]
    exact nI_none (by have := (kdS_ok x).2; omega)
/-- where the model's seekers go on -/
theorem so_iff {g : Nat → Int32} {n : Nat} {z : Nat × Nat} {cu sr tk va ft fA : Int32} (hMI : MI g n z cu sr tk va ft fA) (hz : z.2 < 100) : (ft = 0 ∧ tk = nI 2 ∧ isSo va) ↔ isSo (lh g n z) := by
  have h := fun c hc => lh_c (c := c) hMI hz hc
  constructor
  · intro ⟨h1, h2, h3⟩
    rcases h3 with e | e | e | e | e
    · exact Or.inl ((h 117 (by omega)).mp ⟨h1, h2, e⟩)
    · exact Or.inr (Or.inl ((h 98 (by omega)).mp ⟨h1, h2, e⟩))
    · exact Or.inr (Or.inr (Or.inl ((h 108 (by omega)).mp ⟨h1, h2, e⟩)))
    · exact Or.inr (Or.inr (Or.inr (Or.inl ((h 109 (by omega)).mp ⟨h1, h2, e⟩))))
    · exact Or.inr (Or.inr (Or.inr (Or.inr ((h 116 (by omega)).mp ⟨h1, h2, e⟩))))
  · intro h3
    rcases h3 with e | e | e | e | e
    · have := (h 117 (by omega)).mpr e; exact ⟨this.1, this.2.1, Or.inl this.2.2⟩
    · have := (h 98 (by omega)).mpr e; exact ⟨this.1, this.2.1, Or.inr (Or.inl this.2.2)⟩
    · have := (h 108 (by omega)).mpr e; exact ⟨this.1, this.2.1, Or.inr (Or.inr (Or.inl this.2.2))⟩
    · have := (h 109 (by omega)).mpr e; exact ⟨this.1, this.2.1, Or.inr (Or.inr (Or.inr (Or.inl this.2.2)))⟩
    · have := (h 116 (by omega)).mpr e; exact ⟨this.1, this.2.1, Or.inr (Or.inr (Or.inr (Or.inr this.2.2)))⟩
theorem so_v {g : Nat → Int32} {n : Nat} {z : Nat × Nat} {cu sr tk va ft fA : Int32} (hMI : MI g n z cu sr tk va ft fA) (h : isSo (lh g n z)) : va = lh g n z := by
  have h1 := lh_so h
  have h2 := hMI.1 h1.1
  rw [h2.2.2.2.1]
  have e : lh g n z = g z.1 := by rw [lh, if_pos h1]
  rw [e] at h ⊢
  have h3 : ¬ (¬ g z.1 < nI 48 ∧ ¬ nI 57 < g z.1) := by
    rcases h with q | q | q | q | q <;> rw [q] <;> decide
  rw [lxV, if_neg (by omega), if_neg h3]
theorem so_tS {g : Nat → Int32} {n : Nat} {z : Nat × Nat} (h : isSo (lh g n z)) : tS g n (lh g n z) z = (lxE g n z.1, 0) := by
  rcases h with e | e | e | e | e <;> rw [e] <;> exact tS_lx (by omega) e
