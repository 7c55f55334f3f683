/-! ===== the model's reading: tokens ===== -/
/-- the token at a: its sort, its end, its value -/
def lxT (g : Nat → Int32) (n a : Nat) : Nat := if n ≤ a then 1 else if ¬ g a < nI 97 ∧ ¬ nI 122 < g a then 2 else if ¬ g a < nI 48 ∧ ¬ nI 57 < g a then (if fg g n a ≤ 2 then 3 else 0) else if g a = nI 44 ∨ g a = nI 59 then 4 else 0
def lxE (g : Nat → Int32) (n a : Nat) : Nat := if n ≤ a then a else if ¬ g a < nI 48 ∧ ¬ nI 57 < g a then a + fg g n a else a + 1
def mvL (g : Nat → Int32) (a d : Nat) : Int32 := if d < 2 then g a - nI 48 else nI 10 * (g a - nI 48) + g (a + 1) - nI 48
def lxV (g : Nat → Int32) (n a : Nat) : Int32 := if n ≤ a then (-1000000) else if ¬ g a < nI 48 ∧ ¬ nI 57 < g a then mvL g a (fg g n a) else g a
theorem lx_no {x : Int32} (h : ¬ x < nI 97 ∧ ¬ nI 122 < x) : ¬ (¬ x < nI 48 ∧ ¬ nI 57 < x) := by
  intro q
  obtain ⟨h1, h2⟩ := h
  obtain ⟨q1, q2⟩ := q
  rw [fa_lt, nI_toInt (by omega)] at h1 q2
  omega
theorem lx_end {g : Nat → Int32} {n a : Nat} (h : n ≤ a) : lxT g n a = 1 ∧ lxE g n a = a ∧ lxV g n a = (-1000000) := ⟨if_pos h, if_pos h, if_pos h⟩
theorem lx_let {g : Nat → Int32} {n a : Nat} (h : a < n) (h2 : ¬ g a < nI 97 ∧ ¬ nI 122 < g a) : lxT g n a = 2 ∧ lxE g n a = a + 1 ∧ lxV g n a = g a := by
  have h3 : ¬ n ≤ a := by omega
  exact ⟨by rw [lxT, if_neg h3, if_pos h2], by rw [lxE, if_neg h3, if_neg (lx_no h2)], by rw [lxV, if_neg h3, if_neg (lx_no h2)]⟩
theorem lx_fig {g : Nat → Int32} {n a d : Nat} (h : a < n) (h1 : ¬ (¬ g a < nI 97 ∧ ¬ nI 122 < g a)) (h2 : ¬ g a < nI 48 ∧ ¬ nI 57 < g a) (hd : fg g n a = d) : lxT g n a = (if d ≤ 2 then 3 else 0) ∧ lxE g n a = a + d ∧ lxV g n a = mvL g a d := by
  have h3 : ¬ n ≤ a := by omega
  exact ⟨by rw [lxT, if_neg h3, if_neg h1, if_pos h2, hd], by rw [lxE, if_neg h3, if_pos h2, hd], by rw [lxV, if_neg h3, if_pos h2, hd]⟩
theorem lx_sgn {g : Nat → Int32} {n a : Nat} (h : a < n) (h1 : ¬ (¬ g a < nI 97 ∧ ¬ nI 122 < g a)) (h2 : ¬ (¬ g a < nI 48 ∧ ¬ nI 57 < g a)) (h4 : g a = nI 44 ∨ g a = nI 59) : lxT g n a = 4 ∧ lxE g n a = a + 1 ∧ lxV g n a = g a := by
  have h3 : ¬ n ≤ a := by omega
  exact ⟨by rw [lxT, if_neg h3, if_neg h1, if_neg h2, if_pos h4], by rw [lxE, if_neg h3, if_neg h2], by rw [lxV, if_neg h3, if_neg h2]⟩
theorem lx_non {g : Nat → Int32} {n a : Nat} (h : a < n) (h1 : ¬ (¬ g a < nI 97 ∧ ¬ nI 122 < g a)) (h2 : ¬ (¬ g a < nI 48 ∧ ¬ nI 57 < g a)) (h4 : ¬ (g a = nI 44 ∨ g a = nI 59)) : lxT g n a = 0 ∧ lxE g n a = a + 1 ∧ lxV g n a = g a := by
  have h3 : ¬ n ≤ a := by omega
  exact ⟨by rw [lxT, if_neg h3, if_neg h1, if_neg h2, if_neg h4], by rw [lxE, if_neg h3, if_neg h2], by rw [lxV, if_neg h3, if_neg h2]⟩
theorem lxE_le {g : Nat → Int32} {n a : Nat} (h : a ≤ n) : lxE g n a ≤ n := by
  unfold lxE
  split
  · exact h
  · split
    · have := fg_le (g := g) (n - a) a
      unfold fg
      omega
    · omega
theorem mvL_nx {g : Nat → Int32} {a d : Nat} (h : 1 ≤ d) : mvL g a (d + 1) = if d < 2 then nI 10 * mvL g a d + g (a + d) - nI 48 else mvL g a d := by
  by_cases hd : d < 2
  · have h1 : d = 1 := by omega
    subst h1
    rw [if_pos (by decide), mvL, if_neg (by decide), mvL, if_pos (by decide)]
  · rw [if_neg hd, mvL, if_neg (by omega), mvL, if_neg hd]
theorem lxT_le {g : Nat → Int32} {n a : Nat} : lxT g n a ≤ 4 := by
  unfold lxT
  repeat' split
  all_goals decide
/-- a sign, a letter stands there -/
theorem lx_iff {g : Nat → Int32} {n a c T : Nat} (hT : T = 2 ∧ 97 ≤ c ∧ c ≤ 122 ∨ T = 4 ∧ (c = 44 ∨ c = 59)) : (lxT g n a = T ∧ lxV g n a = nI c) ↔ (a < n ∧ g a = nI c) := by
  have hc : c < 2 ^ 31 := by omega
  constructor
  · intro h
    by_cases h1 : n ≤ a
    · rw [(lx_end h1).1] at h; omega
    · have h1 : a < n := by omega
      refine ⟨h1, ?_⟩
      by_cases h2 : ¬ g a < nI 97 ∧ ¬ nI 122 < g a
      · rw [(lx_let h1 h2).2.2] at h; exact h.2
      · by_cases h3 : ¬ g a < nI 48 ∧ ¬ nI 57 < g a
        · have e := (lx_fig h1 h2 h3 rfl).1
          rw [h.1] at e
          split at e <;> omega
        · by_cases h4 : g a = nI 44 ∨ g a = nI 59
          · rw [(lx_sgn h1 h2 h3 h4).2.2] at h; exact h.2
          · rw [(lx_non h1 h2 h3 h4).1] at h; omega
  · intro ⟨h1, h2⟩
    have hx := nI_toInt hc
    rcases hT with ⟨rfl, h3⟩ | ⟨rfl, h3⟩
    · have h4 : ¬ g a < nI 97 ∧ ¬ nI 122 < g a := by
        rw [h2, fa_lt, fa_lt, nI_toInt (by omega), nI_toInt (by omega), nI_toInt (by omega)]; omega
      exact ⟨(lx_let h1 h4).1, by rw [(lx_let h1 h4).2.2]; exact h2⟩
    · have h4 : ¬ (¬ g a < nI 97 ∧ ¬ nI 122 < g a) := by
        rw [h2, fa_lt, fa_lt, nI_toInt (by omega), nI_toInt (by omega), nI_toInt (by omega)]; omega
      have h5 : ¬ (¬ g a < nI 48 ∧ ¬ nI 57 < g a) := by
        rw [h2, fa_lt, fa_lt, nI_toInt (by omega), nI_toInt (by omega), nI_toInt (by omega)]; omega
      have h6 : g a = nI 44 ∨ g a = nI 59 := by rcases h3 with rfl | rfl; exact Or.inl h2; exact Or.inr h2
      exact ⟨(lx_sgn h1 h4 h5 h6).1, by rw [(lx_sgn h1 h4 h5 h6).2.2]; exact h2⟩
theorem lx_one {g : Nat → Int32} {n a c T : Nat} (hT : T = 2 ∧ 97 ≤ c ∧ c ≤ 122 ∨ T = 4 ∧ (c = 44 ∨ c = 59)) (h : a < n ∧ g a = nI c) : lxE g n a = a + 1 := by
  rw [lxE, if_neg (by omega), if_neg]
  rw [h.2, fa_lt, fa_lt, nI_toInt (by omega), nI_toInt (by omega), nI_toInt (by omega)]
  omega
theorem lx_tS {g : Nat → Int32} {n c T : Nat} {z : Nat × Nat} (hz : z.2 = 0) (hT : T = 2 ∧ 97 ≤ c ∧ c ≤ 122 ∨ T = 4 ∧ (c = 44 ∨ c = 59)) : tS g n (nI c) z = if lxT g n z.1 = T ∧ lxV g n z.1 = nI c then (lxE g n z.1, 0) else (z.1, 1) := by
  have hm : ¬ (-1 : Int32) = nI c := fun q => by
    have := congrArg Int32.toInt q
    rw [nI_toInt (by omega)] at this
    have h2 : ((-1 : Int32)).toInt = -1 := by decide
    rw [h2] at this
    omega
  by_cases h : z.1 < n ∧ g z.1 = nI c
  · rw [if_pos ((lx_iff hT).mpr h), lx_one hT h, tS, if_pos ⟨hz, by rw [lh, if_pos ⟨hz, h.1⟩]; exact h.2⟩]
  · rw [if_neg (fun q => h ((lx_iff hT).mp q)), tS, if_neg, fl_0 hz]
    intro q
    have q2 := q.2
    unfold lh at q2
    split at q2
    · rename_i h5; exact h ⟨h5.2, q2⟩
    · exact hm q2
theorem lx_num {g : Nat → Int32} {n a : Nat} : lxT g n a = 3 ↔ (¬ fg g n a < 1 ∧ fg g n a ≤ 2) := by
  by_cases h1 : n ≤ a
  · rw [(lx_end h1).1, fg_n (Or.inl h1)]; omega
  · have h1 : a < n := by omega
    by_cases h3 : ¬ g a < nI 48 ∧ ¬ nI 57 < g a
    · have h2 : ¬ (¬ g a < nI 97 ∧ ¬ nI 122 < g a) := fun q => lx_no q h3
      rw [(lx_fig h1 h2 h3 rfl).1]
      have := fg_y h1 h3
      split <;> omega
    · rw [fg_n (Or.inr h3)]
      refine ⟨fun q => ?_, fun q => by omega⟩
      by_cases h2 : ¬ g a < nI 97 ∧ ¬ nI 122 < g a
      · rw [(lx_let h1 h2).1] at q; omega
      · by_cases h4 : g a = nI 44 ∨ g a = nI 59
        · rw [(lx_sgn h1 h2 h3 h4).1] at q; omega
        · rw [(lx_non h1 h2 h3 h4).1] at q; omega
theorem nvI_mv {g : Nat → Int32} {a d : Nat} (h : ¬ d < 1 ∧ d ≤ 2) : nvI g a d = mvL g a d := by
  have h2 : d = 1 ∨ d = 2 := by omega
  have e0 : ∀ x : Int32, nI 0 * nI 10 + x - nI 48 = x - nI 48 := fun x => by
    rw [pk_mul]; show nI 0 + x - nI 48 = _; show 0 + x - nI 48 = _; rw [Int32.zero_add]
  rcases h2 with rfl | rfl
  · show nI 0 * nI 10 + g (a + 0) - nI 48 = mvL g a 1
    rw [mvL, if_pos (by decide), e0, Nat.add_zero]
  · show (nI 0 * nI 10 + g (a + 0) - nI 48) * nI 10 + g (a + 1) - nI 48 = mvL g a 2
    rw [mvL, if_neg (by decide), e0, Nat.add_zero, Int32.mul_comm]
theorem lx_nv {g : Nat → Int32} {n a : Nat} (h : lxT g n a = 3) : lxV g n a = nvI g a (fg g n a) ∧ lxE g n a = a + fg g n a := by
  have h0 := lx_num.mp h
  rw [nvI_mv h0]
  by_cases h1 : n ≤ a
  · rw [(lx_end h1).1] at h; omega
  · have h1 : a < n := by omega
    have h3 : ¬ g a < nI 48 ∧ ¬ nI 57 < g a := Classical.byContradiction fun q => by
      rw [fg_n (Or.inr q)] at h0; omega
    have e := lx_fig h1 (fun q => lx_no q h3) h3 rfl
    exact ⟨e.2.2, e.2.1⟩
theorem lx_tN {g : Nat → Int32} {n lo hi : Nat} {z : Nat × Nat} (hz : z.2 = 0) : tN g n lo hi z = if lxT g n z.1 = 3 then (if ¬ lxV g n z.1 < nI lo ∧ ¬ nI hi < lxV g n z.1 then ((lxE g n z.1, 0), (lxV g n z.1).toNatClampNeg) else ((z.1, 2), 0)) else ((z.1, 1), 0) := by
  by_cases h : lxT g n z.1 = 3
  · have h1 := lx_num.mp h
    have h2 := lx_nv h
    rw [if_pos h, tN, if_pos ⟨hz, h1⟩, h2.1, h2.2, fl_0 hz]
    by_cases h3 : ¬ nvI g z.1 (fg g n z.1) < nI lo ∧ ¬ nI hi < nvI g z.1 (fg g n z.1)
    · rw [if_pos h3, if_pos ⟨h3.1, by rw [fa_le]; have := h3.2; rw [fa_lt] at this; omega⟩]
    · rw [if_neg h3, if_neg]
      intro q
      refine h3 ⟨q.1, ?_⟩
      have := q.2
      rw [fa_le] at this; rw [fa_lt]; omega
  · rw [if_neg h, tN, if_neg (fun q => h (lx_num.mpr q.2)), fl_0 hz]
/-- the model stands where the class stands -/
def MI (g : Nat → Int32) (n : Nat) (z : Nat × Nat) (cu sr tk va ft fA : Int32) : Prop :=
  (z.2 = 0 → cu = nI (lxE g n z.1) ∧ sr = nI z.1 ∧ tk = nI (lxT g n z.1) ∧ va = lxV g n z.1 ∧ ft = nI 0) ∧ (¬ z.2 = 0 → ft = nI z.2 ∧ fA = nI z.1)
theorem MI_0 {g : Nat → Int32} {n a : Nat} {fA : Int32} : MI g n (a, 0) (nI (lxE g n a)) (nI a) (nI (lxT g n a)) (lxV g n a) (nI 0) fA := ⟨fun _ => ⟨rfl, rfl, rfl, rfl, rfl⟩, fun q => absurd rfl q⟩
theorem MI_f {g : Nat → Int32} {n a x : Nat} {cu sr tk va : Int32} (hx : ¬ x = 0) : MI g n (a, x) cu sr tk va (nI x) (nI a) := ⟨fun q => absurd q hx, fun _ => ⟨rfl, rfl⟩⟩
theorem MI_ft {g : Nat → Int32} {n : Nat} {z : Nat × Nat} {cu sr tk va ft fA : Int32} (h : MI g n z cu sr tk va ft fA) (hz : z.2 < 100) : ft = nI 0 ↔ z.2 = 0 := by
  by_cases q : z.2 = 0
  · exact ⟨fun _ => q, fun _ => (h.1 q).2.2.2.2⟩
  · refine ⟨fun e => ?_, fun e => absurd e q⟩
    rw [(h.2 q).1] at e
    have := congrArg Int32.toInt e
    rw [nI_toInt (by omega), nI_toInt (by omega)] at this
    omega
theorem MI_nf {g : Nat → Int32} {n : Nat} {z : Nat × Nat} {cu sr tk va ft fA : Int32} (h : MI g n z cu sr tk va ft fA) (hz : z.2 < 100) (q : ¬ z.2 = 0) : ¬ ft = nI 0 := fun e => q ((MI_ft h hz).mp e)
/-- the sorts of tokens are told apart -/
theorem lxT_eq {g : Nat → Int32} {n a T : Nat} (hT : T ≤ 4) : nI (lxT g n a) = nI T ↔ lxT g n a = T := nI_eq (by have := lxT_le (g := g) (n := n) (a := a); omega) (by omega)
