/-! ===== reading, by the class ===== -/
theorem fl_ok {x n : Nat} {z : Nat × Nat} (h : z.1 ≤ n ∧ z.2 < 100) (hx : x < 100) : (fl x z).1 ≤ n ∧ (fl x z).2 < 100 := by
  unfold fl
  refine ⟨h.1, ?_⟩
  show (if z.2 = 0 then x else z.2) < 100
  split
  · exact hx
  · exact h.2
theorem tS_w {g : Nat → Int32} {n : Nat} {sg : Int32} {z : Nat × Nat} (h : z.1 ≤ n ∧ z.2 < 100) : (tS g n sg z).2 < 100 := by
  unfold tS
  split
  · show 0 < 100
    decide
  · exact (fl_ok h (by decide)).2
theorem tS_ok {g : Nat → Int32} {n : Nat} {sg : Int32} {z : Nat × Nat} (h : z.1 ≤ n ∧ z.2 < 100) (hs : ¬ sg = -1) : (tS g n sg z).1 ≤ n ∧ (tS g n sg z).2 < 100 := ⟨tS_le h.1 hs, tS_w h⟩
theorem tS_okL {g : Nat → Int32} {n : Nat} {z : Nat × Nat} (h : z.1 ≤ n ∧ z.2 < 100) (hs : ¬ z.2 = 0 ∨ z.1 < n) : (tS g n (lh g n z) z).1 ≤ n ∧ (tS g n (lh g n z) z).2 < 100 := by
  refine ⟨?_, tS_w h⟩
  unfold tS
  split
  · rename_i h1
    have := hs.resolve_left (fun q => q h1.1)
    show z.1 + 1 ≤ n
    omega
  · exact h.1
theorem tN_ok {g : Nat → Int32} {n lo hi : Nat} {z : Nat × Nat} (h : z.1 ≤ n ∧ z.2 < 100) : (tN g n lo hi z).1.1 ≤ n ∧ (tN g n lo hi z).1.2 < 100 := by
  refine ⟨tN_le h.1, ?_⟩
  unfold tN
  split
  · split
    · show 0 < 100
      decide
    · exact (fl_ok h (by decide)).2
  · exact (fl_ok h (by decide)).2
/-- the head: places, step, over, missing -/
def pL (g : Nat → Int32) (n : Nat) : (Nat × Nat) × Nat := tN g n 4 12 (tS g n (nI 111) (0, 0))
def pS (g : Nat → Int32) (n : Nat) : (Nat × Nat) × Nat := tN g n 0 9 (tS g n (nI 44) (pL g n).1)
def pO (g : Nat → Int32) (n : Nat) : (Nat × Nat) × Nat := tN g n 0 20 (tS g n (nI 44) (pS g n).1)
def pM (g : Nat → Int32) (n : Nat) : (Nat × Nat) × Nat := tN g n 0 9 (tS g n (nI 44) (pO g n).1)
def pZ (g : Nat → Int32) (n : Nat) : Nat × Nat := tS g n (nI 59) (pM g n).1
/-- the weights -/
def rpB (g : Nat → Int32) (n i : Nat) (z : Nat × Nat) : Nat × Nat := if i = 0 then z else tS g n (nI 44) z
def rpZ (g : Nat → Int32) (n : Nat) (z : Nat × Nat) : Nat → Nat × Nat
  | 0 => z
  | i + 1 => (tN g n 1 9 (rpB g n i (rpZ g n z i))).1
def rpV (g : Nat → Int32) (n : Nat) (z : Nat × Nat) (i : Nat) : Nat := (tN g n 1 9 (rpB g n i (rpZ g n z i))).2
theorem rpB_ok {g : Nat → Int32} {n i : Nat} {z : Nat × Nat} (h : z.1 ≤ n ∧ z.2 < 100) : (rpB g n i z).1 ≤ n ∧ (rpB g n i z).2 < 100 := by
  unfold rpB
  split
  · exact h
  · exact tS_ok h (by decide)
theorem rpZ_ok {g : Nat → Int32} {n : Nat} {z : Nat × Nat} (h : z.1 ≤ n ∧ z.2 < 100) : ∀ i, (rpZ g n z i).1 ≤ n ∧ (rpZ g n z i).2 < 100
  | 0 => h
  | i + 1 => tN_ok (rpB_ok (rpZ_ok h i))
def nF (v : Nat → Nat) : Nat → Int32 := fun z => nI (v z)
def uN (v : Nat → Nat) (i x : Nat) : Nat → Nat := fun z => if z = i then x else v z
theorem nF_u {v : Nat → Nat} {i x : Nat} : upd (nF v) i (nI x) = nF (uN v i x) := by
  funext z
  by_cases h : z = i
  · subst h; rw [pk_us, nF, uN, if_pos rfl]
  · rw [pk_un h, nF, nF, uN, if_neg h]
/-- a ridge -/
def rg1 (ri : Nat) (z : Nat × Nat) : Nat × Nat := if ri < 4 then z else fl 3 z
def rg2 (g : Nat → Int32) (n ri : Nat) (z : Nat × Nat) : Nat × Nat := tS g n (nI 114) (rg1 ri z)
def rgT (g : Nat → Int32) (n P ri : Nat) (z : Nat × Nat) : (Nat × Nat) × Nat := tN g n 0 (P - 1) (rg2 g n ri z)
def rg3 (g : Nat → Int32) (n P ri : Nat) (cv : Nat → Nat) (z : Nat × Nat) : Nat × Nat := if ¬ cv (rgT g n P ri z).2 = 0 ∧ (rgT g n P ri z).1.2 = 0 then ((rg2 g n ri z).1, 2) else (rgT g n P ri z).1
def rgU (g : Nat → Int32) (n P ri : Nat) (cv : Nat → Nat) (z : Nat × Nat) : (Nat × Nat) × Nat := tN g n 1 9 (tS g n (nI 44) (rg3 g n P ri cv z))
def rgE (g : Nat → Int32) (n P ri : Nat) (cv : Nat → Nat) (z : Nat × Nat) : Nat × Nat := tS g n (nI 59) (rgU g n P ri cv z).1
def rgC (g : Nat → Int32) (n P ri : Nat) (cv : Nat → Nat) (z : Nat × Nat) : Nat → Nat := if (rgE g n P ri cv z).2 = 0 then uN cv (rgT g n P ri z).2 (rgU g n P ri cv z).2 else cv
def rgR (g : Nat → Int32) (n P ri : Nat) (cv : Nat → Nat) (z : Nat × Nat) : Nat := if (rgE g n P ri cv z).2 = 0 then ri + 1 else ri
theorem rg1_ok {n ri : Nat} {z : Nat × Nat} (h : z.1 ≤ n ∧ z.2 < 100) : (rg1 ri z).1 ≤ n ∧ (rg1 ri z).2 < 100 := by
  unfold rg1
  split
  · exact h
  · exact fl_ok h (by decide)
theorem rg2_ok {g : Nat → Int32} {n ri : Nat} {z : Nat × Nat} (h : z.1 ≤ n ∧ z.2 < 100) : (rg2 g n ri z).1 ≤ n ∧ (rg2 g n ri z).2 < 100 := tS_ok (rg1_ok h) (by decide)
theorem rgT_ok {g : Nat → Int32} {n P ri : Nat} {z : Nat × Nat} (h : z.1 ≤ n ∧ z.2 < 100) : (rgT g n P ri z).1.1 ≤ n ∧ (rgT g n P ri z).1.2 < 100 := tN_ok (rg2_ok h)
theorem rg3_ok {g : Nat → Int32} {n P ri : Nat} {cv : Nat → Nat} {z : Nat × Nat} (h : z.1 ≤ n ∧ z.2 < 100) : (rg3 g n P ri cv z).1 ≤ n ∧ (rg3 g n P ri cv z).2 < 100 := by
  unfold rg3
  split
  · exact ⟨(rg2_ok h).1, (by decide : 2 < 100)⟩
  · exact rgT_ok h
theorem rgU_ok {g : Nat → Int32} {n P ri : Nat} {cv : Nat → Nat} {z : Nat × Nat} (h : z.1 ≤ n ∧ z.2 < 100) : (rgU g n P ri cv z).1.1 ≤ n ∧ (rgU g n P ri cv z).1.2 < 100 := tN_ok (tS_ok (rg3_ok h) (by decide))
theorem rgE_ok {g : Nat → Int32} {n P ri : Nat} {cv : Nat → Nat} {z : Nat × Nat} (h : z.1 ≤ n ∧ z.2 < 100) : (rgE g n P ri cv z).1 ≤ n ∧ (rgE g n P ri cv z).2 < 100 := tS_ok (rgU_ok h) (by decide)
/-- a seeker -/
def sk1 (tl : Nat) (z : Nat × Nat) : Nat × Nat := if tl < 4 then z else fl 3 z
def sk2 (g : Nat → Int32) (n tl : Nat) (z : Nat × Nat) : Nat × Nat := tS g n (lh g n (sk1 tl z)) (sk1 tl z)
def skT (g : Nat → Int32) (n tl : Nat) (z : Nat × Nat) : (Nat × Nat) × Nat := tN g n 0 10 (sk2 g n tl z)
def skU (g : Nat → Int32) (n tl : Nat) (z : Nat × Nat) : (Nat × Nat) × Nat := tN g n 0 10 (tS g n (nI 44) (skT g n tl z).1)
def skE (g : Nat → Int32) (n tl : Nat) (z : Nat × Nat) : Nat × Nat := tS g n (nI 59) (skU g n tl z).1
theorem sk1_ok {n tl : Nat} {z : Nat × Nat} (h : z.1 ≤ n ∧ z.2 < 100) : (sk1 tl z).1 ≤ n ∧ (sk1 tl z).2 < 100 := by
  unfold sk1
  split
  · exact h
  · exact fl_ok h (by decide)
theorem sk2_ok {g : Nat → Int32} {n tl : Nat} {z : Nat × Nat} (h : z.1 ≤ n ∧ z.2 < 100) (hz : z.1 < n) : (sk2 g n tl z).1 ≤ n ∧ (sk2 g n tl z).2 < 100 := by
  refine tS_okL (sk1_ok h) (Or.inr ?_)
  unfold sk1
  split <;> exact hz
theorem skT_ok {g : Nat → Int32} {n tl : Nat} {z : Nat × Nat} (h : z.1 ≤ n ∧ z.2 < 100) (hz : z.1 < n) : (skT g n tl z).1.1 ≤ n ∧ (skT g n tl z).1.2 < 100 := tN_ok (sk2_ok h hz)
theorem skU_ok {g : Nat → Int32} {n tl : Nat} {z : Nat × Nat} (h : z.1 ≤ n ∧ z.2 < 100) (hz : z.1 < n) : (skU g n tl z).1.1 ≤ n ∧ (skU g n tl z).1.2 < 100 := tN_ok (tS_ok (skT_ok h hz) (by decide))
theorem skE_ok {g : Nat → Int32} {n tl : Nat} {z : Nat × Nat} (h : z.1 ≤ n ∧ z.2 < 100) (hz : z.1 < n) : (skE g n tl z).1 ≤ n ∧ (skE g n tl z).2 < 100 := tS_ok (skU_ok h hz) (by decide)
/-- what was a fault stays one -/
theorem fl_sticky {x : Nat} {z : Nat × Nat} (h : ¬ z.2 = 0) : fl x z = z := fl_z h
theorem tS_st {g : Nat → Int32} {n : Nat} {sg : Int32} {z : Nat × Nat} (h : ¬ z.2 = 0) : tS g n sg z = z := by rw [tS, if_neg (fun q => h q.1), fl_z h]
theorem tN_st {g : Nat → Int32} {n lo hi : Nat} {z : Nat × Nat} (h : ¬ z.2 = 0) : tN g n lo hi z = (z, 0) := by rw [tN, if_neg (fun q => h q.1), fl_z h]
theorem sk_lt {g : Nat → Int32} {n tl : Nat} {z : Nat × Nat} (h : (skE g n tl z).2 = 0) : tl < 4 := by
  refine Classical.byContradiction fun q => ?_
  have h1 : ¬ (sk1 tl z).2 = 0 := by
    rw [sk1, if_neg q]
    show ¬ (if z.2 = 0 then 3 else z.2) = 0
    split
    · decide
    · assumption
  rw [skE, skU, skT, sk2, tS_st h1, tN_st h1, tS_st h1, tN_st h1, tS_st h1] at h
  exact h1 h
theorem rg_lt {g : Nat → Int32} {n P ri : Nat} {cv : Nat → Nat} {z : Nat × Nat} (h : (rgE g n P ri cv z).2 = 0) : ri < 4 := by
  refine Classical.byContradiction fun q => ?_
  have h1 : ¬ (rg1 ri z).2 = 0 := by
    rw [rg1, if_neg q]
    show ¬ (if z.2 = 0 then 3 else z.2) = 0
    split
    · decide
    · assumption
  have h2 : rgT g n P ri z = (rg1 ri z, 0) := by rw [rgT, rg2, tS_st h1, tN_st h1]
  have h3 : rg3 g n P ri cv z = rg1 ri z := by rw [rg3, h2, if_neg (fun q2 => h1 q2.2)]
  rw [rgE, rgU, h3, tS_st h1, tN_st h1, tS_st h1] at h
  exact h1 h
/-- the kind by its letter -/
def kdS (x : Int32) : Nat := if x = nI 98 then 2 else if x = nI 108 then 3 else if x = nI 109 then 4 else if x = nI 116 then 5 else 1
abbrev isSo (x : Int32) : Prop := x = nI 117 ∨ x = nI 98 ∨ x = nI 108 ∨ x = nI 109 ∨ x = nI 116
theorem kdS_ok (x : Int32) : 1 ≤ kdS x ∧ kdS x ≤ 5 := by
  unfold kdS
  repeat' split
  all_goals decide
set_option maxHeartbeats 1000000 in
theorem fx_aastK {p : Program} {l : Launch} {e : Env} {R : Room} {s : State} {m : MethodId} {args : Array Value} {below : List Frame} {meth : Method} {c : Code} {H : Heap} {locs : List Loc} {cells slots : Nat} {Q : State → Prop} {cc : ByteArray} {nL pc : Nat} {own : String} {ls : Array Slot} {rest : List Value} {G : GG} {base sz : Nat} {f : Hp} (C : fx_C G p s m c cc nL own) (hH : fx_H G base s f sz H locs) {a n v i K : Nat} {g : Nat → Option Nat} {n1 w1 a1 : Int32} (hf : f a = some (oR 5 n g)) (hv : f v = some (skC K n1 w1 a1)) (hK : 1 ≤ K ∧ K ≤ 5) (hi : i < n) (hn : n < 2 ^ 31) (hdg : decode cc pc = .ok (.aastore, 1))
    (kk : ∀ (H1 : Heap) (locs1 : List Loc), fx_H G base s (fx_up f a (oR 5 n (va_up g i (some v)))) sz H1 locs1 → W p l e R s m args below meth c H1 locs1 cells slots Q (F0 m (pc + 1) ls rest)) : W p l e R s m args below meth c H locs cells slots Q (F0 m pc ls (.ref v :: .int (nI i) :: .ref a :: rest)) := by
  have hk5 : K = 1 ∨ K = 2 ∨ K = 3 ∨ K = 4 ∨ K = 5 := by omega
  rcases hk5 with rfl | rfl | rfl | rfl | rfl
  · exact fx_aastN C hH (t := 5) rfl hf hv rfl (Or.inr ca_X5_X7) hi hn hdg kk
  · exact fx_aastN C hH (t := 5) rfl hf hv rfl (Or.inr ca_X0_X7) hi hn hdg kk
  · exact fx_aastN C hH (t := 5) rfl hf hv rfl (Or.inr ca_X1_X7) hi hn hdg kk
  · exact fx_aastN C hH (t := 5) rfl hf hv rfl (Or.inr ca_X3_X7) hi hn hdg kk
  · exact fx_aastN C hH (t := 5) rfl hf hv rfl (Or.inr ca_X8_X7) hi hn hdg kk
/-! ===== new objects ===== -/
theorem dfX0 : ∀ j, j < 3 → defaultValue (tyX0 j) = vp_V [.int 0, .int 0, .int 0] j := fun j hj => match j, hj with
  | 0, _ => rfl
  | 1, _ => rfl
  | 2, _ => rfl
  | j + 3, h => absurd h (by omega)
theorem dfX1 : ∀ j, j < 3 → defaultValue (tyX1 j) = vp_V [.int 0, .int 0, .int 0] j := fun j hj => match j, hj with
  | 0, _ => rfl
  | 1, _ => rfl
  | 2, _ => rfl
  | j + 3, h => absurd h (by omega)
theorem dfX2 : ∀ j, j < 9 → defaultValue (tyX2 j) = vp_V [.null, .null, .null, .int 0, .int 0, .int 0, .int 0, .int 0, .int 0] j := fun j hj => match j, hj with
  | 0, _ => rfl
  | 1, _ => rfl
  | 2, _ => rfl
  | 3, _ => rfl
  | 4, _ => rfl
  | 5, _ => rfl
  | 6, _ => rfl
  | 7, _ => rfl
  | 8, _ => rfl
  | j + 9, h => absurd h (by omega)
theorem dfX3 : ∀ j, j < 3 → defaultValue (tyX3 j) = vp_V [.int 0, .int 0, .int 0] j := fun j hj => match j, hj with
  | 0, _ => rfl
  | 1, _ => rfl
  | 2, _ => rfl
  | j + 3, h => absurd h (by omega)
theorem dfX4 : ∀ j, j < 8 → defaultValue (tyX4 j) = vp_V [.null, .null, .int 0, .int 0, .int 0, .int 0, .int 0, .int 0] j := fun j hj => match j, hj with
  | 0, _ => rfl
  | 1, _ => rfl
  | 2, _ => rfl
  | 3, _ => rfl
  | 4, _ => rfl
  | 5, _ => rfl
  | 6, _ => rfl
  | 7, _ => rfl
  | j + 8, h => absurd h (by omega)
theorem dfX5 : ∀ j, j < 3 → defaultValue (tyX5 j) = vp_V [.int 0, .int 0, .int 0] j := fun j hj => match j, hj with
  | 0, _ => rfl
  | 1, _ => rfl
  | 2, _ => rfl
  | j + 3, h => absurd h (by omega)
theorem dfX6 : ∀ j, j < 4 → defaultValue (tyX6 j) = vp_V [.null, .int 0, .int 0, .int 0] j := fun j hj => match j, hj with
  | 0, _ => rfl
  | 1, _ => rfl
  | 2, _ => rfl
  | 3, _ => rfl
  | j + 4, h => absurd h (by omega)
theorem dfX8 : ∀ j, j < 3 → defaultValue (tyX8 j) = vp_V [.int 0, .int 0, .int 0] j := fun j hj => match j, hj with
  | 0, _ => rfl
  | 1, _ => rfl
  | 2, _ => rfl
  | j + 3, h => absurd h (by omega)
theorem dfX9 : ∀ j, j < 4 → defaultValue (tyX9 j) = vp_V [.null, .int 0, .int 0, .int 0] j := fun j hj => match j, hj with
  | 0, _ => rfl
  | 1, _ => rfl
  | 2, _ => rfl
  | 3, _ => rfl
  | j + 4, h => absurd h (by omega)
theorem dfX10 : ∀ j, j < 2 → defaultValue (tyX10 j) = vp_V [.null, .int 0] j := fun j hj => match j, hj with
  | 0, _ => rfl
  | 1, _ => rfl
  | j + 2, h => absurd h (by omega)
theorem dfX11 : ∀ j, j < 11 → defaultValue (tyX11 j) = vp_V [.null, .null, .null, .null, .null, .null, .null, .int 0, .int 0, .int 0, .int 0] j := fun j hj => match j, hj with
  | 0, _ => rfl
  | 1, _ => rfl
  | 2, _ => rfl
  | 3, _ => rfl
  | 4, _ => rfl
  | 5, _ => rfl
  | 6, _ => rfl
  | 7, _ => rfl
  | 8, _ => rfl
  | 9, _ => rfl
  | 10, _ => rfl
  | j + 11, h => absurd h (by omega)
theorem dfX12 : ∀ j, j < 26 → defaultValue (tyX12 j) = vp_V [.int 0, .int 0, .null, .null, .null, .null, .null, .null, .null, .null, .int 0, .null, .int 0, .int 0, .int 0, .int 0, .int 0, .int 0, .int 0, .int 0, .null, .null, .null, .null, .null, .int 0] j := fun j hj => match j, hj with
  | 0, _ => rfl
  | 1, _ => rfl
  | 2, _ => rfl
  | 3, _ => rfl
  | 4, _ => rfl
  | 5, _ => rfl
  | 6, _ => rfl
  | 7, _ => rfl
  | 8, _ => rfl
  | 9, _ => rfl
  | 10, _ => rfl
  | 11, _ => rfl
  | 12, _ => rfl
  | 13, _ => rfl
  | 14, _ => rfl
  | 15, _ => rfl
  | 16, _ => rfl
  | 17, _ => rfl
  | 18, _ => rfl
  | 19, _ => rfl
  | 20, _ => rfl
  | 21, _ => rfl
  | 22, _ => rfl
  | 23, _ => rfl
  | 24, _ => rfl
  | 25, _ => rfl
  | j + 26, h => absurd h (by omega)
