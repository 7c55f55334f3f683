/-! ===== what the model's calls need ===== -/
theorem hld2 {i n g : Int32} {sn : Nat} (hs : sn < 2 ^ 31) (hg : g = nI sn) (h1 : ¬ i < 0) (h2 : ¬ n < 0) (h3 : ¬ g.toInt64 < i.toInt64 + n.toInt64) : ∃ a b, a + b ≤ sn ∧ i = nI a ∧ n = nI b := by
  subst hg; exact hld hs ⟨h1, h2, h3⟩
theorem hld3 {i n g : Int32} {sn : Nat} (hs : sn < 2 ^ 31) (hg : g = nI sn) (h1 : ¬ i < 0) (h2 : ¬ n < 0) (h3 : i.toInt64 + n.toInt64 ≤ g.toInt64) : ∃ a b, a + b ≤ sn ∧ i = nI a ∧ n = nI b :=
  hld2 hs hg h1 h2 (fun q => by rw [fa_lt64] at q; rw [fa_le64] at h3; omega)
def cpG (g : Nat → Int32) (s d lo hi : Nat) : Nat → Int32 := fun z => if d + lo ≤ z ∧ z < d + hi then g (s + (z - d)) else g z
theorem cpG_0 {g : Nat → Int32} {s d k : Nat} : cpG g s d k k = g := by
  funext z; rw [cpG, if_neg (by omega)]
theorem cpG_up {g : Nat → Int32} {s d k : Nat} (h : ¬ (d ≤ s + k ∧ s + k < d + k)) : upd (cpG g s d 0 k) (d + k) (cpG g s d 0 k (s + k)) = cpG g s d 0 (k + 1) := by
  funext z
  have e : cpG g s d 0 k (s + k) = g (s + k) := by rw [cpG, if_neg (by omega)]
  rw [e]
  by_cases hz : z = d + k
  · subst hz; rw [pk_us, cpG, if_pos (by omega), show s + (d + k - d) = s + k by omega]
  · rw [pk_un hz, cpG, cpG]
    by_cases h2 : d + 0 ≤ z ∧ z < d + k
    · rw [if_pos h2, if_pos (by omega)]
    · rw [if_neg h2, if_neg (by omega)]
theorem cpG_dn {g : Nat → Int32} {s d k n : Nat} (hk : k < n) (h : ¬ (d + (n - k) ≤ s + (n - 1 - k) ∧ s + (n - 1 - k) < d + n)) : upd (cpG g s d (n - k) n) (d + (n - 1 - k)) (cpG g s d (n - k) n (s + (n - 1 - k))) = cpG g s d (n - (k + 1)) n := by
  funext z
  have e : cpG g s d (n - k) n (s + (n - 1 - k)) = g (s + (n - 1 - k)) := by rw [cpG, if_neg h]
  rw [e]
  by_cases hz : z = d + (n - 1 - k)
  · subst hz; rw [pk_us, cpG, if_pos (by omega), show s + (d + (n - 1 - k) - d) = s + (n - 1 - k) by omega]
  · rw [pk_un hz, cpG, cpG]
    by_cases h2 : d + (n - k) ≤ z ∧ z < d + n
    · rw [if_pos h2, if_pos (by omega)]
    · rw [if_neg h2, if_neg (by omega)]
/-- how many of the first n rows are there -/
def cnL (g : Nat → Int32) : Nat → Nat
  | 0 => 0
  | n + 1 => if 0 ≤ g n then cnL g n + 1 else cnL g n
/-- by how much a touch speaks for the end at en -/
def spN (fe pl fl cv en : Nat) : Nat := if fe = 1 then (if pl = en then fl else cv) else 10 - (if pl = en then fl else cv)
theorem spN_le {fe pl fl cv en : Nat} (h1 : fl ≤ 10) (h2 : cv ≤ 10) : spN fe pl fl cv en ≤ 10 := by
  unfold spN
  repeat' split
  all_goals omega
/-- a place on, the other way round -/
def stN (P : Nat) (wy : Int32) (a : Nat) : Nat := if wy = nI 1 then (a + 1) % P else (a + P - 1) % P
def itN (P : Nat) (wy : Int32) (a : Nat) : Nat → Nat
  | 0 => a
  | k + 1 => stN P wy (itN P wy a k)
theorem itN_lt {P : Nat} {wy : Int32} {a : Nat} (h : a < P) : ∀ k, itN P wy a k < P
  | 0 => h
  | k + 1 => by
    rw [itN, stN]
    split <;> exact Nat.mod_lt _ (by omega)
theorem stN_t1 : ∀ P, P < 13 → ∀ a, a < P → rmI (nI a + nI 1 + nI P) (nI P) = nI ((a + 1) % P) := by decide +kernel
theorem stN_t2 : ∀ P, P < 13 → ∀ a, a < P → rmI (nI a + (-1) + nI P) (nI P) = nI ((a + P - 1) % P) := by decide +kernel
theorem stN_eq {P : Nat} {wy : Int32} {a : Nat} (hw : wy = nI 1 ∨ wy = -1) (hP : P ≤ 12) (ha : a < P) : rmI (nI a + wy + nI P) (nI P) = nI (stN P wy a) := by
  rcases hw with rfl | rfl
  · rw [stN, if_pos rfl]; exact stN_t1 P (by omega) a ha
  · rw [stN, if_neg (by decide)]; exact stN_t2 P (by omega) a ha
theorem upd_idI {g : Nat → Int32} {i : Nat} {x : Int32} (h : g i = x) : upd g i x = g := by
  funext z
  by_cases hz : z = i
  · subst hz; rw [pk_us, h]
  · rw [pk_un hz]
/-- the surest place -/
def suS (q : Nat → Int64) : Nat → Nat
  | 0 => 0
  | k + 1 => if q (k + 1) ≤ q (suS q k) then suS q k else k + 1
theorem suS_le {q : Nat → Int64} : ∀ k, suS q k ≤ k
  | 0 => Nat.le_refl _
  | k + 1 => by
    have := suS_le (q := q) k
    rw [suS]; split
    · omega
    · exact Nat.le_refl _
def bgO (mn : Nat → Int64) : Nat → Int32 × Int64
  | 0 => (-1000000, lN 0)
  | k + 1 => (nI (bgS mn k).1, (bgS mn k).2)
abbrev rm_X12_row : Room := { frames := 2, cells := 0, slots := 0, locals := 45 }
set_option maxHeartbeats 4000000 in
set_option maxRecDepth 100000 in
theorem c_X12_row_n {G : GG} {base : Nat} {l : Launch} {f : Hp} {sz : Nat} {Po : Option Value → Hp → Nat → Prop} {mo : Nat} {r : Int32} {ln : Int32} {n : Int32} {th : Int32} {sa : Int32} {la : Nat} {ma : Nat} {it : Nat} {rl : Nat} {fr : Nat} {li : Nat} {wa : Nat} {ld : Nat} {ac : Int32} {tp : Nat} {tn : Int32} {cu : Int32} {sr : Int32} {tk : Int32} {va : Int32} {ft : Int32} {fA : Int32} {lt : Int32} {so : Nat} {ik : Nat} {kp : Nat} {kl : Nat} {tc : Nat} {tt : Int32} (h_mo : f mo = some (oO 11 [.int th, .int sa, .ref la, .ref ma, .ref it, .ref rl, .ref fr, .ref li, .ref wa, .ref ld, .int ac, .ref tp, .int tn, .int cu, .int sr, .int tk, .int va, .int ft, .int fA, .int lt, .ref so, .ref ik, .ref kp, .ref kl, .ref tc, .int tt])) (hr0 : ¬ (¬ r < nI 0 ∧ ¬ nI 7 < r)) (K1 : Po (some (.int (-1000001))) (fx_up f mo (oO 11 [.int (nI 0), .int sa, .ref la, .ref ma, .ref it, .ref rl, .ref fr, .ref li, .ref wa, .ref ld, .int ac, .ref tp, .int tn, .int cu, .int sr, .int tk, .int va, .int ft, .int fA, .int lt, .ref so, .ref ik, .ref kp, .ref kl, .ref tc, .int tt])) sz) : fx_MP G base l yX12_row cX12_row 5 (some .int) rm_X12_row [.ref mo, .int r, .int ln, .int n] f sz Po := by
  refine fx_ofP (by decide +kernel) (Nat.le_of_ble_eq_true rfl) ?_
  intro p e s m args below meth c C hr hk hnm hH ls hl
  obtain ⟨locs, hlocs⟩ : ∃ L : List Loc, L = [] := ⟨_, rfl⟩
  rw [← hlocs] at hH ⊢
  generalize s.heap = H at hH ⊢
  have hx := C.1
  have hb := C.2.1
  have hl : lv_has ls 5 [(0, .ref mo), (1, .int r), (2, .int ln), (3, .int n)] := hl
  refine lv_aload_n hx hb dX12_row_0 rfl (lv_at hl 0 rfl) ?_
  refine lv_iconst (v := nI 0) hx hb dX12_row_1 (by decide) ?_
  refine fx_putT C hH (k := 0) h_mo ff_X12_54_11 fL_11 fT_11_0 rfl rfl (Nat.le_of_ble_eq_true rfl) dX12_row_2 (fun H locs hH => ?_)
  have hH : fx_H G base s (fx_up f mo (oO 11 [.int (nI 0), .int sa, .ref la, .ref ma, .ref it, .ref rl, .ref fr, .ref li, .ref wa, .ref ld, .int ac, .ref tp, .int tn, .int cu, .int sr, .int tk, .int va, .int ft, .int fA, .int lt, .ref so, .ref ik, .ref kp, .ref kl, .ref tc, .int tt])) sz H locs := hH
  have h1_mo : (fx_up f mo (oO 11 [.int (nI 0), .int sa, .ref la, .ref ma, .ref it, .ref rl, .ref fr, .ref li, .ref wa, .ref ld, .int ac, .ref tp, .int tn, .int cu, .int sr, .int tk, .int va, .int ft, .int fA, .int lt, .ref so, .ref ik, .ref kp, .ref kl, .ref tc, .int tt])) mo = some (oO 11 [.int (nI 0), .int sa, .ref la, .ref ma, .ref it, .ref rl, .ref fr, .ref li, .ref wa, .ref ld, .int ac, .ref tp, .int tn, .int cu, .int sr, .int tk, .int va, .int ft, .int fA, .int lt, .ref so, .ref ik, .ref kp, .ref kl, .ref tc, .int tt]) := fx_up_s _ _ _
  refine lv_iload_n hx hb dX12_row_5 rfl (lv_at hl 1 rfl) ?_
  refine fx_go1 hH (fx_runS C hH hl.1 (As := [.int r]) (rest := []) (c_X12_isRow (G := G) (base := base) (l := l) (f := fx_up f mo (oO 11 [.int (nI 0), .int sa, .ref la, .ref ma, .ref it, .ref rl, .ref fr, .ref li, .ref wa, .ref ld, .int ac, .ref tp, .int tn, .int cu, .int sr, .int tk, .int va, .int ft, .int fA, .int lt, .ref so, .ref ik, .ref kp, .ref kl, .ref tc, .int tt])) (sz := sz) (r := r) ) mY_X12_isRow ml_X12_68 st_X12_isRow rfl ⟨(Nat.le_of_ble_eq_true rfl), (Nat.le_of_ble_eq_true rfl)⟩ rfl (Nat.le_of_ble_eq_true rfl) ⟨(Nat.le_of_ble_eq_true rfl), (Nat.le_of_ble_eq_true rfl)⟩ dX12_row_6) (fun H locs hH => ?_)
  refine fx_b_eq hx hb (tgt := 30) dX12_row_9 (by decide) (fun c9 => ?_) (fun c9 => absurd c9 (hr0))
  refine lv_ldc (v := (-1000001)) hx hb C.2.2.2.1 (C.2.2.2.2.1 _ kI_X12_74 rfl args) dX12_row_30 ?_
  exact fx_iretP C hr hk hH (K1 ) (Nat.zero_le _) (Nat.zero_le _) dX12_row_32
set_option maxHeartbeats 4000000 in
set_option maxRecDepth 100000 in
theorem c_X12_row_k {G : GG} {base : Nat} {l : Launch} {f : Hp} {sz : Nat} {Po : Option Value → Hp → Nat → Prop} {mo : Nat} {kk : Nat} {ln : Int32} {n : Int32} {th : Int32} {sa : Int32} {la : Nat} {ma : Nat} {it : Nat} {rl : Nat} {fr : Nat} {li : Nat} {wa : Nat} {ld : Nat} {ac : Int32} {tp : Nat} {tn : Int32} {cu : Int32} {sr : Int32} {tk : Int32} {va : Int32} {ft : Int32} {fA : Int32} {lt : Int32} {so : Nat} {ik : Nat} {kp : Nat} {kl : Nat} {tc : Nat} {tt : Int32} {gla : Nat → Int32} {gma : Nat → Int32} {git : Nat → Int32} (h_mo : f mo = some (oO 11 [.int th, .int sa, .ref la, .ref ma, .ref it, .ref rl, .ref fr, .ref li, .ref wa, .ref ld, .int ac, .ref tp, .int tn, .int cu, .int sr, .int tk, .int va, .int ft, .int fA, .int lt, .ref so, .ref ik, .ref kp, .ref kl, .ref tc, .int tt])) (h_la : f la = some (oI 8 gla)) (h_ma : f ma = some (oI 8 gma)) (h_it : f it = some (oI 320 git)) (hne_0 : la ≠ ma) (hne_1 : la ≠ it) (hne_2 : ma ≠ it) (hkk : kk < 8) (K1 : ∀ (c21 : ¬ (¬ ln < nI 0 ∧ ¬ nI 2 < ln)), Po (some (.int (-1000001))) (fx_up f mo (oO 11 [.int (nI 0), .int sa, .ref la, .ref ma, .ref it, .ref rl, .ref fr, .ref li, .ref wa, .ref ld, .int ac, .ref tp, .int tn, .int cu, .int sr, .int tk, .int va, .int ft, .int fA, .int lt, .ref so, .ref ik, .ref kp, .ref kl, .ref tc, .int tt])) sz)
    (K2 : ∀ (c21 : (¬ ln < nI 0 ∧ ¬ nI 2 < ln)), ∀ (c27 : n ≤ (nI 40)), ∀ (c39 : (0 : Int32) ≤ n), ∀ (i1 : Nat), ∀ (hi1 : i1 ≤ 40), ∀ (c69 : 40 ≤ i1), Po (some (.int n)) (fx_up (fx_up (fx_up (fx_up f mo (oO 11 [.int (nI 0), .int (nI 0), .ref la, .ref ma, .ref it, .ref rl, .ref fr, .ref li, .ref wa, .ref ld, .int ac, .ref tp, .int tn, .int cu, .int sr, .int tk, .int va, .int ft, .int fA, .int lt, .ref so, .ref ik, .ref kp, .ref kl, .ref tc, .int tt])) la (oI 8 (upd gla kk ln))) ma (oI 8 (upd gma kk n))) it (oI 320 (fI git (40 * kk) (fun _ => nI 0) i1))) sz)
    (K3 : ∀ (c21 : (¬ ln < nI 0 ∧ ¬ nI 2 < ln)), ∀ (c27 : n ≤ (nI 40)), ∀ (c39 : ¬ (0 : Int32) ≤ n), Po (some (.int ((-1000010) - (nI 4)))) (fx_up f mo (oO 11 [.int (nI 0), .int (nI 4), .ref la, .ref ma, .ref it, .ref rl, .ref fr, .ref li, .ref wa, .ref ld, .int ac, .ref tp, .int tn, .int cu, .int sr, .int tk, .int va, .int ft, .int fA, .int lt, .ref so, .ref ik, .ref kp, .ref kl, .ref tc, .int tt])) sz)
    (K4 : ∀ (c21 : (¬ ln < nI 0 ∧ ¬ nI 2 < ln)), ∀ (c27 : ¬ n ≤ (nI 40)), Po (some (.int (-1000001))) (fx_up f mo (oO 11 [.int (nI 0), .int sa, .ref la, .ref ma, .ref it, .ref rl, .ref fr, .ref li, .ref wa, .ref ld, .int ac, .ref tp, .int tn, .int cu, .int sr, .int tk, .int va, .int ft, .int fA, .int lt, .ref so, .ref ik, .ref kp, .ref kl, .ref tc, .int tt])) sz) : fx_MP G base l yX12_row cX12_row 5 (some .int) rm_X12_row [.ref mo, .int (nI kk), .int ln, .int n] f sz Po := by
  refine fx_ofP (by decide +kernel) (Nat.le_of_ble_eq_true rfl) ?_
  intro p e s m args below meth c C hr hk hnm hH ls hl
  obtain ⟨locs, hlocs⟩ : ∃ L : List Loc, L = [] := ⟨_, rfl⟩
  rw [← hlocs] at hH ⊢
  generalize s.heap = H at hH ⊢
  have hx := C.1
  have hb := C.2.1
  have hl : lv_has ls 5 [(0, .ref mo), (1, .int (nI kk)), (2, .int ln), (3, .int n)] := hl
  refine lv_aload_n hx hb dX12_row_0 rfl (lv_at hl 0 rfl) ?_
  refine lv_iconst (v := nI 0) hx hb dX12_row_1 (by decide) ?_
  refine fx_putT C hH (k := 0) h_mo ff_X12_54_11 fL_11 fT_11_0 rfl rfl (Nat.le_of_ble_eq_true rfl) dX12_row_2 (fun H locs hH => ?_)
  have hH : fx_H G base s (fx_up f mo (oO 11 [.int (nI 0), .int sa, .ref la, .ref ma, .ref it, .ref rl, .ref fr, .ref li, .ref wa, .ref ld, .int ac, .ref tp, .int tn, .int cu, .int sr, .int tk, .int va, .int ft, .int fA, .int lt, .ref so, .ref ik, .ref kp, .ref kl, .ref tc, .int tt])) sz H locs := hH
  have h1_la : (fx_up f mo (oO 11 [.int (nI 0), .int sa, .ref la, .ref ma, .ref it, .ref rl, .ref fr, .ref li, .ref wa, .ref ld, .int ac, .ref tp, .int tn, .int cu, .int sr, .int tk, .int va, .int ft, .int fA, .int lt, .ref so, .ref ik, .ref kp, .ref kl, .ref tc, .int tt])) la = some (oI 8 gla) := (fx_up_n _ _ (fx_ne h_la h_mo rfl)).trans h_la
  have h1_ma : (fx_up f mo (oO 11 [.int (nI 0), .int sa, .ref la, .ref ma, .ref it, .ref rl, .ref fr, .ref li, .ref wa, .ref ld, .int ac, .ref tp, .int tn, .int cu, .int sr, .int tk, .int va, .int ft, .int fA, .int lt, .ref so, .ref ik, .ref kp, .ref kl, .ref tc, .int tt])) ma = some (oI 8 gma) := (fx_up_n _ _ (fx_ne h_ma h_mo rfl)).trans h_ma
  have h1_it : (fx_up f mo (oO 11 [.int (nI 0), .int sa, .ref la, .ref ma, .ref it, .ref rl, .ref fr, .ref li, .ref wa, .ref ld, .int ac, .ref tp, .int tn, .int cu, .int sr, .int tk, .int va, .int ft, .int fA, .int lt, .ref so, .ref ik, .ref kp, .ref kl, .ref tc, .int tt])) it = some (oI 320 git) := (fx_up_n _ _ (fx_ne h_it h_mo rfl)).trans h_it
  have h1_mo : (fx_up f mo (oO 11 [.int (nI 0), .int sa, .ref la, .ref ma, .ref it, .ref rl, .ref fr, .ref li, .ref wa, .ref ld, .int ac, .ref tp, .int tn, .int cu, .int sr, .int tk, .int va, .int ft, .int fA, .int lt, .ref so, .ref ik, .ref kp, .ref kl, .ref tc, .int tt])) mo = some (oO 11 [.int (nI 0), .int sa, .ref la, .ref ma, .ref it, .ref rl, .ref fr, .ref li, .ref wa, .ref ld, .int ac, .ref tp, .int tn, .int cu, .int sr, .int tk, .int va, .int ft, .int fA, .int lt, .ref so, .ref ik, .ref kp, .ref kl, .ref tc, .int tt]) := fx_up_s _ _ _
  refine lv_iload_n hx hb dX12_row_5 rfl (lv_at hl 1 rfl) ?_
  refine fx_go1 hH (fx_runS C hH hl.1 (As := [.int (nI kk)]) (rest := []) (c_X12_isRow (G := G) (base := base) (l := l) (f := fx_up f mo (oO 11 [.int (nI 0), .int sa, .ref la, .ref ma, .ref it, .ref rl, .ref fr, .ref li, .ref wa, .ref ld, .int ac, .ref tp, .int tn, .int cu, .int sr, .int tk, .int va, .int ft, .int fA, .int lt, .ref so, .ref ik, .ref kp, .ref kl, .ref tc, .int tt])) (sz := sz) (r := nI kk) ) mY_X12_isRow ml_X12_68 st_X12_isRow rfl ⟨(Nat.le_of_ble_eq_true rfl), (Nat.le_of_ble_eq_true rfl)⟩ rfl (Nat.le_of_ble_eq_true rfl) ⟨(Nat.le_of_ble_eq_true rfl), (Nat.le_of_ble_eq_true rfl)⟩ dX12_row_6) (fun H locs hH => ?_)
  refine fx_b_eq hx hb (tgt := 30) dX12_row_9 (by decide) (fun c9 => absurd c9 (fun z => z (rng1' (by omega) (by omega) (by omega)))) (fun c9 => ?_)
  refine lv_iload_n hx hb dX12_row_12 rfl (lv_at hl 2 rfl) ?_
  refine lv_i2l (v := ln.toInt64) hx hb dX12_row_13 rfl ?_
  refine lv_lconst (v := lN 0) hx hb dX12_row_14 (by decide) ?_
  refine lv_ldc2 (v := (2)) hx hb C.2.2.2.1 (C.2.2.2.2.1 _ kL_X12_72 rfl args) dX12_row_15 ?_
  refine fx_tl (y := lN 2) (by decide) ?_
  refine fx_go1 hH (fx_runS C hH hl.1 (As := [.long ln.toInt64, .long (lN 0), .long (lN 2)]) (rest := []) (c_X12_in_i (G := G) (base := base) (l := l) (f := fx_up f mo (oO 11 [.int (nI 0), .int sa, .ref la, .ref ma, .ref it, .ref rl, .ref fr, .ref li, .ref wa, .ref ld, .int ac, .ref tp, .int tn, .int cu, .int sr, .int tk, .int va, .int ft, .int fA, .int lt, .ref so, .ref ik, .ref kp, .ref kl, .ref tc, .int tt])) (sz := sz) (x := ln) (lo := 0) (hi := 2) (by omega) (by omega)) mY_X12_in ml_X12_64 st_X12_in rfl ⟨(Nat.le_of_ble_eq_true rfl), (Nat.le_of_ble_eq_true rfl)⟩ rfl (Nat.le_of_ble_eq_true rfl) ⟨(Nat.le_of_ble_eq_true rfl), (Nat.le_of_ble_eq_true rfl)⟩ dX12_row_18) (fun H locs hH => ?_)
  refine fx_b_eq hx hb (tgt := 30) dX12_row_21 (by decide) (fun c21 => ?_) (fun c21 => ?_)
  · refine lv_ldc (v := (-1000001)) hx hb C.2.2.2.1 (C.2.2.2.2.1 _ kI_X12_74 rfl args) dX12_row_30 ?_
    exact fx_iretP C hr hk hH (K1 c21) (Nat.zero_le _) (Nat.zero_le _) dX12_row_32
  · refine lv_iload_n hx hb dX12_row_24 rfl (lv_at hl 3 rfl) ?_
    refine lv_bipush (v := nI 40) hx hb dX12_row_25 (by decide) ?_
    refine lv_icmp_le hx hb (tgt := 33) dX12_row_27 (by decide) (fun c27 => ?_) (fun c27 => ?_)
    · refine lv_aload_n hx hb dX12_row_33 rfl (lv_at hl 0 rfl) ?_
      refine lv_iconst (v := nI 0) hx hb dX12_row_34 (by decide) ?_
      refine fx_putT C hH (k := 1) h1_mo ff_X12_58_11 fL_11 fT_11_1 rfl rfl (Nat.le_of_ble_eq_true rfl) dX12_row_35 (fun H locs hH => ?_)
      have hH : fx_H G base s (fx_up (fx_up f mo (oO 11 [.int (nI 0), .int sa, .ref la, .ref ma, .ref it, .ref rl, .ref fr, .ref li, .ref wa, .ref ld, .int ac, .ref tp, .int tn, .int cu, .int sr, .int tk, .int va, .int ft, .int fA, .int lt, .ref so, .ref ik, .ref kp, .ref kl, .ref tc, .int tt])) mo (oO 11 [.int (nI 0), .int (nI 0), .ref la, .ref ma, .ref it, .ref rl, .ref fr, .ref li, .ref wa, .ref ld, .int ac, .ref tp, .int tn, .int cu, .int sr, .int tk, .int va, .int ft, .int fA, .int lt, .ref so, .ref ik, .ref kp, .ref kl, .ref tc, .int tt])) sz H locs := hH
      rw [fx_up_up] at hH
      have hH : fx_H G base s (fx_up f mo (oO 11 [.int (nI 0), .int (nI 0), .ref la, .ref ma, .ref it, .ref rl, .ref fr, .ref li, .ref wa, .ref ld, .int ac, .ref tp, .int tn, .int cu, .int sr, .int tk, .int va, .int ft, .int fA, .int lt, .ref so, .ref ik, .ref kp, .ref kl, .ref tc, .int tt])) sz H locs := hH
      have heq2 : fx_up (fx_up f mo (oO 11 [.int (nI 0), .int sa, .ref la, .ref ma, .ref it, .ref rl, .ref fr, .ref li, .ref wa, .ref ld, .int ac, .ref tp, .int tn, .int cu, .int sr, .int tk, .int va, .int ft, .int fA, .int lt, .ref so, .ref ik, .ref kp, .ref kl, .ref tc, .int tt])) mo (oO 11 [.int (nI 0), .int (nI 0), .ref la, .ref ma, .ref it, .ref rl, .ref fr, .ref li, .ref wa, .ref ld, .int ac, .ref tp, .int tn, .int cu, .int sr, .int tk, .int va, .int ft, .int fA, .int lt, .ref so, .ref ik, .ref kp, .ref kl, .ref tc, .int tt]) = fx_up f mo (oO 11 [.int (nI 0), .int (nI 0), .ref la, .ref ma, .ref it, .ref rl, .ref fr, .ref li, .ref wa, .ref ld, .int ac, .ref tp, .int tn, .int cu, .int sr, .int tk, .int va, .int ft, .int fA, .int lt, .ref so, .ref ik, .ref kp, .ref kl, .ref tc, .int tt]) := by rw [fx_up_up]
      have h2_la : (fx_up f mo (oO 11 [.int (nI 0), .int (nI 0), .ref la, .ref ma, .ref it, .ref rl, .ref fr, .ref li, .ref wa, .ref ld, .int ac, .ref tp, .int tn, .int cu, .int sr, .int tk, .int va, .int ft, .int fA, .int lt, .ref so, .ref ik, .ref kp, .ref kl, .ref tc, .int tt])) la = some (oI 8 gla) := (congrFun heq2 la).symm.trans ((fx_up_n _ _ (fx_ne h1_la h1_mo rfl)).trans h1_la)
      have h2_ma : (fx_up f mo (oO 11 [.int (nI 0), .int (nI 0), .ref la, .ref ma, .ref it, .ref rl, .ref fr, .ref li, .ref wa, .ref ld, .int ac, .ref tp, .int tn, .int cu, .int sr, .int tk, .int va, .int ft, .int fA, .int lt, .ref so, .ref ik, .ref kp, .ref kl, .ref tc, .int tt])) ma = some (oI 8 gma) := (congrFun heq2 ma).symm.trans ((fx_up_n _ _ (fx_ne h1_ma h1_mo rfl)).trans h1_ma)
      have h2_it : (fx_up f mo (oO 11 [.int (nI 0), .int (nI 0), .ref la, .ref ma, .ref it, .ref rl, .ref fr, .ref li, .ref wa, .ref ld, .int ac, .ref tp, .int tn, .int cu, .int sr, .int tk, .int va, .int ft, .int fA, .int lt, .ref so, .ref ik, .ref kp, .ref kl, .ref tc, .int tt])) it = some (oI 320 git) := (congrFun heq2 it).symm.trans ((fx_up_n _ _ (fx_ne h1_it h1_mo rfl)).trans h1_it)
      have h2_mo : (fx_up f mo (oO 11 [.int (nI 0), .int (nI 0), .ref la, .ref ma, .ref it, .ref rl, .ref fr, .ref li, .ref wa, .ref ld, .int ac, .ref tp, .int tn, .int cu, .int sr, .int tk, .int va, .int ft, .int fA, .int lt, .ref so, .ref ik, .ref kp, .ref kl, .ref tc, .int tt])) mo = some (oO 11 [.int (nI 0), .int (nI 0), .ref la, .ref ma, .ref it, .ref rl, .ref fr, .ref li, .ref wa, .ref ld, .int ac, .ref tp, .int tn, .int cu, .int sr, .int tk, .int va, .int ft, .int fA, .int lt, .ref so, .ref ik, .ref kp, .ref kl, .ref tc, .int tt]) := (congrFun heq2 mo).symm.trans (fx_up_s _ _ _)
      refine lv_iload_n hx hb dX12_row_38 rfl (lv_at hl 3 rfl) ?_
      refine lv_if_ge hx hb (tgt := 48) dX12_row_39 (by decide) (fun c39 => ?_) (fun c39 => ?_)
      · refine lv_aload_n hx hb dX12_row_48 rfl (lv_at hl 0 rfl) ?_
        refine fx_get C hH (k := 2) (v := .ref la) h2_mo ff_X12_7_11 rfl dX12_row_49 ?_
        refine lv_iload_n hx hb dX12_row_52 rfl (lv_at hl 1 rfl) ?_
        refine lv_iload_n hx hb dX12_row_53 rfl (lv_at hl 2 rfl) ?_
        refine fx_iastN C hH h2_la (by omega) (by omega) dX12_row_54 (fun H locs hH => ?_)
        have hH : fx_H G base s (fx_up (fx_up f mo (oO 11 [.int (nI 0), .int (nI 0), .ref la, .ref ma, .ref it, .ref rl, .ref fr, .ref li, .ref wa, .ref ld, .int ac, .ref tp, .int tn, .int cu, .int sr, .int tk, .int va, .int ft, .int fA, .int lt, .ref so, .ref ik, .ref kp, .ref kl, .ref tc, .int tt])) la (oI 8 (upd gla kk ln))) sz H locs := hH
        have h3_ma : (fx_up (fx_up f mo (oO 11 [.int (nI 0), .int (nI 0), .ref la, .ref ma, .ref it, .ref rl, .ref fr, .ref li, .ref wa, .ref ld, .int ac, .ref tp, .int tn, .int cu, .int sr, .int tk, .int va, .int ft, .int fA, .int lt, .ref so, .ref ik, .ref kp, .ref kl, .ref tc, .int tt])) la (oI 8 (upd gla kk ln))) ma = some (oI 8 gma) := (fx_up_n _ _ (Ne.symm hne_0)).trans h2_ma
        have h3_it : (fx_up (fx_up f mo (oO 11 [.int (nI 0), .int (nI 0), .ref la, .ref ma, .ref it, .ref rl, .ref fr, .ref li, .ref wa, .ref ld, .int ac, .ref tp, .int tn, .int cu, .int sr, .int tk, .int va, .int ft, .int fA, .int lt, .ref so, .ref ik, .ref kp, .ref kl, .ref tc, .int tt])) la (oI 8 (upd gla kk ln))) it = some (oI 320 git) := (fx_up_n _ _ (Ne.symm hne_1)).trans h2_it
        have h3_mo : (fx_up (fx_up f mo (oO 11 [.int (nI 0), .int (nI 0), .ref la, .ref ma, .ref it, .ref rl, .ref fr, .ref li, .ref wa, .ref ld, .int ac, .ref tp, .int tn, .int cu, .int sr, .int tk, .int va, .int ft, .int fA, .int lt, .ref so, .ref ik, .ref kp, .ref kl, .ref tc, .int tt])) la (oI 8 (upd gla kk ln))) mo = some (oO 11 [.int (nI 0), .int (nI 0), .ref la, .ref ma, .ref it, .ref rl, .ref fr, .ref li, .ref wa, .ref ld, .int ac, .ref tp, .int tn, .int cu, .int sr, .int tk, .int va, .int ft, .int fA, .int lt, .ref so, .ref ik, .ref kp, .ref kl, .ref tc, .int tt]) := (fx_up_n _ _ (fx_ne h2_mo h2_la rfl)).trans h2_mo
        have h3_la : (fx_up (fx_up f mo (oO 11 [.int (nI 0), .int (nI 0), .ref la, .ref ma, .ref it, .ref rl, .ref fr, .ref li, .ref wa, .ref ld, .int ac, .ref tp, .int tn, .int cu, .int sr, .int tk, .int va, .int ft, .int fA, .int lt, .ref so, .ref ik, .ref kp, .ref kl, .ref tc, .int tt])) la (oI 8 (upd gla kk ln))) la = some (oI 8 (upd gla kk ln)) := fx_up_s _ _ _
        refine lv_aload_n hx hb dX12_row_55 rfl (lv_at hl 0 rfl) ?_
        refine fx_get C hH (k := 3) (v := .ref ma) h3_mo ff_X12_13_11 rfl dX12_row_56 ?_
        refine lv_iload_n hx hb dX12_row_59 rfl (lv_at hl 1 rfl) ?_
        refine lv_iload_n hx hb dX12_row_60 rfl (lv_at hl 3 rfl) ?_
        refine fx_iastN C hH h3_ma (by omega) (by omega) dX12_row_61 (fun H locs hH => ?_)
        have hH : fx_H G base s (fx_up (fx_up (fx_up f mo (oO 11 [.int (nI 0), .int (nI 0), .ref la, .ref ma, .ref it, .ref rl, .ref fr, .ref li, .ref wa, .ref ld, .int ac, .ref tp, .int tn, .int cu, .int sr, .int tk, .int va, .int ft, .int fA, .int lt, .ref so, .ref ik, .ref kp, .ref kl, .ref tc, .int tt])) la (oI 8 (upd gla kk ln))) ma (oI 8 (upd gma kk n))) sz H locs := hH
        have h4_it : (fx_up (fx_up (fx_up f mo (oO 11 [.int (nI 0), .int (nI 0), .ref la, .ref ma, .ref it, .ref rl, .ref fr, .ref li, .ref wa, .ref ld, .int ac, .ref tp, .int tn, .int cu, .int sr, .int tk, .int va, .int ft, .int fA, .int lt, .ref so, .ref ik, .ref kp, .ref kl, .ref tc, .int tt])) la (oI 8 (upd gla kk ln))) ma (oI 8 (upd gma kk n))) it = some (oI 320 git) := (fx_up_n _ _ (Ne.symm hne_2)).trans h3_it
        have h4_mo : (fx_up (fx_up (fx_up f mo (oO 11 [.int (nI 0), .int (nI 0), .ref la, .ref ma, .ref it, .ref rl, .ref fr, .ref li, .ref wa, .ref ld, .int ac, .ref tp, .int tn, .int cu, .int sr, .int tk, .int va, .int ft, .int fA, .int lt, .ref so, .ref ik, .ref kp, .ref kl, .ref tc, .int tt])) la (oI 8 (upd gla kk ln))) ma (oI 8 (upd gma kk n))) mo = some (oO 11 [.int (nI 0), .int (nI 0), .ref la, .ref ma, .ref it, .ref rl, .ref fr, .ref li, .ref wa, .ref ld, .int ac, .ref tp, .int tn, .int cu, .int sr, .int tk, .int va, .int ft, .int fA, .int lt, .ref so, .ref ik, .ref kp, .ref kl, .ref tc, .int tt]) := (fx_up_n _ _ (fx_ne h3_mo h3_ma rfl)).trans h3_mo
        have h4_la : (fx_up (fx_up (fx_up f mo (oO 11 [.int (nI 0), .int (nI 0), .ref la, .ref ma, .ref it, .ref rl, .ref fr, .ref li, .ref wa, .ref ld, .int ac, .ref tp, .int tn, .int cu, .int sr, .int tk, .int va, .int ft, .int fA, .int lt, .ref so, .ref ik, .ref kp, .ref kl, .ref tc, .int tt])) la (oI 8 (upd gla kk ln))) ma (oI 8 (upd gma kk n))) la = some (oI 8 (upd gla kk ln)) := (fx_up_n _ _ hne_0).trans h3_la
        have h4_ma : (fx_up (fx_up (fx_up f mo (oO 11 [.int (nI 0), .int (nI 0), .ref la, .ref ma, .ref it, .ref rl, .ref fr, .ref li, .ref wa, .ref ld, .int ac, .ref tp, .int tn, .int cu, .int sr, .int tk, .int va, .int ft, .int fA, .int lt, .ref so, .ref ik, .ref kp, .ref kl, .ref tc, .int tt])) la (oI 8 (upd gla kk ln))) ma (oI 8 (upd gma kk n))) ma = some (oI 8 (upd gma kk n)) := fx_up_s _ _ _
        refine lv_iconst (v := nI 0) hx hb dX12_row_62 (by decide) ?_
        refine lv_istore (lv' := [(4, .int (nI 0)), (0, .ref mo), (1, .int (nI kk)), (2, .int ln), (3, .int n)]) hx hb dX12_row_63 hl (by decide) rfl (fun ls hl => ?_)
        have loop_65 : ∀ (N_65 : Nat) (i1 : Nat) (hi1 : i1 ≤ 40) (hm_65 : 40 - i1 < N_65) (H : Heap) (locs : List Loc) (hH : fx_H G base s (fx_up (fx_up (fx_up (fx_up f mo (oO 11 [.int (nI 0), .int (nI 0), .ref la, .ref ma, .ref it, .ref rl, .ref fr, .ref li, .ref wa, .ref ld, .int ac, .ref tp, .int tn, .int cu, .int sr, .int tk, .int va, .int ft, .int fA, .int lt, .ref so, .ref ik, .ref kp, .ref kl, .ref tc, .int tt])) la (oI 8 (upd gla kk ln))) ma (oI 8 (upd gma kk n))) it (oI 320 (fI git (40 * kk) (fun _ => nI 0) i1))) sz H locs) (ls : Array Slot) (hl : lv_has ls 5 [(0, .ref mo), (1, .int (nI kk)), (2, .int ln), (3, .int n), (4, .int (nI i1))]), W p l e rm_X12_row s m args below meth c H locs 0 0 (MQ below (fx_QP G base Po) args s rm_X12_row.cells rm_X12_row.slots (fun q => base ≤ q)) (F0 m 65 ls []) := by
          intro N_65
          induction N_65 with
          | zero => intro i1 hi1 hm_65; exact absurd hm_65 (Nat.not_lt_zero _)
          | succ N_65 ih_65 =>
            intro i1 hi1 hm_65 H locs hH ls hl
            have h5_it : (fx_up (fx_up (fx_up (fx_up f mo (oO 11 [.int (nI 0), .int (nI 0), .ref la, .ref ma, .ref it, .ref rl, .ref fr, .ref li, .ref wa, .ref ld, .int ac, .ref tp, .int tn, .int cu, .int sr, .int tk, .int va, .int ft, .int fA, .int lt, .ref so, .ref ik, .ref kp, .ref kl, .ref tc, .int tt])) la (oI 8 (upd gla kk ln))) ma (oI 8 (upd gma kk n))) it (oI 320 (fI git (40 * kk) (fun _ => nI 0) i1))) it = some (oI 320 (fI git (40 * kk) (fun _ => nI 0) i1)) := fx_up_s _ _ _
            have h5_mo : (fx_up (fx_up (fx_up (fx_up f mo (oO 11 [.int (nI 0), .int (nI 0), .ref la, .ref ma, .ref it, .ref rl, .ref fr, .ref li, .ref wa, .ref ld, .int ac, .ref tp, .int tn, .int cu, .int sr, .int tk, .int va, .int ft, .int fA, .int lt, .ref so, .ref ik, .ref kp, .ref kl, .ref tc, .int tt])) la (oI 8 (upd gla kk ln))) ma (oI 8 (upd gma kk n))) it (oI 320 (fI git (40 * kk) (fun _ => nI 0) i1))) mo = some (oO 11 [.int (nI 0), .int (nI 0), .ref la, .ref ma, .ref it, .ref rl, .ref fr, .ref li, .ref wa, .ref ld, .int ac, .ref tp, .int tn, .int cu, .int sr, .int tk, .int va, .int ft, .int fA, .int lt, .ref so, .ref ik, .ref kp, .ref kl, .ref tc, .int tt]) := (fx_up_n _ _ (fx_ne h4_mo h4_it rfl)).trans ((fx_up_n _ _ (fx_ne h4_mo h4_ma rfl)).trans ((fx_up_n _ _ (fx_ne h4_mo h4_la rfl)).trans (fx_up_s _ _ _)))
            have h5_la : (fx_up (fx_up (fx_up (fx_up f mo (oO 11 [.int (nI 0), .int (nI 0), .ref la, .ref ma, .ref it, .ref rl, .ref fr, .ref li, .ref wa, .ref ld, .int ac, .ref tp, .int tn, .int cu, .int sr, .int tk, .int va, .int ft, .int fA, .int lt, .ref so, .ref ik, .ref kp, .ref kl, .ref tc, .int tt])) la (oI 8 (upd gla kk ln))) ma (oI 8 (upd gma kk n))) it (oI 320 (fI git (40 * kk) (fun _ => nI 0) i1))) la = some (oI 8 (upd gla kk ln)) := (fx_up_n _ _ hne_1).trans ((fx_up_n _ _ hne_0).trans (fx_up_s _ _ _))
            have h5_ma : (fx_up (fx_up (fx_up (fx_up f mo (oO 11 [.int (nI 0), .int (nI 0), .ref la, .ref ma, .ref it, .ref rl, .ref fr, .ref li, .ref wa, .ref ld, .int ac, .ref tp, .int tn, .int cu, .int sr, .int tk, .int va, .int ft, .int fA, .int lt, .ref so, .ref ik, .ref kp, .ref kl, .ref tc, .int tt])) la (oI 8 (upd gla kk ln))) ma (oI 8 (upd gma kk n))) it (oI 320 (fI git (40 * kk) (fun _ => nI 0) i1))) ma = some (oI 8 (upd gma kk n)) := (fx_up_n _ _ hne_2).trans (fx_up_s _ _ _)
            refine lv_iload hx hb dX12_row_65 (lv_at hl 4 rfl) ?_
            refine lv_bipush (v := nI 40) hx hb dX12_row_67 (by decide) ?_
            refine fx_N_ge (a := i1) (b := 40) hx hb (by omega) (by omega) (tgt := 91) dX12_row_69 (by decide) (fun c69 => ?_) (fun c69 => ?_)
            · refine lv_iload_n hx hb dX12_row_91 rfl (lv_at hl 3 rfl) ?_
              exact fx_iretP C hr hk hH (K2 c21 c27 c39 i1 hi1 c69) (Nat.zero_le _) (Nat.zero_le _) dX12_row_92
            · refine lv_aload_n hx hb dX12_row_72 rfl (lv_at hl 0 rfl) ?_
              refine fx_get C hH (k := 4) (v := .ref it) h5_mo ff_X12_16_11 rfl dX12_row_73 ?_
              refine lv_bipush (v := nI 40) hx hb dX12_row_76 (by decide) ?_
              refine lv_iload_n hx hb dX12_row_78 rfl (lv_at hl 1 rfl) ?_
              refine lv_imul hx hb dX12_row_79 ?_
              refine fx_ti (y := nI (40 * kk)) (pk_mul _ _) ?_
              refine lv_iload hx hb dX12_row_80 (lv_at hl 4 rfl) ?_
              refine lv_iadd hx hb dX12_row_82 ?_
              refine fx_ti (y := nI (40 * kk + i1)) (nI_add _ _) ?_
              refine lv_iconst (v := nI 0) hx hb dX12_row_83 (by decide) ?_
              refine fx_iastN C hH h5_it (by omega) (by omega) dX12_row_84 (fun H locs hH => ?_)
              have hH : fx_H G base s (fx_up (fx_up (fx_up (fx_up (fx_up f mo (oO 11 [.int (nI 0), .int (nI 0), .ref la, .ref ma, .ref it, .ref rl, .ref fr, .ref li, .ref wa, .ref ld, .int ac, .ref tp, .int tn, .int cu, .int sr, .int tk, .int va, .int ft, .int fA, .int lt, .ref so, .ref ik, .ref kp, .ref kl, .ref tc, .int tt])) la (oI 8 (upd gla kk ln))) ma (oI 8 (upd gma kk n))) it (oI 320 (fI git (40 * kk) (fun _ => nI 0) i1))) it (oI 320 (upd (fI git (40 * kk) (fun _ => nI 0) i1) (40 * kk + i1) (nI 0)))) sz H locs := hH
              rw [fx_up_up] at hH
              have hH : fx_H G base s (fx_up (fx_up (fx_up (fx_up f mo (oO 11 [.int (nI 0), .int (nI 0), .ref la, .ref ma, .ref it, .ref rl, .ref fr, .ref li, .ref wa, .ref ld, .int ac, .ref tp, .int tn, .int cu, .int sr, .int tk, .int va, .int ft, .int fA, .int lt, .ref so, .ref ik, .ref kp, .ref kl, .ref tc, .int tt])) la (oI 8 (upd gla kk ln))) ma (oI 8 (upd gma kk n))) it (oI 320 (upd (fI git (40 * kk) (fun _ => nI 0) i1) (40 * kk + i1) (nI 0)))) sz H locs := hH
              have heq6 : fx_up (fx_up (fx_up (fx_up (fx_up f mo (oO 11 [.int (nI 0), .int (nI 0), .ref la, .ref ma, .ref it, .ref rl, .ref fr, .ref li, .ref wa, .ref ld, .int ac, .ref tp, .int tn, .int cu, .int sr, .int tk, .int va, .int ft, .int fA, .int lt, .ref so, .ref ik, .ref kp, .ref kl, .ref tc, .int tt])) la (oI 8 (upd gla kk ln))) ma (oI 8 (upd gma kk n))) it (oI 320 (fI git (40 * kk) (fun _ => nI 0) i1))) it (oI 320 (upd (fI git (40 * kk) (fun _ => nI 0) i1) (40 * kk + i1) (nI 0))) = fx_up (fx_up (fx_up (fx_up f mo (oO 11 [.int (nI 0), .int (nI 0), .ref la, .ref ma, .ref it, .ref rl, .ref fr, .ref li, .ref wa, .ref ld, .int ac, .ref tp, .int tn, .int cu, .int sr, .int tk, .int va, .int ft, .int fA, .int lt, .ref so, .ref ik, .ref kp, .ref kl, .ref tc, .int tt])) la (oI 8 (upd gla kk ln))) ma (oI 8 (upd gma kk n))) it (oI 320 (upd (fI git (40 * kk) (fun _ => nI 0) i1) (40 * kk + i1) (nI 0))) := by rw [fx_up_up]
              have h6_mo : (fx_up (fx_up (fx_up (fx_up f mo (oO 11 [.int (nI 0), .int (nI 0), .ref la, .ref ma, .ref it, .ref rl, .ref fr, .ref li, .ref wa, .ref ld, .int ac, .ref tp, .int tn, .int cu, .int sr, .int tk, .int va, .int ft, .int fA, .int lt, .ref so, .ref ik, .ref kp, .ref kl, .ref tc, .int tt])) la (oI 8 (upd gla kk ln))) ma (oI 8 (upd gma kk n))) it (oI 320 (upd (fI git (40 * kk) (fun _ => nI 0) i1) (40 * kk + i1) (nI 0)))) mo = some (oO 11 [.int (nI 0), .int (nI 0), .ref la, .ref ma, .ref it, .ref rl, .ref fr, .ref li, .ref wa, .ref ld, .int ac, .ref tp, .int tn, .int cu, .int sr, .int tk, .int va, .int ft, .int fA, .int lt, .ref so, .ref ik, .ref kp, .ref kl, .ref tc, .int tt]) := (congrFun heq6 mo).symm.trans ((fx_up_n _ _ (fx_ne h5_mo h5_it rfl)).trans h5_mo)
              have h6_la : (fx_up (fx_up (fx_up (fx_up f mo (oO 11 [.int (nI 0), .int (nI 0), .ref la, .ref ma, .ref it, .ref rl, .ref fr, .ref li, .ref wa, .ref ld, .int ac, .ref tp, .int tn, .int cu, .int sr, .int tk, .int va, .int ft, .int fA, .int lt, .ref so, .ref ik, .ref kp, .ref kl, .ref tc, .int tt])) la (oI 8 (upd gla kk ln))) ma (oI 8 (upd gma kk n))) it (oI 320 (upd (fI git (40 * kk) (fun _ => nI 0) i1) (40 * kk + i1) (nI 0)))) la = some (oI 8 (upd gla kk ln)) := (congrFun heq6 la).symm.trans ((fx_up_n _ _ hne_1).trans h5_la)
              have h6_ma : (fx_up (fx_up (fx_up (fx_up f mo (oO 11 [.int (nI 0), .int (nI 0), .ref la, .ref ma, .ref it, .ref rl, .ref fr, .ref li, .ref wa, .ref ld, .int ac, .ref tp, .int tn, .int cu, .int sr, .int tk, .int va, .int ft, .int fA, .int lt, .ref so, .ref ik, .ref kp, .ref kl, .ref tc, .int tt])) la (oI 8 (upd gla kk ln))) ma (oI 8 (upd gma kk n))) it (oI 320 (upd (fI git (40 * kk) (fun _ => nI 0) i1) (40 * kk + i1) (nI 0)))) ma = some (oI 8 (upd gma kk n)) := (congrFun heq6 ma).symm.trans ((fx_up_n _ _ hne_2).trans h5_ma)
              have h6_it : (fx_up (fx_up (fx_up (fx_up f mo (oO 11 [.int (nI 0), .int (nI 0), .ref la, .ref ma, .ref it, .ref rl, .ref fr, .ref li, .ref wa, .ref ld, .int ac, .ref tp, .int tn, .int cu, .int sr, .int tk, .int va, .int ft, .int fA, .int lt, .ref so, .ref ik, .ref kp, .ref kl, .ref tc, .int tt])) la (oI 8 (upd gla kk ln))) ma (oI 8 (upd gma kk n))) it (oI 320 (upd (fI git (40 * kk) (fun _ => nI 0) i1) (40 * kk + i1) (nI 0)))) it = some (oI 320 (upd (fI git (40 * kk) (fun _ => nI 0) i1) (40 * kk + i1) (nI 0))) := (congrFun heq6 it).symm.trans (fx_up_s _ _ _)
              refine lv_iinc (v := nI (i1 + 1)) (lv' := [(4, .int (nI (i1 + 1))), (0, .ref mo), (1, .int (nI kk)), (2, .int ln), (3, .int n)]) hx hb dX12_row_85 hl (k := 4) rfl (nI_1 _) (by decide) rfl (fun ls hl => ?_)
              refine lv_goto (tgt := 65) hx hb dX12_row_88 (by decide) ?_
              have hl : lv_has ls 5 [(0, .ref mo), (1, .int (nI kk)), (2, .int ln), (3, .int n), (4, .int (nI (i1 + 1)))] := lv_sub hl [1, 2, 3, 4, 0] rfl
              have hH : fx_H G base s (fx_up (fx_up (fx_up (fx_up f mo (oO 11 [.int (nI 0), .int (nI 0), .ref la, .ref ma, .ref it, .ref rl, .ref fr, .ref li, .ref wa, .ref ld, .int ac, .ref tp, .int tn, .int cu, .int sr, .int tk, .int va, .int ft, .int fA, .int lt, .ref so, .ref ik, .ref kp, .ref kl, .ref tc, .int tt])) la (oI 8 (upd gla kk ln))) ma (oI 8 (upd gma kk n))) it (oI 320 (fI git (40 * kk) (fun _ => nI 0) (i1 + 1)))) sz H locs := (by rw [fI]; exact hH)
              exact ih_65 (i1 + 1) (by omega) (by omega) _ _ hH _ hl
        have hl : lv_has ls 5 [(0, .ref mo), (1, .int (nI kk)), (2, .int ln), (3, .int n), (4, .int (nI 0))] := lv_sub hl [1, 2, 3, 4, 0] rfl
        have hH : fx_H G base s (fx_up (fx_up (fx_up (fx_up f mo (oO 11 [.int (nI 0), .int (nI 0), .ref la, .ref ma, .ref it, .ref rl, .ref fr, .ref li, .ref wa, .ref ld, .int ac, .ref tp, .int tn, .int cu, .int sr, .int tk, .int va, .int ft, .int fA, .int lt, .ref so, .ref ik, .ref kp, .ref kl, .ref tc, .int tt])) la (oI 8 (upd gla kk ln))) ma (oI 8 (upd gma kk n))) it (oI 320 (fI git (40 * kk) (fun _ => nI 0) 0))) sz H locs := (by rw [fx_up_id (show (fx_up (fx_up (fx_up f mo (oO 11 [.int (nI 0), .int (nI 0), .ref la, .ref ma, .ref it, .ref rl, .ref fr, .ref li, .ref wa, .ref ld, .int ac, .ref tp, .int tn, .int cu, .int sr, .int tk, .int va, .int ft, .int fA, .int lt, .ref so, .ref ik, .ref kp, .ref kl, .ref tc, .int tt])) la (oI 8 (upd gla kk ln))) ma (oI 8 (upd gma kk n))) it = some (oI 320 (fI git (40 * kk) (fun _ => nI 0) 0)) from h4_it)]; exact hH)
        exact loop_65 _ 0 (by omega) (Nat.lt_succ_self _) _ _ hH _ hl
      · refine lv_aload_n hx hb dX12_row_42 rfl (lv_at hl 0 rfl) ?_
        refine lv_iconst (v := nI 4) hx hb dX12_row_43 (by decide) ?_
        refine fx_go1 hH (fx_runV C hH hl.1 (As := [.int (nI 4)]) (rest := []) (c_X12_finding (G := G) (base := base) (l := l) (f := fx_up f mo (oO 11 [.int (nI 0), .int (nI 0), .ref la, .ref ma, .ref it, .ref rl, .ref fr, .ref li, .ref wa, .ref ld, .int ac, .ref tp, .int tn, .int cu, .int sr, .int tk, .int va, .int ft, .int fA, .int lt, .ref so, .ref ik, .ref kp, .ref kl, .ref tc, .int tt])) (sz := sz) (mo := mo) (nn := nI 4) (th := nI 0) (sa := nI 0) (la := la) (ma := ma) (it := it) (rl := rl) (fr := fr) (li := li) (wa := wa) (ld := ld) (ac := ac) (tp := tp) (tn := tn) (cu := cu) (sr := sr) (tk := tk) (va := va) (ft := ft) (fA := fA) (lt := lt) (so := so) (ik := ik) (kp := kp) (kl := kl) (tc := tc) (tt := tt) h2_mo) mY_X12_finding ml_X12_75 im_X12_finding se_X12_X12_finding h2_mo rfl rfl ⟨(Nat.le_of_ble_eq_true rfl), (Nat.le_of_ble_eq_true rfl)⟩ rfl (Nat.le_of_ble_eq_true rfl) ⟨(Nat.le_of_ble_eq_true rfl), (Nat.le_of_ble_eq_true rfl)⟩ dX12_row_44) (fun H locs hH => ?_)
        have hH : fx_H G base s (fx_up (fx_up f mo (oO 11 [.int (nI 0), .int (nI 0), .ref la, .ref ma, .ref it, .ref rl, .ref fr, .ref li, .ref wa, .ref ld, .int ac, .ref tp, .int tn, .int cu, .int sr, .int tk, .int va, .int ft, .int fA, .int lt, .ref so, .ref ik, .ref kp, .ref kl, .ref tc, .int tt])) mo (oO 11 [.int (nI 0), .int (nI 4), .ref la, .ref ma, .ref it, .ref rl, .ref fr, .ref li, .ref wa, .ref ld, .int ac, .ref tp, .int tn, .int cu, .int sr, .int tk, .int va, .int ft, .int fA, .int lt, .ref so, .ref ik, .ref kp, .ref kl, .ref tc, .int tt])) sz H locs := hH
        have heq7 : fx_up (fx_up f mo (oO 11 [.int (nI 0), .int (nI 0), .ref la, .ref ma, .ref it, .ref rl, .ref fr, .ref li, .ref wa, .ref ld, .int ac, .ref tp, .int tn, .int cu, .int sr, .int tk, .int va, .int ft, .int fA, .int lt, .ref so, .ref ik, .ref kp, .ref kl, .ref tc, .int tt])) mo (oO 11 [.int (nI 0), .int (nI 4), .ref la, .ref ma, .ref it, .ref rl, .ref fr, .ref li, .ref wa, .ref ld, .int ac, .ref tp, .int tn, .int cu, .int sr, .int tk, .int va, .int ft, .int fA, .int lt, .ref so, .ref ik, .ref kp, .ref kl, .ref tc, .int tt]) = fx_up f mo (oO 11 [.int (nI 0), .int (nI 4), .ref la, .ref ma, .ref it, .ref rl, .ref fr, .ref li, .ref wa, .ref ld, .int ac, .ref tp, .int tn, .int cu, .int sr, .int tk, .int va, .int ft, .int fA, .int lt, .ref so, .ref ik, .ref kp, .ref kl, .ref tc, .int tt]) := by rw [fx_up_up]
        rw [heq7] at hH
        have h7_la : (fx_up f mo (oO 11 [.int (nI 0), .int (nI 4), .ref la, .ref ma, .ref it, .ref rl, .ref fr, .ref li, .ref wa, .ref ld, .int ac, .ref tp, .int tn, .int cu, .int sr, .int tk, .int va, .int ft, .int fA, .int lt, .ref so, .ref ik, .ref kp, .ref kl, .ref tc, .int tt])) la = some (oI 8 gla) := (congrFun heq7 la).symm.trans ((fx_up_n _ _ (fx_ne h2_la h2_mo rfl)).trans h2_la)
        have h7_ma : (fx_up f mo (oO 11 [.int (nI 0), .int (nI 4), .ref la, .ref ma, .ref it, .ref rl, .ref fr, .ref li, .ref wa, .ref ld, .int ac, .ref tp, .int tn, .int cu, .int sr, .int tk, .int va, .int ft, .int fA, .int lt, .ref so, .ref ik, .ref kp, .ref kl, .ref tc, .int tt])) ma = some (oI 8 gma) := (congrFun heq7 ma).symm.trans ((fx_up_n _ _ (fx_ne h2_ma h2_mo rfl)).trans h2_ma)
        have h7_it : (fx_up f mo (oO 11 [.int (nI 0), .int (nI 4), .ref la, .ref ma, .ref it, .ref rl, .ref fr, .ref li, .ref wa, .ref ld, .int ac, .ref tp, .int tn, .int cu, .int sr, .int tk, .int va, .int ft, .int fA, .int lt, .ref so, .ref ik, .ref kp, .ref kl, .ref tc, .int tt])) it = some (oI 320 git) := (congrFun heq7 it).symm.trans ((fx_up_n _ _ (fx_ne h2_it h2_mo rfl)).trans h2_it)
        have h7_mo : (fx_up f mo (oO 11 [.int (nI 0), .int (nI 4), .ref la, .ref ma, .ref it, .ref rl, .ref fr, .ref li, .ref wa, .ref ld, .int ac, .ref tp, .int tn, .int cu, .int sr, .int tk, .int va, .int ft, .int fA, .int lt, .ref so, .ref ik, .ref kp, .ref kl, .ref tc, .int tt])) mo = some (oO 11 [.int (nI 0), .int (nI 4), .ref la, .ref ma, .ref it, .ref rl, .ref fr, .ref li, .ref wa, .ref ld, .int ac, .ref tp, .int tn, .int cu, .int sr, .int tk, .int va, .int ft, .int fA, .int lt, .ref so, .ref ik, .ref kp, .ref kl, .ref tc, .int tt]) := (congrFun heq7 mo).symm.trans (fx_up_s _ _ _)
        have hH : fx_H G base s (fx_up f mo (oO 11 [.int (nI 0), .int (nI 4), .ref la, .ref ma, .ref it, .ref rl, .ref fr, .ref li, .ref wa, .ref ld, .int ac, .ref tp, .int tn, .int cu, .int sr, .int tk, .int va, .int ft, .int fA, .int lt, .ref so, .ref ik, .ref kp, .ref kl, .ref tc, .int tt])) sz H locs := hH
        exact fx_iretP C hr hk hH (K3 c21 c27 c39) (Nat.zero_le _) (Nat.zero_le _) dX12_row_47
    · refine lv_ldc (v := (-1000001)) hx hb C.2.2.2.1 (C.2.2.2.2.1 _ kI_X12_74 rfl args) dX12_row_30 ?_
      exact fx_iretP C hr hk hH (K4 c21 c27) (Nat.zero_le _) (Nat.zero_le _) dX12_row_32
abbrev rm_X12_set : Room := { frames := 2, cells := 0, slots := 0, locals := 45 }
set_option maxHeartbeats 4000000 in
set_option maxRecDepth 100000 in
theorem c_X12_set_n {G : GG} {base : Nat} {l : Launch} {f : Hp} {sz : Nat} {Po : Option Value → Hp → Nat → Prop} {mo : Nat} {r : Int32} {i : Int32} {v : Int32} {th : Int32} {sa : Int32} {la : Nat} {ma : Nat} {it : Nat} {rl : Nat} {fr : Nat} {li : Nat} {wa : Nat} {ld : Nat} {ac : Int32} {tp : Nat} {tn : Int32} {cu : Int32} {sr : Int32} {tk : Int32} {va : Int32} {ft : Int32} {fA : Int32} {lt : Int32} {so : Nat} {ik : Nat} {kp : Nat} {kl : Nat} {tc : Nat} {tt : Int32} (h_mo : f mo = some (oO 11 [.int th, .int sa, .ref la, .ref ma, .ref it, .ref rl, .ref fr, .ref li, .ref wa, .ref ld, .int ac, .ref tp, .int tn, .int cu, .int sr, .int tk, .int va, .int ft, .int fA, .int lt, .ref so, .ref ik, .ref kp, .ref kl, .ref tc, .int tt])) (hr0 : ¬ (¬ r < nI 0 ∧ ¬ nI 7 < r)) (K1 : Po (some (.int (-1000001))) (fx_up f mo (oO 11 [.int (nI 0), .int sa, .ref la, .ref ma, .ref it, .ref rl, .ref fr, .ref li, .ref wa, .ref ld, .int ac, .ref tp, .int tn, .int cu, .int sr, .int tk, .int va, .int ft, .int fA, .int lt, .ref so, .ref ik, .ref kp, .ref kl, .ref tc, .int tt])) sz) : fx_MP G base l yX12_set cX12_set 4 (some .int) rm_X12_set [.ref mo, .int r, .int i, .int v] f sz Po := by
  refine fx_ofP (by decide +kernel) (Nat.le_of_ble_eq_true rfl) ?_
  intro p e s m args below meth c C hr hk hnm hH ls hl
  obtain ⟨locs, hlocs⟩ : ∃ L : List Loc, L = [] := ⟨_, rfl⟩
  rw [← hlocs] at hH ⊢
  generalize s.heap = H at hH ⊢
  have hx := C.1
  have hb := C.2.1
  have hl : lv_has ls 4 [(0, .ref mo), (1, .int r), (2, .int i), (3, .int v)] := hl
  refine lv_aload_n hx hb dX12_set_0 rfl (lv_at hl 0 rfl) ?_
  refine lv_iconst (v := nI 0) hx hb dX12_set_1 (by decide) ?_
  refine fx_putT C hH (k := 0) h_mo ff_X12_54_11 fL_11 fT_11_0 rfl rfl (Nat.le_of_ble_eq_true rfl) dX12_set_2 (fun H locs hH => ?_)
  have hH : fx_H G base s (fx_up f mo (oO 11 [.int (nI 0), .int sa, .ref la, .ref ma, .ref it, .ref rl, .ref fr, .ref li, .ref wa, .ref ld, .int ac, .ref tp, .int tn, .int cu, .int sr, .int tk, .int va, .int ft, .int fA, .int lt, .ref so, .ref ik, .ref kp, .ref kl, .ref tc, .int tt])) sz H locs := hH
  have h1_mo : (fx_up f mo (oO 11 [.int (nI 0), .int sa, .ref la, .ref ma, .ref it, .ref rl, .ref fr, .ref li, .ref wa, .ref ld, .int ac, .ref tp, .int tn, .int cu, .int sr, .int tk, .int va, .int ft, .int fA, .int lt, .ref so, .ref ik, .ref kp, .ref kl, .ref tc, .int tt])) mo = some (oO 11 [.int (nI 0), .int sa, .ref la, .ref ma, .ref it, .ref rl, .ref fr, .ref li, .ref wa, .ref ld, .int ac, .ref tp, .int tn, .int cu, .int sr, .int tk, .int va, .int ft, .int fA, .int lt, .ref so, .ref ik, .ref kp, .ref kl, .ref tc, .int tt]) := fx_up_s _ _ _
  refine lv_iload_n hx hb dX12_set_5 rfl (lv_at hl 1 rfl) ?_
  refine fx_go1 hH (fx_runS C hH hl.1 (As := [.int r]) (rest := []) (c_X12_isRow (G := G) (base := base) (l := l) (f := fx_up f mo (oO 11 [.int (nI 0), .int sa, .ref la, .ref ma, .ref it, .ref rl, .ref fr, .ref li, .ref wa, .ref ld, .int ac, .ref tp, .int tn, .int cu, .int sr, .int tk, .int va, .int ft, .int fA, .int lt, .ref so, .ref ik, .ref kp, .ref kl, .ref tc, .int tt])) (sz := sz) (r := r) ) mY_X12_isRow ml_X12_68 st_X12_isRow rfl ⟨(Nat.le_of_ble_eq_true rfl), (Nat.le_of_ble_eq_true rfl)⟩ rfl (Nat.le_of_ble_eq_true rfl) ⟨(Nat.le_of_ble_eq_true rfl), (Nat.le_of_ble_eq_true rfl)⟩ dX12_set_6) (fun H locs hH => ?_)
  refine fx_b_ne hx hb (tgt := 15) dX12_set_9 (by decide) (fun c9 => absurd c9 (hr0)) (fun c9 => ?_)
  refine lv_ldc (v := (-1000001)) hx hb C.2.2.2.1 (C.2.2.2.2.1 _ kI_X12_74 rfl args) dX12_set_12 ?_
  exact fx_iretP C hr hk hH (K1 ) (Nat.zero_le _) (Nat.zero_le _) dX12_set_14
set_option maxHeartbeats 4000000 in
set_option maxRecDepth 100000 in
theorem c_X12_set_k {G : GG} {base : Nat} {l : Launch} {f : Hp} {sz : Nat} {Po : Option Value → Hp → Nat → Prop} {sn : Nat} {mo : Nat} {kk : Nat} {i : Int32} {v : Int32} {th : Int32} {sa : Int32} {la : Nat} {ma : Nat} {it : Nat} {rl : Nat} {fr : Nat} {li : Nat} {wa : Nat} {ld : Nat} {ac : Int32} {tp : Nat} {tn : Int32} {cu : Int32} {sr : Int32} {tk : Int32} {va : Int32} {ft : Int32} {fA : Int32} {lt : Int32} {so : Nat} {ik : Nat} {kp : Nat} {kl : Nat} {tc : Nat} {tt : Int32} {gla : Nat → Int32} {gma : Nat → Int32} {git : Nat → Int32} (h_mo : f mo = some (oO 11 [.int th, .int sa, .ref la, .ref ma, .ref it, .ref rl, .ref fr, .ref li, .ref wa, .ref ld, .int ac, .ref tp, .int tn, .int cu, .int sr, .int tk, .int va, .int ft, .int fA, .int lt, .ref so, .ref ik, .ref kp, .ref kl, .ref tc, .int tt])) (h_la : f la = some (oI 8 gla)) (h_ma : f ma = some (oI 8 gma)) (h_it : f it = some (oI 320 git)) (hne_0 : la ≠ ma) (hne_1 : la ≠ it) (hne_2 : ma ≠ it) (hkk : kk < 8) (hgm : gma kk = nI sn) (hsn : sn ≤ 40) (K1 : ∀ (c26 : (0 : Int32) ≤ (gla kk)), ∀ (c50 : (¬ i < nI 0 ∧ ¬ ((nI sn) - (nI 1)) < i)), ∀ (ix : Nat), ∀ (hix : ix < sn), ∀ (hie : i = nI ix), ∀ (c75 : ¬ (gla kk) = (0 : Int32)), ∀ (c90 : ¬ (gla kk) = (nI 1)), Po (some (.int (v))) (fx_up (fx_up f mo (oO 11 [.int (nI 0), .int (nI 0), .ref la, .ref ma, .ref it, .ref rl, .ref fr, .ref li, .ref wa, .ref ld, .int ac, .ref tp, .int tn, .int cu, .int sr, .int tk, .int va, .int ft, .int fA, .int lt, .ref so, .ref ik, .ref kp, .ref kl, .ref tc, .int tt])) it (oI 320 (upd git (40 * kk + ix) v))) sz)
    (K2 : ∀ (c26 : (0 : Int32) ≤ (gla kk)), ∀ (c50 : (¬ i < nI 0 ∧ ¬ ((nI sn) - (nI 1)) < i)), ∀ (ix : Nat), ∀ (hix : ix < sn), ∀ (hie : i = nI ix), ∀ (c75 : ¬ (gla kk) = (0 : Int32)), ∀ (c90 : (gla kk) = (nI 1)), Po (some (.int (v.toInt16.toInt32))) (fx_up (fx_up f mo (oO 11 [.int (nI 0), .int (nI 0), .ref la, .ref ma, .ref it, .ref rl, .ref fr, .ref li, .ref wa, .ref ld, .int ac, .ref tp, .int tn, .int cu, .int sr, .int tk, .int va, .int ft, .int fA, .int lt, .ref so, .ref ik, .ref kp, .ref kl, .ref tc, .int tt])) it (oI 320 (upd git (40 * kk + ix) v.toInt16.toInt32))) sz)
    (K3 : ∀ (c26 : (0 : Int32) ≤ (gla kk)), ∀ (c50 : (¬ i < nI 0 ∧ ¬ ((nI sn) - (nI 1)) < i)), ∀ (ix : Nat), ∀ (hix : ix < sn), ∀ (hie : i = nI ix), ∀ (c75 : (gla kk) = (0 : Int32)), Po (some (.int (v.toInt8.toInt32))) (fx_up (fx_up f mo (oO 11 [.int (nI 0), .int (nI 0), .ref la, .ref ma, .ref it, .ref rl, .ref fr, .ref li, .ref wa, .ref ld, .int ac, .ref tp, .int tn, .int cu, .int sr, .int tk, .int va, .int ft, .int fA, .int lt, .ref so, .ref ik, .ref kp, .ref kl, .ref tc, .int tt])) it (oI 320 (upd git (40 * kk + ix) v.toInt8.toInt32))) sz)
    (K4 : ∀ (c26 : (0 : Int32) ≤ (gla kk)), ∀ (c50 : ¬ (¬ i < nI 0 ∧ ¬ ((nI sn) - (nI 1)) < i)), Po (some (.int ((-1000010) - (nI 2)))) (fx_up f mo (oO 11 [.int (nI 0), .int (nI 2), .ref la, .ref ma, .ref it, .ref rl, .ref fr, .ref li, .ref wa, .ref ld, .int ac, .ref tp, .int tn, .int cu, .int sr, .int tk, .int va, .int ft, .int fA, .int lt, .ref so, .ref ik, .ref kp, .ref kl, .ref tc, .int tt])) sz)
    (K5 : ∀ (c26 : ¬ (0 : Int32) ≤ (gla kk)), Po (some (.int ((-1000010) - (nI 1)))) (fx_up f mo (oO 11 [.int (nI 0), .int (nI 1), .ref la, .ref ma, .ref it, .ref rl, .ref fr, .ref li, .ref wa, .ref ld, .int ac, .ref tp, .int tn, .int cu, .int sr, .int tk, .int va, .int ft, .int fA, .int lt, .ref so, .ref ik, .ref kp, .ref kl, .ref tc, .int tt])) sz) : fx_MP G base l yX12_set cX12_set 4 (some .int) rm_X12_set [.ref mo, .int (nI kk), .int i, .int v] f sz Po := by
  refine fx_ofP (by decide +kernel) (Nat.le_of_ble_eq_true rfl) ?_
  intro p e s m args below meth c C hr hk hnm hH ls hl
  obtain ⟨locs, hlocs⟩ : ∃ L : List Loc, L = [] := ⟨_, rfl⟩
  rw [← hlocs] at hH ⊢
  generalize s.heap = H at hH ⊢
  have hx := C.1
  have hb := C.2.1
  have hl : lv_has ls 4 [(0, .ref mo), (1, .int (nI kk)), (2, .int i), (3, .int v)] := hl
  refine lv_aload_n hx hb dX12_set_0 rfl (lv_at hl 0 rfl) ?_
  refine lv_iconst (v := nI 0) hx hb dX12_set_1 (by decide) ?_
  refine fx_putT C hH (k := 0) h_mo ff_X12_54_11 fL_11 fT_11_0 rfl rfl (Nat.le_of_ble_eq_true rfl) dX12_set_2 (fun H locs hH => ?_)
  have hH : fx_H G base s (fx_up f mo (oO 11 [.int (nI 0), .int sa, .ref la, .ref ma, .ref it, .ref rl, .ref fr, .ref li, .ref wa, .ref ld, .int ac, .ref tp, .int tn, .int cu, .int sr, .int tk, .int va, .int ft, .int fA, .int lt, .ref so, .ref ik, .ref kp, .ref kl, .ref tc, .int tt])) sz H locs := hH
  have h1_la : (fx_up f mo (oO 11 [.int (nI 0), .int sa, .ref la, .ref ma, .ref it, .ref rl, .ref fr, .ref li, .ref wa, .ref ld, .int ac, .ref tp, .int tn, .int cu, .int sr, .int tk, .int va, .int ft, .int fA, .int lt, .ref so, .ref ik, .ref kp, .ref kl, .ref tc, .int tt])) la = some (oI 8 gla) := (fx_up_n _ _ (fx_ne h_la h_mo rfl)).trans h_la
  have h1_ma : (fx_up f mo (oO 11 [.int (nI 0), .int sa, .ref la, .ref ma, .ref it, .ref rl, .ref fr, .ref li, .ref wa, .ref ld, .int ac, .ref tp, .int tn, .int cu, .int sr, .int tk, .int va, .int ft, .int fA, .int lt, .ref so, .ref ik, .ref kp, .ref kl, .ref tc, .int tt])) ma = some (oI 8 gma) := (fx_up_n _ _ (fx_ne h_ma h_mo rfl)).trans h_ma
  have h1_it : (fx_up f mo (oO 11 [.int (nI 0), .int sa, .ref la, .ref ma, .ref it, .ref rl, .ref fr, .ref li, .ref wa, .ref ld, .int ac, .ref tp, .int tn, .int cu, .int sr, .int tk, .int va, .int ft, .int fA, .int lt, .ref so, .ref ik, .ref kp, .ref kl, .ref tc, .int tt])) it = some (oI 320 git) := (fx_up_n _ _ (fx_ne h_it h_mo rfl)).trans h_it
  have h1_mo : (fx_up f mo (oO 11 [.int (nI 0), .int sa, .ref la, .ref ma, .ref it, .ref rl, .ref fr, .ref li, .ref wa, .ref ld, .int ac, .ref tp, .int tn, .int cu, .int sr, .int tk, .int va, .int ft, .int fA, .int lt, .ref so, .ref ik, .ref kp, .ref kl, .ref tc, .int tt])) mo = some (oO 11 [.int (nI 0), .int sa, .ref la, .ref ma, .ref it, .ref rl, .ref fr, .ref li, .ref wa, .ref ld, .int ac, .ref tp, .int tn, .int cu, .int sr, .int tk, .int va, .int ft, .int fA, .int lt, .ref so, .ref ik, .ref kp, .ref kl, .ref tc, .int tt]) := fx_up_s _ _ _
  refine lv_iload_n hx hb dX12_set_5 rfl (lv_at hl 1 rfl) ?_
  refine fx_go1 hH (fx_runS C hH hl.1 (As := [.int (nI kk)]) (rest := []) (c_X12_isRow (G := G) (base := base) (l := l) (f := fx_up f mo (oO 11 [.int (nI 0), .int sa, .ref la, .ref ma, .ref it, .ref rl, .ref fr, .ref li, .ref wa, .ref ld, .int ac, .ref tp, .int tn, .int cu, .int sr, .int tk, .int va, .int ft, .int fA, .int lt, .ref so, .ref ik, .ref kp, .ref kl, .ref tc, .int tt])) (sz := sz) (r := nI kk) ) mY_X12_isRow ml_X12_68 st_X12_isRow rfl ⟨(Nat.le_of_ble_eq_true rfl), (Nat.le_of_ble_eq_true rfl)⟩ rfl (Nat.le_of_ble_eq_true rfl) ⟨(Nat.le_of_ble_eq_true rfl), (Nat.le_of_ble_eq_true rfl)⟩ dX12_set_6) (fun H locs hH => ?_)
  refine fx_b_ne hx hb (tgt := 15) dX12_set_9 (by decide) (fun c9 => ?_) (fun c9 => absurd (rng1' (by omega) (by omega) (by omega)) c9)
  refine lv_aload_n hx hb dX12_set_15 rfl (lv_at hl 0 rfl) ?_
  refine lv_iconst (v := nI 0) hx hb dX12_set_16 (by decide) ?_
  refine fx_putT C hH (k := 1) h1_mo ff_X12_58_11 fL_11 fT_11_1 rfl rfl (Nat.le_of_ble_eq_true rfl) dX12_set_17 (fun H locs hH => ?_)
  have hH : fx_H G base s (fx_up (fx_up f mo (oO 11 [.int (nI 0), .int sa, .ref la, .ref ma, .ref it, .ref rl, .ref fr, .ref li, .ref wa, .ref ld, .int ac, .ref tp, .int tn, .int cu, .int sr, .int tk, .int va, .int ft, .int fA, .int lt, .ref so, .ref ik, .ref kp, .ref kl, .ref tc, .int tt])) mo (oO 11 [.int (nI 0), .int (nI 0), .ref la, .ref ma, .ref it, .ref rl, .ref fr, .ref li, .ref wa, .ref ld, .int ac, .ref tp, .int tn, .int cu, .int sr, .int tk, .int va, .int ft, .int fA, .int lt, .ref so, .ref ik, .ref kp, .ref kl, .ref tc, .int tt])) sz H locs := hH
  rw [fx_up_up] at hH
  have hH : fx_H G base s (fx_up f mo (oO 11 [.int (nI 0), .int (nI 0), .ref la, .ref ma, .ref it, .ref rl, .ref fr, .ref li, .ref wa, .ref ld, .int ac, .ref tp, .int tn, .int cu, .int sr, .int tk, .int va, .int ft, .int fA, .int lt, .ref so, .ref ik, .ref kp, .ref kl, .ref tc, .int tt])) sz H locs := hH
  have heq2 : fx_up (fx_up f mo (oO 11 [.int (nI 0), .int sa, .ref la, .ref ma, .ref it, .ref rl, .ref fr, .ref li, .ref wa, .ref ld, .int ac, .ref tp, .int tn, .int cu, .int sr, .int tk, .int va, .int ft, .int fA, .int lt, .ref so, .ref ik, .ref kp, .ref kl, .ref tc, .int tt])) mo (oO 11 [.int (nI 0), .int (nI 0), .ref la, .ref ma, .ref it, .ref rl, .ref fr, .ref li, .ref wa, .ref ld, .int ac, .ref tp, .int tn, .int cu, .int sr, .int tk, .int va, .int ft, .int fA, .int lt, .ref so, .ref ik, .ref kp, .ref kl, .ref tc, .int tt]) = fx_up f mo (oO 11 [.int (nI 0), .int (nI 0), .ref la, .ref ma, .ref it, .ref rl, .ref fr, .ref li, .ref wa, .ref ld, .int ac, .ref tp, .int tn, .int cu, .int sr, .int tk, .int va, .int ft, .int fA, .int lt, .ref so, .ref ik, .ref kp, .ref kl, .ref tc, .int tt]) := by rw [fx_up_up]
  have h2_la : (fx_up f mo (oO 11 [.int (nI 0), .int (nI 0), .ref la, .ref ma, .ref it, .ref rl, .ref fr, .ref li, .ref wa, .ref ld, .int ac, .ref tp, .int tn, .int cu, .int sr, .int tk, .int va, .int ft, .int fA, .int lt, .ref so, .ref ik, .ref kp, .ref kl, .ref tc, .int tt])) la = some (oI 8 gla) := (congrFun heq2 la).symm.trans ((fx_up_n _ _ (fx_ne h1_la h1_mo rfl)).trans h1_la)
  have h2_ma : (fx_up f mo (oO 11 [.int (nI 0), .int (nI 0), .ref la, .ref ma, .ref it, .ref rl, .ref fr, .ref li, .ref wa, .ref ld, .int ac, .ref tp, .int tn, .int cu, .int sr, .int tk, .int va, .int ft, .int fA, .int lt, .ref so, .ref ik, .ref kp, .ref kl, .ref tc, .int tt])) ma = some (oI 8 gma) := (congrFun heq2 ma).symm.trans ((fx_up_n _ _ (fx_ne h1_ma h1_mo rfl)).trans h1_ma)
  have h2_it : (fx_up f mo (oO 11 [.int (nI 0), .int (nI 0), .ref la, .ref ma, .ref it, .ref rl, .ref fr, .ref li, .ref wa, .ref ld, .int ac, .ref tp, .int tn, .int cu, .int sr, .int tk, .int va, .int ft, .int fA, .int lt, .ref so, .ref ik, .ref kp, .ref kl, .ref tc, .int tt])) it = some (oI 320 git) := (congrFun heq2 it).symm.trans ((fx_up_n _ _ (fx_ne h1_it h1_mo rfl)).trans h1_it)
  have h2_mo : (fx_up f mo (oO 11 [.int (nI 0), .int (nI 0), .ref la, .ref ma, .ref it, .ref rl, .ref fr, .ref li, .ref wa, .ref ld, .int ac, .ref tp, .int tn, .int cu, .int sr, .int tk, .int va, .int ft, .int fA, .int lt, .ref so, .ref ik, .ref kp, .ref kl, .ref tc, .int tt])) mo = some (oO 11 [.int (nI 0), .int (nI 0), .ref la, .ref ma, .ref it, .ref rl, .ref fr, .ref li, .ref wa, .ref ld, .int ac, .ref tp, .int tn, .int cu, .int sr, .int tk, .int va, .int ft, .int fA, .int lt, .ref so, .ref ik, .ref kp, .ref kl, .ref tc, .int tt]) := (congrFun heq2 mo).symm.trans (fx_up_s _ _ _)
  refine lv_aload_n hx hb dX12_set_20 rfl (lv_at hl 0 rfl) ?_
  refine fx_get C hH (k := 2) (v := .ref la) h2_mo ff_X12_7_11 rfl dX12_set_21 ?_
  refine lv_iload_n hx hb dX12_set_24 rfl (lv_at hl 1 rfl) ?_
  refine fx_ialdN C hH h2_la (by omega) (by omega) dX12_set_25 ?_
  refine lv_if_ge hx hb (tgt := 35) dX12_set_26 (by decide) (fun c26 => ?_) (fun c26 => ?_)
  · refine lv_iload_n hx hb dX12_set_35 rfl (lv_at hl 2 rfl) ?_
    refine lv_i2l (v := i.toInt64) hx hb dX12_set_36 rfl ?_
    refine lv_lconst (v := lN 0) hx hb dX12_set_37 (by decide) ?_
    refine lv_aload_n hx hb dX12_set_38 rfl (lv_at hl 0 rfl) ?_
    refine fx_get C hH (k := 3) (v := .ref ma) h2_mo ff_X12_13_11 rfl dX12_set_39 ?_
    refine lv_iload_n hx hb dX12_set_42 rfl (lv_at hl 1 rfl) ?_
    refine fx_ialdN C hH h2_ma (by omega) (by omega) dX12_set_43 ?_
    refine fx_ti (y := nI sn) hgm ?_
    refine lv_iconst (v := nI 1) hx hb dX12_set_44 (by decide) ?_
    refine lv_isub hx hb dX12_set_45 ?_
    refine lv_i2l (v := ((nI sn) - (nI 1)).toInt64) hx hb dX12_set_46 rfl ?_
    refine fx_go1 hH (fx_runS C hH hl.1 (As := [.long i.toInt64, .long (lN 0), .long (((nI sn) - (nI 1)).toInt64)]) (rest := []) (c_X12_in_j (G := G) (base := base) (l := l) (f := fx_up f mo (oO 11 [.int (nI 0), .int (nI 0), .ref la, .ref ma, .ref it, .ref rl, .ref fr, .ref li, .ref wa, .ref ld, .int ac, .ref tp, .int tn, .int cu, .int sr, .int tk, .int va, .int ft, .int fA, .int lt, .ref so, .ref ik, .ref kp, .ref kl, .ref tc, .int tt])) (sz := sz) (x := i) (y := ((nI sn) - (nI 1))) (lo := 0) (by omega)) mY_X12_in ml_X12_64 st_X12_in rfl ⟨(Nat.le_of_ble_eq_true rfl), (Nat.le_of_ble_eq_true rfl)⟩ rfl (Nat.le_of_ble_eq_true rfl) ⟨(Nat.le_of_ble_eq_true rfl), (Nat.le_of_ble_eq_true rfl)⟩ dX12_set_47) (fun H locs hH => ?_)
    refine fx_b_ne hx hb (tgt := 59) dX12_set_50 (by decide) (fun c50 => ?_) (fun c50 => ?_)
    · obtain ⟨ix, hix, rfl⟩ := rngS (by omega) c50
      · skip
        refine lv_aload_n hx hb dX12_set_59 rfl (lv_at hl 0 rfl) ?_
        refine fx_get C hH (k := 4) (v := .ref it) h2_mo ff_X12_16_11 rfl dX12_set_60 ?_
        refine lv_bipush (v := nI 40) hx hb dX12_set_63 (by decide) ?_
        refine lv_iload_n hx hb dX12_set_65 rfl (lv_at hl 1 rfl) ?_
        refine lv_imul hx hb dX12_set_66 ?_
        refine fx_ti (y := nI (40 * kk)) (pk_mul _ _) ?_
        refine lv_iload_n hx hb dX12_set_67 rfl (lv_at hl 2 rfl) ?_
        refine lv_iadd hx hb dX12_set_68 ?_
        refine fx_ti (y := nI (40 * kk + ix)) (nI_add _ _) ?_
        refine lv_aload_n hx hb dX12_set_69 rfl (lv_at hl 0 rfl) ?_
        refine fx_get C hH (k := 2) (v := .ref la) h2_mo ff_X12_7_11 rfl dX12_set_70 ?_
        refine lv_iload_n hx hb dX12_set_73 rfl (lv_at hl 1 rfl) ?_
        refine fx_ialdN C hH h2_la (by omega) (by omega) dX12_set_74 ?_
        refine lv_if_ne hx hb (tgt := 83) dX12_set_75 (by decide) (fun c75 => ?_) (fun c75 => ?_)
        · refine lv_aload_n hx hb dX12_set_83 rfl (lv_at hl 0 rfl) ?_
          refine fx_get C hH (k := 2) (v := .ref la) h2_mo ff_X12_7_11 rfl dX12_set_84 ?_
          refine lv_iload_n hx hb dX12_set_87 rfl (lv_at hl 1 rfl) ?_
          refine fx_ialdN C hH h2_la (by omega) (by omega) dX12_set_88 ?_
          refine lv_iconst (v := nI 1) hx hb dX12_set_89 (by decide) ?_
          refine lv_icmp_ne hx hb (tgt := 98) dX12_set_90 (by decide) (fun c90 => ?_) (fun c90 => ?_)
          · refine lv_iload_n hx hb dX12_set_98 rfl (lv_at hl 3 rfl) ?_
            refine fx_iastN C hH h2_it (by omega) (by omega) dX12_set_99 (fun H locs hH => ?_)
            have hH : fx_H G base s (fx_up (fx_up f mo (oO 11 [.int (nI 0), .int (nI 0), .ref la, .ref ma, .ref it, .ref rl, .ref fr, .ref li, .ref wa, .ref ld, .int ac, .ref tp, .int tn, .int cu, .int sr, .int tk, .int va, .int ft, .int fA, .int lt, .ref so, .ref ik, .ref kp, .ref kl, .ref tc, .int tt])) it (oI 320 (upd git (40 * kk + ix) v))) sz H locs := hH
            have h3_la : (fx_up (fx_up f mo (oO 11 [.int (nI 0), .int (nI 0), .ref la, .ref ma, .ref it, .ref rl, .ref fr, .ref li, .ref wa, .ref ld, .int ac, .ref tp, .int tn, .int cu, .int sr, .int tk, .int va, .int ft, .int fA, .int lt, .ref so, .ref ik, .ref kp, .ref kl, .ref tc, .int tt])) it (oI 320 (upd git (40 * kk + ix) v))) la = some (oI 8 gla) := (fx_up_n _ _ hne_1).trans h2_la
            have h3_ma : (fx_up (fx_up f mo (oO 11 [.int (nI 0), .int (nI 0), .ref la, .ref ma, .ref it, .ref rl, .ref fr, .ref li, .ref wa, .ref ld, .int ac, .ref tp, .int tn, .int cu, .int sr, .int tk, .int va, .int ft, .int fA, .int lt, .ref so, .ref ik, .ref kp, .ref kl, .ref tc, .int tt])) it (oI 320 (upd git (40 * kk + ix) v))) ma = some (oI 8 gma) := (fx_up_n _ _ hne_2).trans h2_ma
            have h3_mo : (fx_up (fx_up f mo (oO 11 [.int (nI 0), .int (nI 0), .ref la, .ref ma, .ref it, .ref rl, .ref fr, .ref li, .ref wa, .ref ld, .int ac, .ref tp, .int tn, .int cu, .int sr, .int tk, .int va, .int ft, .int fA, .int lt, .ref so, .ref ik, .ref kp, .ref kl, .ref tc, .int tt])) it (oI 320 (upd git (40 * kk + ix) v))) mo = some (oO 11 [.int (nI 0), .int (nI 0), .ref la, .ref ma, .ref it, .ref rl, .ref fr, .ref li, .ref wa, .ref ld, .int ac, .ref tp, .int tn, .int cu, .int sr, .int tk, .int va, .int ft, .int fA, .int lt, .ref so, .ref ik, .ref kp, .ref kl, .ref tc, .int tt]) := (fx_up_n _ _ (fx_ne h2_mo h2_it rfl)).trans h2_mo
            have h3_it : (fx_up (fx_up f mo (oO 11 [.int (nI 0), .int (nI 0), .ref la, .ref ma, .ref it, .ref rl, .ref fr, .ref li, .ref wa, .ref ld, .int ac, .ref tp, .int tn, .int cu, .int sr, .int tk, .int va, .int ft, .int fA, .int lt, .ref so, .ref ik, .ref kp, .ref kl, .ref tc, .int tt])) it (oI 320 (upd git (40 * kk + ix) v))) it = some (oI 320 (upd git (40 * kk + ix) v)) := fx_up_s _ _ _
            refine lv_aload_n hx hb dX12_set_100 rfl (lv_at hl 0 rfl) ?_
            refine fx_get C hH (k := 4) (v := .ref it) h3_mo ff_X12_16_11 rfl dX12_set_101 ?_
            refine lv_bipush (v := nI 40) hx hb dX12_set_104 (by decide) ?_
            refine lv_iload_n hx hb dX12_set_106 rfl (lv_at hl 1 rfl) ?_
            refine lv_imul hx hb dX12_set_107 ?_
            refine fx_ti (y := nI (40 * kk)) (pk_mul _ _) ?_
            refine lv_iload_n hx hb dX12_set_108 rfl (lv_at hl 2 rfl) ?_
            refine lv_iadd hx hb dX12_set_109 ?_
            refine fx_ti (y := nI (40 * kk + ix)) (nI_add _ _) ?_
            refine fx_ialdN C hH h3_it (by omega) (by omega) dX12_set_110 ?_
            refine fx_ti (y := (v)) pk_us ?_
            exact fx_iretP C hr hk hH (K1 c26 c50 ix hix rfl c75 c90) (Nat.zero_le _) (Nat.zero_le _) dX12_set_111
          · refine lv_iload_n hx hb dX12_set_93 rfl (lv_at hl 3 rfl) ?_
            refine lv_i2s (v := v.toInt16.toInt32) hx hb dX12_set_94 rfl ?_
            refine lv_goto (tgt := 99) hx hb dX12_set_95 (by decide) ?_
            refine fx_iastN C hH h2_it (by omega) (by omega) dX12_set_99 (fun H locs hH => ?_)
            have hH : fx_H G base s (fx_up (fx_up f mo (oO 11 [.int (nI 0), .int (nI 0), .ref la, .ref ma, .ref it, .ref rl, .ref fr, .ref li, .ref wa, .ref ld, .int ac, .ref tp, .int tn, .int cu, .int sr, .int tk, .int va, .int ft, .int fA, .int lt, .ref so, .ref ik, .ref kp, .ref kl, .ref tc, .int tt])) it (oI 320 (upd git (40 * kk + ix) v.toInt16.toInt32))) sz H locs := hH
            have h4_la : (fx_up (fx_up f mo (oO 11 [.int (nI 0), .int (nI 0), .ref la, .ref ma, .ref it, .ref rl, .ref fr, .ref li, .ref wa, .ref ld, .int ac, .ref tp, .int tn, .int cu, .int sr, .int tk, .int va, .int ft, .int fA, .int lt, .ref so, .ref ik, .ref kp, .ref kl, .ref tc, .int tt])) it (oI 320 (upd git (40 * kk + ix) v.toInt16.toInt32))) la = some (oI 8 gla) := (fx_up_n _ _ hne_1).trans h2_la
            have h4_ma : (fx_up (fx_up f mo (oO 11 [.int (nI 0), .int (nI 0), .ref la, .ref ma, .ref it, .ref rl, .ref fr, .ref li, .ref wa, .ref ld, .int ac, .ref tp, .int tn, .int cu, .int sr, .int tk, .int va, .int ft, .int fA, .int lt, .ref so, .ref ik, .ref kp, .ref kl, .ref tc, .int tt])) it (oI 320 (upd git (40 * kk + ix) v.toInt16.toInt32))) ma = some (oI 8 gma) := (fx_up_n _ _ hne_2).trans h2_ma
            have h4_mo : (fx_up (fx_up f mo (oO 11 [.int (nI 0), .int (nI 0), .ref la, .ref ma, .ref it, .ref rl, .ref fr, .ref li, .ref wa, .ref ld, .int ac, .ref tp, .int tn, .int cu, .int sr, .int tk, .int va, .int ft, .int fA, .int lt, .ref so, .ref ik, .ref kp, .ref kl, .ref tc, .int tt])) it (oI 320 (upd git (40 * kk + ix) v.toInt16.toInt32))) mo = some (oO 11 [.int (nI 0), .int (nI 0), .ref la, .ref ma, .ref it, .ref rl, .ref fr, .ref li, .ref wa, .ref ld, .int ac, .ref tp, .int tn, .int cu, .int sr, .int tk, .int va, .int ft, .int fA, .int lt, .ref so, .ref ik, .ref kp, .ref kl, .ref tc, .int tt]) := (fx_up_n _ _ (fx_ne h2_mo h2_it rfl)).trans h2_mo
            have h4_it : (fx_up (fx_up f mo (oO 11 [.int (nI 0), .int (nI 0), .ref la, .ref ma, .ref it, .ref rl, .ref fr, .ref li, .ref wa, .ref ld, .int ac, .ref tp, .int tn, .int cu, .int sr, .int tk, .int va, .int ft, .int fA, .int lt, .ref so, .ref ik, .ref kp, .ref kl, .ref tc, .int tt])) it (oI 320 (upd git (40 * kk + ix) v.toInt16.toInt32))) it = some (oI 320 (upd git (40 * kk + ix) v.toInt16.toInt32)) := fx_up_s _ _ _
            refine lv_aload_n hx hb dX12_set_100 rfl (lv_at hl 0 rfl) ?_
            refine fx_get C hH (k := 4) (v := .ref it) h4_mo ff_X12_16_11 rfl dX12_set_101 ?_
            refine lv_bipush (v := nI 40) hx hb dX12_set_104 (by decide) ?_
            refine lv_iload_n hx hb dX12_set_106 rfl (lv_at hl 1 rfl) ?_
            refine lv_imul hx hb dX12_set_107 ?_
            refine fx_ti (y := nI (40 * kk)) (pk_mul _ _) ?_
            refine lv_iload_n hx hb dX12_set_108 rfl (lv_at hl 2 rfl) ?_
            refine lv_iadd hx hb dX12_set_109 ?_
            refine fx_ti (y := nI (40 * kk + ix)) (nI_add _ _) ?_
            refine fx_ialdN C hH h4_it (by omega) (by omega) dX12_set_110 ?_
            refine fx_ti (y := (v.toInt16.toInt32)) pk_us ?_
            exact fx_iretP C hr hk hH (K2 c26 c50 ix hix rfl c75 c90) (Nat.zero_le _) (Nat.zero_le _) dX12_set_111
        · refine lv_iload_n hx hb dX12_set_78 rfl (lv_at hl 3 rfl) ?_
          refine lv_i2b (v := v.toInt8.toInt32) hx hb dX12_set_79 rfl ?_
          refine lv_goto (tgt := 99) hx hb dX12_set_80 (by decide) ?_
          refine fx_iastN C hH h2_it (by omega) (by omega) dX12_set_99 (fun H locs hH => ?_)
          have hH : fx_H G base s (fx_up (fx_up f mo (oO 11 [.int (nI 0), .int (nI 0), .ref la, .ref ma, .ref it, .ref rl, .ref fr, .ref li, .ref wa, .ref ld, .int ac, .ref tp, .int tn, .int cu, .int sr, .int tk, .int va, .int ft, .int fA, .int lt, .ref so, .ref ik, .ref kp, .ref kl, .ref tc, .int tt])) it (oI 320 (upd git (40 * kk + ix) v.toInt8.toInt32))) sz H locs := hH
          have h5_la : (fx_up (fx_up f mo (oO 11 [.int (nI 0), .int (nI 0), .ref la, .ref ma, .ref it, .ref rl, .ref fr, .ref li, .ref wa, .ref ld, .int ac, .ref tp, .int tn, .int cu, .int sr, .int tk, .int va, .int ft, .int fA, .int lt, .ref so, .ref ik, .ref kp, .ref kl, .ref tc, .int tt])) it (oI 320 (upd git (40 * kk + ix) v.toInt8.toInt32))) la = some (oI 8 gla) := (fx_up_n _ _ hne_1).trans h2_la
          have h5_ma : (fx_up (fx_up f mo (oO 11 [.int (nI 0), .int (nI 0), .ref la, .ref ma, .ref it, .ref rl, .ref fr, .ref li, .ref wa, .ref ld, .int ac, .ref tp, .int tn, .int cu, .int sr, .int tk, .int va, .int ft, .int fA, .int lt, .ref so, .ref ik, .ref kp, .ref kl, .ref tc, .int tt])) it (oI 320 (upd git (40 * kk + ix) v.toInt8.toInt32))) ma = some (oI 8 gma) := (fx_up_n _ _ hne_2).trans h2_ma
          have h5_mo : (fx_up (fx_up f mo (oO 11 [.int (nI 0), .int (nI 0), .ref la, .ref ma, .ref it, .ref rl, .ref fr, .ref li, .ref wa, .ref ld, .int ac, .ref tp, .int tn, .int cu, .int sr, .int tk, .int va, .int ft, .int fA, .int lt, .ref so, .ref ik, .ref kp, .ref kl, .ref tc, .int tt])) it (oI 320 (upd git (40 * kk + ix) v.toInt8.toInt32))) mo = some (oO 11 [.int (nI 0), .int (nI 0), .ref la, .ref ma, .ref it, .ref rl, .ref fr, .ref li, .ref wa, .ref ld, .int ac, .ref tp, .int tn, .int cu, .int sr, .int tk, .int va, .int ft, .int fA, .int lt, .ref so, .ref ik, .ref kp, .ref kl, .ref tc, .int tt]) := (fx_up_n _ _ (fx_ne h2_mo h2_it rfl)).trans h2_mo
          have h5_it : (fx_up (fx_up f mo (oO 11 [.int (nI 0), .int (nI 0), .ref la, .ref ma, .ref it, .ref rl, .ref fr, .ref li, .ref wa, .ref ld, .int ac, .ref tp, .int tn, .int cu, .int sr, .int tk, .int va, .int ft, .int fA, .int lt, .ref so, .ref ik, .ref kp, .ref kl, .ref tc, .int tt])) it (oI 320 (upd git (40 * kk + ix) v.toInt8.toInt32))) it = some (oI 320 (upd git (40 * kk + ix) v.toInt8.toInt32)) := fx_up_s _ _ _
          refine lv_aload_n hx hb dX12_set_100 rfl (lv_at hl 0 rfl) ?_
          refine fx_get C hH (k := 4) (v := .ref it) h5_mo ff_X12_16_11 rfl dX12_set_101 ?_
          refine lv_bipush (v := nI 40) hx hb dX12_set_104 (by decide) ?_
          refine lv_iload_n hx hb dX12_set_106 rfl (lv_at hl 1 rfl) ?_
          refine lv_imul hx hb dX12_set_107 ?_
          refine fx_ti (y := nI (40 * kk)) (pk_mul _ _) ?_
          refine lv_iload_n hx hb dX12_set_108 rfl (lv_at hl 2 rfl) ?_
          refine lv_iadd hx hb dX12_set_109 ?_
          refine fx_ti (y := nI (40 * kk + ix)) (nI_add _ _) ?_
          refine fx_ialdN C hH h5_it (by omega) (by omega) dX12_set_110 ?_
          refine fx_ti (y := (v.toInt8.toInt32)) pk_us ?_
          exact fx_iretP C hr hk hH (K3 c26 c50 ix hix rfl c75) (Nat.zero_le _) (Nat.zero_le _) dX12_set_111
    · refine lv_aload_n hx hb dX12_set_53 rfl (lv_at hl 0 rfl) ?_
      refine lv_iconst (v := nI 2) hx hb dX12_set_54 (by decide) ?_
      refine fx_go1 hH (fx_runV C hH hl.1 (As := [.int (nI 2)]) (rest := []) (c_X12_finding (G := G) (base := base) (l := l) (f := fx_up f mo (oO 11 [.int (nI 0), .int (nI 0), .ref la, .ref ma, .ref it, .ref rl, .ref fr, .ref li, .ref wa, .ref ld, .int ac, .ref tp, .int tn, .int cu, .int sr, .int tk, .int va, .int ft, .int fA, .int lt, .ref so, .ref ik, .ref kp, .ref kl, .ref tc, .int tt])) (sz := sz) (mo := mo) (nn := nI 2) (th := nI 0) (sa := nI 0) (la := la) (ma := ma) (it := it) (rl := rl) (fr := fr) (li := li) (wa := wa) (ld := ld) (ac := ac) (tp := tp) (tn := tn) (cu := cu) (sr := sr) (tk := tk) (va := va) (ft := ft) (fA := fA) (lt := lt) (so := so) (ik := ik) (kp := kp) (kl := kl) (tc := tc) (tt := tt) h2_mo) mY_X12_finding ml_X12_75 im_X12_finding se_X12_X12_finding h2_mo rfl rfl ⟨(Nat.le_of_ble_eq_true rfl), (Nat.le_of_ble_eq_true rfl)⟩ rfl (Nat.le_of_ble_eq_true rfl) ⟨(Nat.le_of_ble_eq_true rfl), (Nat.le_of_ble_eq_true rfl)⟩ dX12_set_55) (fun H locs hH => ?_)
      have hH : fx_H G base s (fx_up (fx_up f mo (oO 11 [.int (nI 0), .int (nI 0), .ref la, .ref ma, .ref it, .ref rl, .ref fr, .ref li, .ref wa, .ref ld, .int ac, .ref tp, .int tn, .int cu, .int sr, .int tk, .int va, .int ft, .int fA, .int lt, .ref so, .ref ik, .ref kp, .ref kl, .ref tc, .int tt])) mo (oO 11 [.int (nI 0), .int (nI 2), .ref la, .ref ma, .ref it, .ref rl, .ref fr, .ref li, .ref wa, .ref ld, .int ac, .ref tp, .int tn, .int cu, .int sr, .int tk, .int va, .int ft, .int fA, .int lt, .ref so, .ref ik, .ref kp, .ref kl, .ref tc, .int tt])) sz H locs := hH
      have heq6 : fx_up (fx_up f mo (oO 11 [.int (nI 0), .int (nI 0), .ref la, .ref ma, .ref it, .ref rl, .ref fr, .ref li, .ref wa, .ref ld, .int ac, .ref tp, .int tn, .int cu, .int sr, .int tk, .int va, .int ft, .int fA, .int lt, .ref so, .ref ik, .ref kp, .ref kl, .ref tc, .int tt])) mo (oO 11 [.int (nI 0), .int (nI 2), .ref la, .ref ma, .ref it, .ref rl, .ref fr, .ref li, .ref wa, .ref ld, .int ac, .ref tp, .int tn, .int cu, .int sr, .int tk, .int va, .int ft, .int fA, .int lt, .ref so, .ref ik, .ref kp, .ref kl, .ref tc, .int tt]) = fx_up f mo (oO 11 [.int (nI 0), .int (nI 2), .ref la, .ref ma, .ref it, .ref rl, .ref fr, .ref li, .ref wa, .ref ld, .int ac, .ref tp, .int tn, .int cu, .int sr, .int tk, .int va, .int ft, .int fA, .int lt, .ref so, .ref ik, .ref kp, .ref kl, .ref tc, .int tt]) := by rw [fx_up_up]
      rw [heq6] at hH
      have h6_la : (fx_up f mo (oO 11 [.int (nI 0), .int (nI 2), .ref la, .ref ma, .ref it, .ref rl, .ref fr, .ref li, .ref wa, .ref ld, .int ac, .ref tp, .int tn, .int cu, .int sr, .int tk, .int va, .int ft, .int fA, .int lt, .ref so, .ref ik, .ref kp, .ref kl, .ref tc, .int tt])) la = some (oI 8 gla) := (congrFun heq6 la).symm.trans ((fx_up_n _ _ (fx_ne h2_la h2_mo rfl)).trans h2_la)
      have h6_ma : (fx_up f mo (oO 11 [.int (nI 0), .int (nI 2), .ref la, .ref ma, .ref it, .ref rl, .ref fr, .ref li, .ref wa, .ref ld, .int ac, .ref tp, .int tn, .int cu, .int sr, .int tk, .int va, .int ft, .int fA, .int lt, .ref so, .ref ik, .ref kp, .ref kl, .ref tc, .int tt])) ma = some (oI 8 gma) := (congrFun heq6 ma).symm.trans ((fx_up_n _ _ (fx_ne h2_ma h2_mo rfl)).trans h2_ma)
      have h6_it : (fx_up f mo (oO 11 [.int (nI 0), .int (nI 2), .ref la, .ref ma, .ref it, .ref rl, .ref fr, .ref li, .ref wa, .ref ld, .int ac, .ref tp, .int tn, .int cu, .int sr, .int tk, .int va, .int ft, .int fA, .int lt, .ref so, .ref ik, .ref kp, .ref kl, .ref tc, .int tt])) it = some (oI 320 git) := (congrFun heq6 it).symm.trans ((fx_up_n _ _ (fx_ne h2_it h2_mo rfl)).trans h2_it)
      have h6_mo : (fx_up f mo (oO 11 [.int (nI 0), .int (nI 2), .ref la, .ref ma, .ref it, .ref rl, .ref fr, .ref li, .ref wa, .ref ld, .int ac, .ref tp, .int tn, .int cu, .int sr, .int tk, .int va, .int ft, .int fA, .int lt, .ref so, .ref ik, .ref kp, .ref kl, .ref tc, .int tt])) mo = some (oO 11 [.int (nI 0), .int (nI 2), .ref la, .ref ma, .ref it, .ref rl, .ref fr, .ref li, .ref wa, .ref ld, .int ac, .ref tp, .int tn, .int cu, .int sr, .int tk, .int va, .int ft, .int fA, .int lt, .ref so, .ref ik, .ref kp, .ref kl, .ref tc, .int tt]) := (congrFun heq6 mo).symm.trans (fx_up_s _ _ _)
      have hH : fx_H G base s (fx_up f mo (oO 11 [.int (nI 0), .int (nI 2), .ref la, .ref ma, .ref it, .ref rl, .ref fr, .ref li, .ref wa, .ref ld, .int ac, .ref tp, .int tn, .int cu, .int sr, .int tk, .int va, .int ft, .int fA, .int lt, .ref so, .ref ik, .ref kp, .ref kl, .ref tc, .int tt])) sz H locs := hH
      exact fx_iretP C hr hk hH (K4 c26 c50) (Nat.zero_le _) (Nat.zero_le _) dX12_set_58
  · refine lv_aload_n hx hb dX12_set_29 rfl (lv_at hl 0 rfl) ?_
    refine lv_iconst (v := nI 1) hx hb dX12_set_30 (by decide) ?_
    refine fx_go1 hH (fx_runV C hH hl.1 (As := [.int (nI 1)]) (rest := []) (c_X12_finding (G := G) (base := base) (l := l) (f := fx_up f mo (oO 11 [.int (nI 0), .int (nI 0), .ref la, .ref ma, .ref it, .ref rl, .ref fr, .ref li, .ref wa, .ref ld, .int ac, .ref tp, .int tn, .int cu, .int sr, .int tk, .int va, .int ft, .int fA, .int lt, .ref so, .ref ik, .ref kp, .ref kl, .ref tc, .int tt])) (sz := sz) (mo := mo) (nn := nI 1) (th := nI 0) (sa := nI 0) (la := la) (ma := ma) (it := it) (rl := rl) (fr := fr) (li := li) (wa := wa) (ld := ld) (ac := ac) (tp := tp) (tn := tn) (cu := cu) (sr := sr) (tk := tk) (va := va) (ft := ft) (fA := fA) (lt := lt) (so := so) (ik := ik) (kp := kp) (kl := kl) (tc := tc) (tt := tt) h2_mo) mY_X12_finding ml_X12_75 im_X12_finding se_X12_X12_finding h2_mo rfl rfl ⟨(Nat.le_of_ble_eq_true rfl), (Nat.le_of_ble_eq_true rfl)⟩ rfl (Nat.le_of_ble_eq_true rfl) ⟨(Nat.le_of_ble_eq_true rfl), (Nat.le_of_ble_eq_true rfl)⟩ dX12_set_31) (fun H locs hH => ?_)
    have hH : fx_H G base s (fx_up (fx_up f mo (oO 11 [.int (nI 0), .int (nI 0), .ref la, .ref ma, .ref it, .ref rl, .ref fr, .ref li, .ref wa, .ref ld, .int ac, .ref tp, .int tn, .int cu, .int sr, .int tk, .int va, .int ft, .int fA, .int lt, .ref so, .ref ik, .ref kp, .ref kl, .ref tc, .int tt])) mo (oO 11 [.int (nI 0), .int (nI 1), .ref la, .ref ma, .ref it, .ref rl, .ref fr, .ref li, .ref wa, .ref ld, .int ac, .ref tp, .int tn, .int cu, .int sr, .int tk, .int va, .int ft, .int fA, .int lt, .ref so, .ref ik, .ref kp, .ref kl, .ref tc, .int tt])) sz H locs := hH
    have heq7 : fx_up (fx_up f mo (oO 11 [.int (nI 0), .int (nI 0), .ref la, .ref ma, .ref it, .ref rl, .ref fr, .ref li, .ref wa, .ref ld, .int ac, .ref tp, .int tn, .int cu, .int sr, .int tk, .int va, .int ft, .int fA, .int lt, .ref so, .ref ik, .ref kp, .ref kl, .ref tc, .int tt])) mo (oO 11 [.int (nI 0), .int (nI 1), .ref la, .ref ma, .ref it, .ref rl, .ref fr, .ref li, .ref wa, .ref ld, .int ac, .ref tp, .int tn, .int cu, .int sr, .int tk, .int va, .int ft, .int fA, .int lt, .ref so, .ref ik, .ref kp, .ref kl, .ref tc, .int tt]) = fx_up f mo (oO 11 [.int (nI 0), .int (nI 1), .ref la, .ref ma, .ref it, .ref rl, .ref fr, .ref li, .ref wa, .ref ld, .int ac, .ref tp, .int tn, .int cu, .int sr, .int tk, .int va, .int ft, .int fA, .int lt, .ref so, .ref ik, .ref kp, .ref kl, .ref tc, .int tt]) := by rw [fx_up_up]
    rw [heq7] at hH
    have h7_la : (fx_up f mo (oO 11 [.int (nI 0), .int (nI 1), .ref la, .ref ma, .ref it, .ref rl, .ref fr, .ref li, .ref wa, .ref ld, .int ac, .ref tp, .int tn, .int cu, .int sr, .int tk, .int va, .int ft, .int fA, .int lt, .ref so, .ref ik, .ref kp, .ref kl, .ref tc, .int tt])) la = some (oI 8 gla) := (congrFun heq7 la).symm.trans ((fx_up_n _ _ (fx_ne h2_la h2_mo rfl)).trans h2_la)
    have h7_ma : (fx_up f mo (oO 11 [.int (nI 0), .int (nI 1), .ref la, .ref ma, .ref it, .ref rl, .ref fr, .ref li, .ref wa, .ref ld, .int ac, .ref tp, .int tn, .int cu, .int sr, .int tk, .int va, .int ft, .int fA, .int lt, .ref so, .ref ik, .ref kp, .ref kl, .ref tc, .int tt])) ma = some (oI 8 gma) := (congrFun heq7 ma).symm.trans ((fx_up_n _ _ (fx_ne h2_ma h2_mo rfl)).trans h2_ma)
    have h7_it : (fx_up f mo (oO 11 [.int (nI 0), .int (nI 1), .ref la, .ref ma, .ref it, .ref rl, .ref fr, .ref li, .ref wa, .ref ld, .int ac, .ref tp, .int tn, .int cu, .int sr, .int tk, .int va, .int ft, .int fA, .int lt, .ref so, .ref ik, .ref kp, .ref kl, .ref tc, .int tt])) it = some (oI 320 git) := (congrFun heq7 it).symm.trans ((fx_up_n _ _ (fx_ne h2_it h2_mo rfl)).trans h2_it)
    have h7_mo : (fx_up f mo (oO 11 [.int (nI 0), .int (nI 1), .ref la, .ref ma, .ref it, .ref rl, .ref fr, .ref li, .ref wa, .ref ld, .int ac, .ref tp, .int tn, .int cu, .int sr, .int tk, .int va, .int ft, .int fA, .int lt, .ref so, .ref ik, .ref kp, .ref kl, .ref tc, .int tt])) mo = some (oO 11 [.int (nI 0), .int (nI 1), .ref la, .ref ma, .ref it, .ref rl, .ref fr, .ref li, .ref wa, .ref ld, .int ac, .ref tp, .int tn, .int cu, .int sr, .int tk, .int va, .int ft, .int fA, .int lt, .ref so, .ref ik, .ref kp, .ref kl, .ref tc, .int tt]) := (congrFun heq7 mo).symm.trans (fx_up_s _ _ _)
    have hH : fx_H G base s (fx_up f mo (oO 11 [.int (nI 0), .int (nI 1), .ref la, .ref ma, .ref it, .ref rl, .ref fr, .ref li, .ref wa, .ref ld, .int ac, .ref tp, .int tn, .int cu, .int sr, .int tk, .int va, .int ft, .int fA, .int lt, .ref so, .ref ik, .ref kp, .ref kl, .ref tc, .int tt])) sz H locs := hH
    exact fx_iretP C hr hk hH (K5 c26) (Nat.zero_le _) (Nat.zero_le _) dX12_set_34
abbrev rm_X12_drop : Room := { frames := 2, cells := 0, slots := 0, locals := 45 }
set_option maxHeartbeats 4000000 in
set_option maxRecDepth 100000 in
theorem c_X12_drop_n {G : GG} {base : Nat} {l : Launch} {f : Hp} {sz : Nat} {Po : Option Value → Hp → Nat → Prop} {mo : Nat} {r : Int32} {th : Int32} {sa : Int32} {la : Nat} {ma : Nat} {it : Nat} {rl : Nat} {fr : Nat} {li : Nat} {wa : Nat} {ld : Nat} {ac : Int32} {tp : Nat} {tn : Int32} {cu : Int32} {sr : Int32} {tk : Int32} {va : Int32} {ft : Int32} {fA : Int32} {lt : Int32} {so : Nat} {ik : Nat} {kp : Nat} {kl : Nat} {tc : Nat} {tt : Int32} (h_mo : f mo = some (oO 11 [.int th, .int sa, .ref la, .ref ma, .ref it, .ref rl, .ref fr, .ref li, .ref wa, .ref ld, .int ac, .ref tp, .int tn, .int cu, .int sr, .int tk, .int va, .int ft, .int fA, .int lt, .ref so, .ref ik, .ref kp, .ref kl, .ref tc, .int tt])) (hr0 : ¬ (¬ r < nI 0 ∧ ¬ nI 7 < r)) (K1 : Po (some (.int (-1000001))) (fx_up f mo (oO 11 [.int (nI 0), .int sa, .ref la, .ref ma, .ref it, .ref rl, .ref fr, .ref li, .ref wa, .ref ld, .int ac, .ref tp, .int tn, .int cu, .int sr, .int tk, .int va, .int ft, .int fA, .int lt, .ref so, .ref ik, .ref kp, .ref kl, .ref tc, .int tt])) sz) : fx_MP G base l yX12_drop cX12_drop 2 (some .int) rm_X12_drop [.ref mo, .int r] f sz Po := by
  refine fx_ofP (by decide +kernel) (Nat.le_of_ble_eq_true rfl) ?_
  intro p e s m args below meth c C hr hk hnm hH ls hl
  obtain ⟨locs, hlocs⟩ : ∃ L : List Loc, L = [] := ⟨_, rfl⟩
  rw [← hlocs] at hH ⊢
  generalize s.heap = H at hH ⊢
  have hx := C.1
  have hb := C.2.1
  have hl : lv_has ls 2 [(0, .ref mo), (1, .int r)] := hl
  refine lv_aload_n hx hb dX12_drop_0 rfl (lv_at hl 0 rfl) ?_
  refine lv_iconst (v := nI 0) hx hb dX12_drop_1 (by decide) ?_
  refine fx_putT C hH (k := 0) h_mo ff_X12_54_11 fL_11 fT_11_0 rfl rfl (Nat.le_of_ble_eq_true rfl) dX12_drop_2 (fun H locs hH => ?_)
  have hH : fx_H G base s (fx_up f mo (oO 11 [.int (nI 0), .int sa, .ref la, .ref ma, .ref it, .ref rl, .ref fr, .ref li, .ref wa, .ref ld, .int ac, .ref tp, .int tn, .int cu, .int sr, .int tk, .int va, .int ft, .int fA, .int lt, .ref so, .ref ik, .ref kp, .ref kl, .ref tc, .int tt])) sz H locs := hH
  have h1_mo : (fx_up f mo (oO 11 [.int (nI 0), .int sa, .ref la, .ref ma, .ref it, .ref rl, .ref fr, .ref li, .ref wa, .ref ld, .int ac, .ref tp, .int tn, .int cu, .int sr, .int tk, .int va, .int ft, .int fA, .int lt, .ref so, .ref ik, .ref kp, .ref kl, .ref tc, .int tt])) mo = some (oO 11 [.int (nI 0), .int sa, .ref la, .ref ma, .ref it, .ref rl, .ref fr, .ref li, .ref wa, .ref ld, .int ac, .ref tp, .int tn, .int cu, .int sr, .int tk, .int va, .int ft, .int fA, .int lt, .ref so, .ref ik, .ref kp, .ref kl, .ref tc, .int tt]) := fx_up_s _ _ _
  refine lv_iload_n hx hb dX12_drop_5 rfl (lv_at hl 1 rfl) ?_
  refine fx_go1 hH (fx_runS C hH hl.1 (As := [.int r]) (rest := []) (c_X12_isRow (G := G) (base := base) (l := l) (f := fx_up f mo (oO 11 [.int (nI 0), .int sa, .ref la, .ref ma, .ref it, .ref rl, .ref fr, .ref li, .ref wa, .ref ld, .int ac, .ref tp, .int tn, .int cu, .int sr, .int tk, .int va, .int ft, .int fA, .int lt, .ref so, .ref ik, .ref kp, .ref kl, .ref tc, .int tt])) (sz := sz) (r := r) ) mY_X12_isRow ml_X12_68 st_X12_isRow rfl ⟨(Nat.le_of_ble_eq_true rfl), (Nat.le_of_ble_eq_true rfl)⟩ rfl (Nat.le_of_ble_eq_true rfl) ⟨(Nat.le_of_ble_eq_true rfl), (Nat.le_of_ble_eq_true rfl)⟩ dX12_drop_6) (fun H locs hH => ?_)
  refine fx_b_ne hx hb (tgt := 15) dX12_drop_9 (by decide) (fun c9 => absurd c9 (hr0)) (fun c9 => ?_)
  refine lv_ldc (v := (-1000001)) hx hb C.2.2.2.1 (C.2.2.2.2.1 _ kI_X12_74 rfl args) dX12_drop_12 ?_
  exact fx_iretP C hr hk hH (K1 ) (Nat.zero_le _) (Nat.zero_le _) dX12_drop_14
set_option maxHeartbeats 4000000 in
set_option maxRecDepth 100000 in
theorem c_X12_drop_k {G : GG} {base : Nat} {l : Launch} {f : Hp} {sz : Nat} {Po : Option Value → Hp → Nat → Prop} {mo : Nat} {kk : Nat} {th : Int32} {sa : Int32} {la : Nat} {ma : Nat} {it : Nat} {rl : Nat} {fr : Nat} {li : Nat} {wa : Nat} {ld : Nat} {ac : Int32} {tp : Nat} {tn : Int32} {cu : Int32} {sr : Int32} {tk : Int32} {va : Int32} {ft : Int32} {fA : Int32} {lt : Int32} {so : Nat} {ik : Nat} {kp : Nat} {kl : Nat} {tc : Nat} {tt : Int32} {gla : Nat → Int32} {gma : Nat → Int32} (h_mo : f mo = some (oO 11 [.int th, .int sa, .ref la, .ref ma, .ref it, .ref rl, .ref fr, .ref li, .ref wa, .ref ld, .int ac, .ref tp, .int tn, .int cu, .int sr, .int tk, .int va, .int ft, .int fA, .int lt, .ref so, .ref ik, .ref kp, .ref kl, .ref tc, .int tt])) (h_la : f la = some (oI 8 gla)) (h_ma : f ma = some (oI 8 gma)) (hne_0 : la ≠ ma) (hkk : kk < 8) (K1 : ∀ (c26 : (0 : Int32) ≤ (gla kk)), Po (some (.int (gma kk))) (fx_up (fx_up f mo (oO 11 [.int (nI 0), .int (nI 0), .ref la, .ref ma, .ref it, .ref rl, .ref fr, .ref li, .ref wa, .ref ld, .int ac, .ref tp, .int tn, .int cu, .int sr, .int tk, .int va, .int ft, .int fA, .int lt, .ref so, .ref ik, .ref kp, .ref kl, .ref tc, .int tt])) la (oI 8 (upd gla kk (-1)))) sz)
    (K2 : ∀ (c26 : ¬ (0 : Int32) ≤ (gla kk)), Po (some (.int ((-1000010) - (nI 1)))) (fx_up f mo (oO 11 [.int (nI 0), .int (nI 1), .ref la, .ref ma, .ref it, .ref rl, .ref fr, .ref li, .ref wa, .ref ld, .int ac, .ref tp, .int tn, .int cu, .int sr, .int tk, .int va, .int ft, .int fA, .int lt, .ref so, .ref ik, .ref kp, .ref kl, .ref tc, .int tt])) sz) : fx_MP G base l yX12_drop cX12_drop 2 (some .int) rm_X12_drop [.ref mo, .int (nI kk)] f sz Po := by
  refine fx_ofP (by decide +kernel) (Nat.le_of_ble_eq_true rfl) ?_
  intro p e s m args below meth c C hr hk hnm hH ls hl
  obtain ⟨locs, hlocs⟩ : ∃ L : List Loc, L = [] := ⟨_, rfl⟩
  rw [← hlocs] at hH ⊢
  generalize s.heap = H at hH ⊢
  have hx := C.1
  have hb := C.2.1
  have hl : lv_has ls 2 [(0, .ref mo), (1, .int (nI kk))] := hl
  refine lv_aload_n hx hb dX12_drop_0 rfl (lv_at hl 0 rfl) ?_
  refine lv_iconst (v := nI 0) hx hb dX12_drop_1 (by decide) ?_
  refine fx_putT C hH (k := 0) h_mo ff_X12_54_11 fL_11 fT_11_0 rfl rfl (Nat.le_of_ble_eq_true rfl) dX12_drop_2 (fun H locs hH => ?_)
  have hH : fx_H G base s (fx_up f mo (oO 11 [.int (nI 0), .int sa, .ref la, .ref ma, .ref it, .ref rl, .ref fr, .ref li, .ref wa, .ref ld, .int ac, .ref tp, .int tn, .int cu, .int sr, .int tk, .int va, .int ft, .int fA, .int lt, .ref so, .ref ik, .ref kp, .ref kl, .ref tc, .int tt])) sz H locs := hH
  have h1_la : (fx_up f mo (oO 11 [.int (nI 0), .int sa, .ref la, .ref ma, .ref it, .ref rl, .ref fr, .ref li, .ref wa, .ref ld, .int ac, .ref tp, .int tn, .int cu, .int sr, .int tk, .int va, .int ft, .int fA, .int lt, .ref so, .ref ik, .ref kp, .ref kl, .ref tc, .int tt])) la = some (oI 8 gla) := (fx_up_n _ _ (fx_ne h_la h_mo rfl)).trans h_la
  have h1_ma : (fx_up f mo (oO 11 [.int (nI 0), .int sa, .ref la, .ref ma, .ref it, .ref rl, .ref fr, .ref li, .ref wa, .ref ld, .int ac, .ref tp, .int tn, .int cu, .int sr, .int tk, .int va, .int ft, .int fA, .int lt, .ref so, .ref ik, .ref kp, .ref kl, .ref tc, .int tt])) ma = some (oI 8 gma) := (fx_up_n _ _ (fx_ne h_ma h_mo rfl)).trans h_ma
  have h1_mo : (fx_up f mo (oO 11 [.int (nI 0), .int sa, .ref la, .ref ma, .ref it, .ref rl, .ref fr, .ref li, .ref wa, .ref ld, .int ac, .ref tp, .int tn, .int cu, .int sr, .int tk, .int va, .int ft, .int fA, .int lt, .ref so, .ref ik, .ref kp, .ref kl, .ref tc, .int tt])) mo = some (oO 11 [.int (nI 0), .int sa, .ref la, .ref ma, .ref it, .ref rl, .ref fr, .ref li, .ref wa, .ref ld, .int ac, .ref tp, .int tn, .int cu, .int sr, .int tk, .int va, .int ft, .int fA, .int lt, .ref so, .ref ik, .ref kp, .ref kl, .ref tc, .int tt]) := fx_up_s _ _ _
  refine lv_iload_n hx hb dX12_drop_5 rfl (lv_at hl 1 rfl) ?_
  refine fx_go1 hH (fx_runS C hH hl.1 (As := [.int (nI kk)]) (rest := []) (c_X12_isRow (G := G) (base := base) (l := l) (f := fx_up f mo (oO 11 [.int (nI 0), .int sa, .ref la, .ref ma, .ref it, .ref rl, .ref fr, .ref li, .ref wa, .ref ld, .int ac, .ref tp, .int tn, .int cu, .int sr, .int tk, .int va, .int ft, .int fA, .int lt, .ref so, .ref ik, .ref kp, .ref kl, .ref tc, .int tt])) (sz := sz) (r := nI kk) ) mY_X12_isRow ml_X12_68 st_X12_isRow rfl ⟨(Nat.le_of_ble_eq_true rfl), (Nat.le_of_ble_eq_true rfl)⟩ rfl (Nat.le_of_ble_eq_true rfl) ⟨(Nat.le_of_ble_eq_true rfl), (Nat.le_of_ble_eq_true rfl)⟩ dX12_drop_6) (fun H locs hH => ?_)
  refine fx_b_ne hx hb (tgt := 15) dX12_drop_9 (by decide) (fun c9 => ?_) (fun c9 => absurd (rng1' (by omega) (by omega) (by omega)) c9)
  refine lv_aload_n hx hb dX12_drop_15 rfl (lv_at hl 0 rfl) ?_
  refine lv_iconst (v := nI 0) hx hb dX12_drop_16 (by decide) ?_
  refine fx_putT C hH (k := 1) h1_mo ff_X12_58_11 fL_11 fT_11_1 rfl rfl (Nat.le_of_ble_eq_true rfl) dX12_drop_17 (fun H locs hH => ?_)
  have hH : fx_H G base s (fx_up (fx_up f mo (oO 11 [.int (nI 0), .int sa, .ref la, .ref ma, .ref it, .ref rl, .ref fr, .ref li, .ref wa, .ref ld, .int ac, .ref tp, .int tn, .int cu, .int sr, .int tk, .int va, .int ft, .int fA, .int lt, .ref so, .ref ik, .ref kp, .ref kl, .ref tc, .int tt])) mo (oO 11 [.int (nI 0), .int (nI 0), .ref la, .ref ma, .ref it, .ref rl, .ref fr, .ref li, .ref wa, .ref ld, .int ac, .ref tp, .int tn, .int cu, .int sr, .int tk, .int va, .int ft, .int fA, .int lt, .ref so, .ref ik, .ref kp, .ref kl, .ref tc, .int tt])) sz H locs := hH
  rw [fx_up_up] at hH
  have hH : fx_H G base s (fx_up f mo (oO 11 [.int (nI 0), .int (nI 0), .ref la, .ref ma, .ref it, .ref rl, .ref fr, .ref li, .ref wa, .ref ld, .int ac, .ref tp, .int tn, .int cu, .int sr, .int tk, .int va, .int ft, .int fA, .int lt, .ref so, .ref ik, .ref kp, .ref kl, .ref tc, .int tt])) sz H locs := hH
  have heq2 : fx_up (fx_up f mo (oO 11 [.int (nI 0), .int sa, .ref la, .ref ma, .ref it, .ref rl, .ref fr, .ref li, .ref wa, .ref ld, .int ac, .ref tp, .int tn, .int cu, .int sr, .int tk, .int va, .int ft, .int fA, .int lt, .ref so, .ref ik, .ref kp, .ref kl, .ref tc, .int tt])) mo (oO 11 [.int (nI 0), .int (nI 0), .ref la, .ref ma, .ref it, .ref rl, .ref fr, .ref li, .ref wa, .ref ld, .int ac, .ref tp, .int tn, .int cu, .int sr, .int tk, .int va, .int ft, .int fA, .int lt, .ref so, .ref ik, .ref kp, .ref kl, .ref tc, .int tt]) = fx_up f mo (oO 11 [.int (nI 0), .int (nI 0), .ref la, .ref ma, .ref it, .ref rl, .ref fr, .ref li, .ref wa, .ref ld, .int ac, .ref tp, .int tn, .int cu, .int sr, .int tk, .int va, .int ft, .int fA, .int lt, .ref so, .ref ik, .ref kp, .ref kl, .ref tc, .int tt]) := by rw [fx_up_up]
  have h2_la : (fx_up f mo (oO 11 [.int (nI 0), .int (nI 0), .ref la, .ref ma, .ref it, .ref rl, .ref fr, .ref li, .ref wa, .ref ld, .int ac, .ref tp, .int tn, .int cu, .int sr, .int tk, .int va, .int ft, .int fA, .int lt, .ref so, .ref ik, .ref kp, .ref kl, .ref tc, .int tt])) la = some (oI 8 gla) := (congrFun heq2 la).symm.trans ((fx_up_n _ _ (fx_ne h1_la h1_mo rfl)).trans h1_la)
  have h2_ma : (fx_up f mo (oO 11 [.int (nI 0), .int (nI 0), .ref la, .ref ma, .ref it, .ref rl, .ref fr, .ref li, .ref wa, .ref ld, .int ac, .ref tp, .int tn, .int cu, .int sr, .int tk, .int va, .int ft, .int fA, .int lt, .ref so, .ref ik, .ref kp, .ref kl, .ref tc, .int tt])) ma = some (oI 8 gma) := (congrFun heq2 ma).symm.trans ((fx_up_n _ _ (fx_ne h1_ma h1_mo rfl)).trans h1_ma)
  have h2_mo : (fx_up f mo (oO 11 [.int (nI 0), .int (nI 0), .ref la, .ref ma, .ref it, .ref rl, .ref fr, .ref li, .ref wa, .ref ld, .int ac, .ref tp, .int tn, .int cu, .int sr, .int tk, .int va, .int ft, .int fA, .int lt, .ref so, .ref ik, .ref kp, .ref kl, .ref tc, .int tt])) mo = some (oO 11 [.int (nI 0), .int (nI 0), .ref la, .ref ma, .ref it, .ref rl, .ref fr, .ref li, .ref wa, .ref ld, .int ac, .ref tp, .int tn, .int cu, .int sr, .int tk, .int va, .int ft, .int fA, .int lt, .ref so, .ref ik, .ref kp, .ref kl, .ref tc, .int tt]) := (congrFun heq2 mo).symm.trans (fx_up_s _ _ _)
  refine lv_aload_n hx hb dX12_drop_20 rfl (lv_at hl 0 rfl) ?_
  refine fx_get C hH (k := 2) (v := .ref la) h2_mo ff_X12_7_11 rfl dX12_drop_21 ?_
  refine lv_iload_n hx hb dX12_drop_24 rfl (lv_at hl 1 rfl) ?_
  refine fx_ialdN C hH h2_la (by omega) (by omega) dX12_drop_25 ?_
  refine lv_if_ge hx hb (tgt := 35) dX12_drop_26 (by decide) (fun c26 => ?_) (fun c26 => ?_)
  · refine lv_aload_n hx hb dX12_drop_35 rfl (lv_at hl 0 rfl) ?_
    refine fx_get C hH (k := 2) (v := .ref la) h2_mo ff_X12_7_11 rfl dX12_drop_36 ?_
    refine lv_iload_n hx hb dX12_drop_39 rfl (lv_at hl 1 rfl) ?_
    refine lv_iconst (v := (-1)) hx hb dX12_drop_40 (by decide) ?_
    refine fx_iastN C hH h2_la (by omega) (by omega) dX12_drop_41 (fun H locs hH => ?_)
    have hH : fx_H G base s (fx_up (fx_up f mo (oO 11 [.int (nI 0), .int (nI 0), .ref la, .ref ma, .ref it, .ref rl, .ref fr, .ref li, .ref wa, .ref ld, .int ac, .ref tp, .int tn, .int cu, .int sr, .int tk, .int va, .int ft, .int fA, .int lt, .ref so, .ref ik, .ref kp, .ref kl, .ref tc, .int tt])) la (oI 8 (upd gla kk (-1)))) sz H locs := hH
    have h3_ma : (fx_up (fx_up f mo (oO 11 [.int (nI 0), .int (nI 0), .ref la, .ref ma, .ref it, .ref rl, .ref fr, .ref li, .ref wa, .ref ld, .int ac, .ref tp, .int tn, .int cu, .int sr, .int tk, .int va, .int ft, .int fA, .int lt, .ref so, .ref ik, .ref kp, .ref kl, .ref tc, .int tt])) la (oI 8 (upd gla kk (-1)))) ma = some (oI 8 gma) := (fx_up_n _ _ (Ne.symm hne_0)).trans h2_ma
    have h3_mo : (fx_up (fx_up f mo (oO 11 [.int (nI 0), .int (nI 0), .ref la, .ref ma, .ref it, .ref rl, .ref fr, .ref li, .ref wa, .ref ld, .int ac, .ref tp, .int tn, .int cu, .int sr, .int tk, .int va, .int ft, .int fA, .int lt, .ref so, .ref ik, .ref kp, .ref kl, .ref tc, .int tt])) la (oI 8 (upd gla kk (-1)))) mo = some (oO 11 [.int (nI 0), .int (nI 0), .ref la, .ref ma, .ref it, .ref rl, .ref fr, .ref li, .ref wa, .ref ld, .int ac, .ref tp, .int tn, .int cu, .int sr, .int tk, .int va, .int ft, .int fA, .int lt, .ref so, .ref ik, .ref kp, .ref kl, .ref tc, .int tt]) := (fx_up_n _ _ (fx_ne h2_mo h2_la rfl)).trans h2_mo
    have h3_la : (fx_up (fx_up f mo (oO 11 [.int (nI 0), .int (nI 0), .ref la, .ref ma, .ref it, .ref rl, .ref fr, .ref li, .ref wa, .ref ld, .int ac, .ref tp, .int tn, .int cu, .int sr, .int tk, .int va, .int ft, .int fA, .int lt, .ref so, .ref ik, .ref kp, .ref kl, .ref tc, .int tt])) la (oI 8 (upd gla kk (-1)))) la = some (oI 8 (upd gla kk (-1))) := fx_up_s _ _ _
    refine lv_aload_n hx hb dX12_drop_42 rfl (lv_at hl 0 rfl) ?_
    refine fx_get C hH (k := 3) (v := .ref ma) h3_mo ff_X12_13_11 rfl dX12_drop_43 ?_
    refine lv_iload_n hx hb dX12_drop_46 rfl (lv_at hl 1 rfl) ?_
    refine fx_ialdN C hH h3_ma (by omega) (by omega) dX12_drop_47 ?_
    exact fx_iretP C hr hk hH (K1 c26) (Nat.zero_le _) (Nat.zero_le _) dX12_drop_48
  · refine lv_aload_n hx hb dX12_drop_29 rfl (lv_at hl 0 rfl) ?_
    refine lv_iconst (v := nI 1) hx hb dX12_drop_30 (by decide) ?_
    refine fx_go1 hH (fx_runV C hH hl.1 (As := [.int (nI 1)]) (rest := []) (c_X12_finding (G := G) (base := base) (l := l) (f := fx_up f mo (oO 11 [.int (nI 0), .int (nI 0), .ref la, .ref ma, .ref it, .ref rl, .ref fr, .ref li, .ref wa, .ref ld, .int ac, .ref tp, .int tn, .int cu, .int sr, .int tk, .int va, .int ft, .int fA, .int lt, .ref so, .ref ik, .ref kp, .ref kl, .ref tc, .int tt])) (sz := sz) (mo := mo) (nn := nI 1) (th := nI 0) (sa := nI 0) (la := la) (ma := ma) (it := it) (rl := rl) (fr := fr) (li := li) (wa := wa) (ld := ld) (ac := ac) (tp := tp) (tn := tn) (cu := cu) (sr := sr) (tk := tk) (va := va) (ft := ft) (fA := fA) (lt := lt) (so := so) (ik := ik) (kp := kp) (kl := kl) (tc := tc) (tt := tt) h2_mo) mY_X12_finding ml_X12_75 im_X12_finding se_X12_X12_finding h2_mo rfl rfl ⟨(Nat.le_of_ble_eq_true rfl), (Nat.le_of_ble_eq_true rfl)⟩ rfl (Nat.le_of_ble_eq_true rfl) ⟨(Nat.le_of_ble_eq_true rfl), (Nat.le_of_ble_eq_true rfl)⟩ dX12_drop_31) (fun H locs hH => ?_)
    have hH : fx_H G base s (fx_up (fx_up f mo (oO 11 [.int (nI 0), .int (nI 0), .ref la, .ref ma, .ref it, .ref rl, .ref fr, .ref li, .ref wa, .ref ld, .int ac, .ref tp, .int tn, .int cu, .int sr, .int tk, .int va, .int ft, .int fA, .int lt, .ref so, .ref ik, .ref kp, .ref kl, .ref tc, .int tt])) mo (oO 11 [.int (nI 0), .int (nI 1), .ref la, .ref ma, .ref it, .ref rl, .ref fr, .ref li, .ref wa, .ref ld, .int ac, .ref tp, .int tn, .int cu, .int sr, .int tk, .int va, .int ft, .int fA, .int lt, .ref so, .ref ik, .ref kp, .ref kl, .ref tc, .int tt])) sz H locs := hH
    have heq4 : fx_up (fx_up f mo (oO 11 [.int (nI 0), .int (nI 0), .ref la, .ref ma, .ref it, .ref rl, .ref fr, .ref li, .ref wa, .ref ld, .int ac, .ref tp, .int tn, .int cu, .int sr, .int tk, .int va, .int ft, .int fA, .int lt, .ref so, .ref ik, .ref kp, .ref kl, .ref tc, .int tt])) mo (oO 11 [.int (nI 0), .int (nI 1), .ref la, .ref ma, .ref it, .ref rl, .ref fr, .ref li, .ref wa, .ref ld, .int ac, .ref tp, .int tn, .int cu, .int sr, .int tk, .int va, .int ft, .int fA, .int lt, .ref so, .ref ik, .ref kp, .ref kl, .ref tc, .int tt]) = fx_up f mo (oO 11 [.int (nI 0), .int (nI 1), .ref la, .ref ma, .ref it, .ref rl, .ref fr, .ref li, .ref wa, .ref ld, .int ac, .ref tp, .int tn, .int cu, .int sr, .int tk, .int va, .int ft, .int fA, .int lt, .ref so, .ref ik, .ref kp, .ref kl, .ref tc, .int tt]) := by rw [fx_up_up]
    rw [heq4] at hH
    have h4_la : (fx_up f mo (oO 11 [.int (nI 0), .int (nI 1), .ref la, .ref ma, .ref it, .ref rl, .ref fr, .ref li, .ref wa, .ref ld, .int ac, .ref tp, .int tn, .int cu, .int sr, .int tk, .int va, .int ft, .int fA, .int lt, .ref so, .ref ik, .ref kp, .ref kl, .ref tc, .int tt])) la = some (oI 8 gla) := (congrFun heq4 la).symm.trans ((fx_up_n _ _ (fx_ne h2_la h2_mo rfl)).trans h2_la)
    have h4_ma : (fx_up f mo (oO 11 [.int (nI 0), .int (nI 1), .ref la, .ref ma, .ref it, .ref rl, .ref fr, .ref li, .ref wa, .ref ld, .int ac, .ref tp, .int tn, .int cu, .int sr, .int tk, .int va, .int ft, .int fA, .int lt, .ref so, .ref ik, .ref kp, .ref kl, .ref tc, .int tt])) ma = some (oI 8 gma) := (congrFun heq4 ma).symm.trans ((fx_up_n _ _ (fx_ne h2_ma h2_mo rfl)).trans h2_ma)
    have h4_mo : (fx_up f mo (oO 11 [.int (nI 0), .int (nI 1), .ref la, .ref ma, .ref it, .ref rl, .ref fr, .ref li, .ref wa, .ref ld, .int ac, .ref tp, .int tn, .int cu, .int sr, .int tk, .int va, .int ft, .int fA, .int lt, .ref so, .ref ik, .ref kp, .ref kl, .ref tc, .int tt])) mo = some (oO 11 [.int (nI 0), .int (nI 1), .ref la, .ref ma, .ref it, .ref rl, .ref fr, .ref li, .ref wa, .ref ld, .int ac, .ref tp, .int tn, .int cu, .int sr, .int tk, .int va, .int ft, .int fA, .int lt, .ref so, .ref ik, .ref kp, .ref kl, .ref tc, .int tt]) := (congrFun heq4 mo).symm.trans (fx_up_s _ _ _)
    have hH : fx_H G base s (fx_up f mo (oO 11 [.int (nI 0), .int (nI 1), .ref la, .ref ma, .ref it, .ref rl, .ref fr, .ref li, .ref wa, .ref ld, .int ac, .ref tp, .int tn, .int cu, .int sr, .int tk, .int va, .int ft, .int fA, .int lt, .ref so, .ref ik, .ref kp, .ref kl, .ref tc, .int tt])) sz H locs := hH
    exact fx_iretP C hr hk hH (K2 c26) (Nat.zero_le _) (Nat.zero_le _) dX12_drop_34
abbrev rm_X12_copy : Room := { frames := 2, cells := 0, slots := 0, locals := 45 }
set_option maxHeartbeats 4000000 in
set_option maxRecDepth 100000 in
theorem c_X12_copy_n {G : GG} {base : Nat} {l : Launch} {f : Hp} {sz : Nat} {Po : Option Value → Hp → Nat → Prop} {mo : Nat} {r : Int32} {i : Int32} {r2 : Int32} {j : Int32} {n : Int32} {th : Int32} {sa : Int32} {la : Nat} {ma : Nat} {it : Nat} {rl : Nat} {fr : Nat} {li : Nat} {wa : Nat} {ld : Nat} {ac : Int32} {tp : Nat} {tn : Int32} {cu : Int32} {sr : Int32} {tk : Int32} {va : Int32} {ft : Int32} {fA : Int32} {lt : Int32} {so : Nat} {ik : Nat} {kp : Nat} {kl : Nat} {tc : Nat} {tt : Int32} (h_mo : f mo = some (oO 11 [.int th, .int sa, .ref la, .ref ma, .ref it, .ref rl, .ref fr, .ref li, .ref wa, .ref ld, .int ac, .ref tp, .int tn, .int cu, .int sr, .int tk, .int va, .int ft, .int fA, .int lt, .ref so, .ref ik, .ref kp, .ref kl, .ref tc, .int tt])) (hr0 : ¬ (¬ r < nI 0 ∧ ¬ nI 7 < r)) (K1 : Po (some (.int (-1000001))) (fx_up f mo (oO 11 [.int (nI 0), .int sa, .ref la, .ref ma, .ref it, .ref rl, .ref fr, .ref li, .ref wa, .ref ld, .int ac, .ref tp, .int tn, .int cu, .int sr, .int tk, .int va, .int ft, .int fA, .int lt, .ref so, .ref ik, .ref kp, .ref kl, .ref tc, .int tt])) sz) : fx_MP G base l yX12_copy cX12_copy 9 (some .int) rm_X12_copy [.ref mo, .int r, .int i, .int r2, .int j, .int n] f sz Po := by
  refine fx_ofP (by decide +kernel) (Nat.le_of_ble_eq_true rfl) ?_
  intro p e s m args below meth c C hr hk hnm hH ls hl
  obtain ⟨locs, hlocs⟩ : ∃ L : List Loc, L = [] := ⟨_, rfl⟩
  rw [← hlocs] at hH ⊢
  generalize s.heap = H at hH ⊢
  have hx := C.1
  have hb := C.2.1
  have hl : lv_has ls 9 [(0, .ref mo), (1, .int r), (2, .int i), (3, .int r2), (4, .int j), (5, .int n)] := hl
  refine lv_aload_n hx hb dX12_copy_0 rfl (lv_at hl 0 rfl) ?_
  refine lv_iconst (v := nI 0) hx hb dX12_copy_1 (by decide) ?_
  refine fx_putT C hH (k := 0) h_mo ff_X12_54_11 fL_11 fT_11_0 rfl rfl (Nat.le_of_ble_eq_true rfl) dX12_copy_2 (fun H locs hH => ?_)
  have hH : fx_H G base s (fx_up f mo (oO 11 [.int (nI 0), .int sa, .ref la, .ref ma, .ref it, .ref rl, .ref fr, .ref li, .ref wa, .ref ld, .int ac, .ref tp, .int tn, .int cu, .int sr, .int tk, .int va, .int ft, .int fA, .int lt, .ref so, .ref ik, .ref kp, .ref kl, .ref tc, .int tt])) sz H locs := hH
  have h1_mo : (fx_up f mo (oO 11 [.int (nI 0), .int sa, .ref la, .ref ma, .ref it, .ref rl, .ref fr, .ref li, .ref wa, .ref ld, .int ac, .ref tp, .int tn, .int cu, .int sr, .int tk, .int va, .int ft, .int fA, .int lt, .ref so, .ref ik, .ref kp, .ref kl, .ref tc, .int tt])) mo = some (oO 11 [.int (nI 0), .int sa, .ref la, .ref ma, .ref it, .ref rl, .ref fr, .ref li, .ref wa, .ref ld, .int ac, .ref tp, .int tn, .int cu, .int sr, .int tk, .int va, .int ft, .int fA, .int lt, .ref so, .ref ik, .ref kp, .ref kl, .ref tc, .int tt]) := fx_up_s _ _ _
  refine lv_iload_n hx hb dX12_copy_5 rfl (lv_at hl 1 rfl) ?_
  refine fx_go1 hH (fx_runS C hH hl.1 (As := [.int r]) (rest := []) (c_X12_isRow (G := G) (base := base) (l := l) (f := fx_up f mo (oO 11 [.int (nI 0), .int sa, .ref la, .ref ma, .ref it, .ref rl, .ref fr, .ref li, .ref wa, .ref ld, .int ac, .ref tp, .int tn, .int cu, .int sr, .int tk, .int va, .int ft, .int fA, .int lt, .ref so, .ref ik, .ref kp, .ref kl, .ref tc, .int tt])) (sz := sz) (r := r) ) mY_X12_isRow ml_X12_68 st_X12_isRow rfl ⟨(Nat.le_of_ble_eq_true rfl), (Nat.le_of_ble_eq_true rfl)⟩ rfl (Nat.le_of_ble_eq_true rfl) ⟨(Nat.le_of_ble_eq_true rfl), (Nat.le_of_ble_eq_true rfl)⟩ dX12_copy_6) (fun H locs hH => ?_)
  refine fx_b_eq hx hb (tgt := 19) dX12_copy_9 (by decide) (fun c9 => ?_) (fun c9 => absurd c9 (hr0))
  refine lv_ldc (v := (-1000001)) hx hb C.2.2.2.1 (C.2.2.2.2.1 _ kI_X12_74 rfl args) dX12_copy_19 ?_
  exact fx_iretP C hr hk hH (K1 ) (Nat.zero_le _) (Nat.zero_le _) dX12_copy_21
set_option maxHeartbeats 4000000 in
set_option maxRecDepth 100000 in
theorem c_X12_copy_kn {G : GG} {base : Nat} {l : Launch} {f : Hp} {sz : Nat} {Po : Option Value → Hp → Nat → Prop} {mo : Nat} {kk : Nat} {i : Int32} {r2 : Int32} {j : Int32} {n : Int32} {th : Int32} {sa : Int32} {la : Nat} {ma : Nat} {it : Nat} {rl : Nat} {fr : Nat} {li : Nat} {wa : Nat} {ld : Nat} {ac : Int32} {tp : Nat} {tn : Int32} {cu : Int32} {sr : Int32} {tk : Int32} {va : Int32} {ft : Int32} {fA : Int32} {lt : Int32} {so : Nat} {ik : Nat} {kp : Nat} {kl : Nat} {tc : Nat} {tt : Int32} (h_mo : f mo = some (oO 11 [.int th, .int sa, .ref la, .ref ma, .ref it, .ref rl, .ref fr, .ref li, .ref wa, .ref ld, .int ac, .ref tp, .int tn, .int cu, .int sr, .int tk, .int va, .int ft, .int fA, .int lt, .ref so, .ref ik, .ref kp, .ref kl, .ref tc, .int tt])) (hkk : kk < 8) (hr2 : ¬ (¬ r2 < nI 0 ∧ ¬ nI 7 < r2)) (K1 : Po (some (.int (-1000001))) (fx_up f mo (oO 11 [.int (nI 0), .int sa, .ref la, .ref ma, .ref it, .ref rl, .ref fr, .ref li, .ref wa, .ref ld, .int ac, .ref tp, .int tn, .int cu, .int sr, .int tk, .int va, .int ft, .int fA, .int lt, .ref so, .ref ik, .ref kp, .ref kl, .ref tc, .int tt])) sz) : fx_MP G base l yX12_copy cX12_copy 9 (some .int) rm_X12_copy [.ref mo, .int (nI kk), .int i, .int r2, .int j, .int n] f sz Po := by
  refine fx_ofP (by decide +kernel) (Nat.le_of_ble_eq_true rfl) ?_
  intro p e s m args below meth c C hr hk hnm hH ls hl
  obtain ⟨locs, hlocs⟩ : ∃ L : List Loc, L = [] := ⟨_, rfl⟩
  rw [← hlocs] at hH ⊢
  generalize s.heap = H at hH ⊢
  have hx := C.1
  have hb := C.2.1
  have hl : lv_has ls 9 [(0, .ref mo), (1, .int (nI kk)), (2, .int i), (3, .int r2), (4, .int j), (5, .int n)] := hl
  refine lv_aload_n hx hb dX12_copy_0 rfl (lv_at hl 0 rfl) ?_
  refine lv_iconst (v := nI 0) hx hb dX12_copy_1 (by decide) ?_
  refine fx_putT C hH (k := 0) h_mo ff_X12_54_11 fL_11 fT_11_0 rfl rfl (Nat.le_of_ble_eq_true rfl) dX12_copy_2 (fun H locs hH => ?_)
  have hH : fx_H G base s (fx_up f mo (oO 11 [.int (nI 0), .int sa, .ref la, .ref ma, .ref it, .ref rl, .ref fr, .ref li, .ref wa, .ref ld, .int ac, .ref tp, .int tn, .int cu, .int sr, .int tk, .int va, .int ft, .int fA, .int lt, .ref so, .ref ik, .ref kp, .ref kl, .ref tc, .int tt])) sz H locs := hH
  have h1_mo : (fx_up f mo (oO 11 [.int (nI 0), .int sa, .ref la, .ref ma, .ref it, .ref rl, .ref fr, .ref li, .ref wa, .ref ld, .int ac, .ref tp, .int tn, .int cu, .int sr, .int tk, .int va, .int ft, .int fA, .int lt, .ref so, .ref ik, .ref kp, .ref kl, .ref tc, .int tt])) mo = some (oO 11 [.int (nI 0), .int sa, .ref la, .ref ma, .ref it, .ref rl, .ref fr, .ref li, .ref wa, .ref ld, .int ac, .ref tp, .int tn, .int cu, .int sr, .int tk, .int va, .int ft, .int fA, .int lt, .ref so, .ref ik, .ref kp, .ref kl, .ref tc, .int tt]) := fx_up_s _ _ _
  refine lv_iload_n hx hb dX12_copy_5 rfl (lv_at hl 1 rfl) ?_
  refine fx_go1 hH (fx_runS C hH hl.1 (As := [.int (nI kk)]) (rest := []) (c_X12_isRow (G := G) (base := base) (l := l) (f := fx_up f mo (oO 11 [.int (nI 0), .int sa, .ref la, .ref ma, .ref it, .ref rl, .ref fr, .ref li, .ref wa, .ref ld, .int ac, .ref tp, .int tn, .int cu, .int sr, .int tk, .int va, .int ft, .int fA, .int lt, .ref so, .ref ik, .ref kp, .ref kl, .ref tc, .int tt])) (sz := sz) (r := nI kk) ) mY_X12_isRow ml_X12_68 st_X12_isRow rfl ⟨(Nat.le_of_ble_eq_true rfl), (Nat.le_of_ble_eq_true rfl)⟩ rfl (Nat.le_of_ble_eq_true rfl) ⟨(Nat.le_of_ble_eq_true rfl), (Nat.le_of_ble_eq_true rfl)⟩ dX12_copy_6) (fun H locs hH => ?_)
  refine fx_b_eq hx hb (tgt := 19) dX12_copy_9 (by decide) (fun c9 => absurd c9 (fun z => z (rng1' (by omega) (by omega) (by omega)))) (fun c9 => ?_)
  refine lv_iload_n hx hb dX12_copy_12 rfl (lv_at hl 3 rfl) ?_
  refine fx_go1 hH (fx_runS C hH hl.1 (As := [.int r2]) (rest := []) (c_X12_isRow (G := G) (base := base) (l := l) (f := fx_up f mo (oO 11 [.int (nI 0), .int sa, .ref la, .ref ma, .ref it, .ref rl, .ref fr, .ref li, .ref wa, .ref ld, .int ac, .ref tp, .int tn, .int cu, .int sr, .int tk, .int va, .int ft, .int fA, .int lt, .ref so, .ref ik, .ref kp, .ref kl, .ref tc, .int tt])) (sz := sz) (r := r2) ) mY_X12_isRow ml_X12_68 st_X12_isRow rfl ⟨(Nat.le_of_ble_eq_true rfl), (Nat.le_of_ble_eq_true rfl)⟩ rfl (Nat.le_of_ble_eq_true rfl) ⟨(Nat.le_of_ble_eq_true rfl), (Nat.le_of_ble_eq_true rfl)⟩ dX12_copy_13) (fun H locs hH => ?_)
  refine fx_b_ne hx hb (tgt := 22) dX12_copy_16 (by decide) (fun c16 => absurd c16 (hr2)) (fun c16 => ?_)
  refine lv_ldc (v := (-1000001)) hx hb C.2.2.2.1 (C.2.2.2.2.1 _ kI_X12_74 rfl args) dX12_copy_19 ?_
  exact fx_iretP C hr hk hH (K1 ) (Nat.zero_le _) (Nat.zero_le _) dX12_copy_21
set_option maxHeartbeats 4000000 in
set_option maxRecDepth 100000 in
theorem c_X12_copy_kk {G : GG} {base : Nat} {l : Launch} {f : Hp} {sz : Nat} {Po : Option Value → Hp → Nat → Prop} {sn : Nat} {sn2 : Nat} {mo : Nat} {kk : Nat} {i : Int32} {kk2 : Nat} {j : Int32} {n : Int32} {th : Int32} {sa : Int32} {la : Nat} {ma : Nat} {it : Nat} {rl : Nat} {fr : Nat} {li : Nat} {wa : Nat} {ld : Nat} {ac : Int32} {tp : Nat} {tn : Int32} {cu : Int32} {sr : Int32} {tk : Int32} {va : Int32} {ft : Int32} {fA : Int32} {lt : Int32} {so : Nat} {ik : Nat} {kp : Nat} {kl : Nat} {tc : Nat} {tt : Int32} {gla : Nat → Int32} {gma : Nat → Int32} {git : Nat → Int32} (h_mo : f mo = some (oO 11 [.int th, .int sa, .ref la, .ref ma, .ref it, .ref rl, .ref fr, .ref li, .ref wa, .ref ld, .int ac, .ref tp, .int tn, .int cu, .int sr, .int tk, .int va, .int ft, .int fA, .int lt, .ref so, .ref ik, .ref kp, .ref kl, .ref tc, .int tt])) (h_la : f la = some (oI 8 gla)) (h_ma : f ma = some (oI 8 gma)) (h_it : f it = some (oI 320 git)) (hne_0 : la ≠ ma) (hne_1 : la ≠ it) (hne_2 : ma ≠ it) (hkk : kk < 8) (hgm : gma kk = nI sn) (hsn : sn ≤ 40) (hkk2 : kk2 < 8) (hgm2 : gma kk2 = nI sn2) (hsn2 : sn2 ≤ 40) (K1 : ∀ (c33 : (gla kk) < (0 : Int32)), Po (some (.int ((-1000010) - (nI 1)))) (fx_up f mo (oO 11 [.int (nI 0), .int (nI 1), .ref la, .ref ma, .ref it, .ref rl, .ref fr, .ref li, .ref wa, .ref ld, .int ac, .ref tp, .int tn, .int cu, .int sr, .int tk, .int va, .int ft, .int fA, .int lt, .ref so, .ref ik, .ref kp, .ref kl, .ref tc, .int tt])) sz)
    (K2 : ∀ (c33 : ¬ (gla kk) < (0 : Int32)), ∀ (c42 : (0 : Int32) ≤ (gla kk2)), ∀ (c63 : (gla kk) = (gla kk2)), ∀ (c73 : i < (0 : Int32)), Po (some (.int ((-1000010) - (nI 2)))) (fx_up f mo (oO 11 [.int (nI 0), .int (nI 2), .ref la, .ref ma, .ref it, .ref rl, .ref fr, .ref li, .ref wa, .ref ld, .int ac, .ref tp, .int tn, .int cu, .int sr, .int tk, .int va, .int ft, .int fA, .int lt, .ref so, .ref ik, .ref kp, .ref kl, .ref tc, .int tt])) sz)
    (K3 : ∀ (c33 : ¬ (gla kk) < (0 : Int32)), ∀ (c42 : (0 : Int32) ≤ (gla kk2)), ∀ (c63 : (gla kk) = (gla kk2)), ∀ (c73 : ¬ i < (0 : Int32)), ∀ (c78 : j < (0 : Int32)), Po (some (.int ((-1000010) - (nI 2)))) (fx_up f mo (oO 11 [.int (nI 0), .int (nI 2), .ref la, .ref ma, .ref it, .ref rl, .ref fr, .ref li, .ref wa, .ref ld, .int ac, .ref tp, .int tn, .int cu, .int sr, .int tk, .int va, .int ft, .int fA, .int lt, .ref so, .ref ik, .ref kp, .ref kl, .ref tc, .int tt])) sz)
    (K4 : ∀ (c33 : ¬ (gla kk) < (0 : Int32)), ∀ (c42 : (0 : Int32) ≤ (gla kk2)), ∀ (c63 : (gla kk) = (gla kk2)), ∀ (c73 : ¬ i < (0 : Int32)), ∀ (c78 : ¬ j < (0 : Int32)), ∀ (c83 : n < (0 : Int32)), Po (some (.int ((-1000010) - (nI 2)))) (fx_up f mo (oO 11 [.int (nI 0), .int (nI 2), .ref la, .ref ma, .ref it, .ref rl, .ref fr, .ref li, .ref wa, .ref ld, .int ac, .ref tp, .int tn, .int cu, .int sr, .int tk, .int va, .int ft, .int fA, .int lt, .ref so, .ref ik, .ref kp, .ref kl, .ref tc, .int tt])) sz)
    (K5 : ∀ (c33 : ¬ (gla kk) < (0 : Int32)), ∀ (c42 : (0 : Int32) ≤ (gla kk2)), ∀ (c63 : (gla kk) = (gla kk2)), ∀ (c73 : ¬ i < (0 : Int32)), ∀ (c78 : ¬ j < (0 : Int32)), ∀ (c83 : ¬ n < (0 : Int32)), ∀ (c100 : ((gma kk).toInt64) < (i.toInt64 + n.toInt64)), Po (some (.int ((-1000010) - (nI 2)))) (fx_up f mo (oO 11 [.int (nI 0), .int (nI 2), .ref la, .ref ma, .ref it, .ref rl, .ref fr, .ref li, .ref wa, .ref ld, .int ac, .ref tp, .int tn, .int cu, .int sr, .int tk, .int va, .int ft, .int fA, .int lt, .ref so, .ref ik, .ref kp, .ref kl, .ref tc, .int tt])) sz)
    (K6 : ∀ (c33 : ¬ (gla kk) < (0 : Int32)), ∀ (c42 : (0 : Int32) ≤ (gla kk2)), ∀ (c63 : (gla kk) = (gla kk2)), ∀ (c73 : ¬ i < (0 : Int32)), ∀ (c78 : ¬ j < (0 : Int32)), ∀ (c83 : ¬ n < (0 : Int32)), ∀ (c100 : ¬ ((gma kk).toInt64) < (i.toInt64 + n.toInt64)), ∀ (c118 : (j.toInt64 + n.toInt64) ≤ ((gma kk2).toInt64)), ∀ (ix : Nat), ∀ (n2 : Nat), ∀ (jx : Nat), ∀ (hix : ix + n2 ≤ sn), ∀ (hjx : jx + n2 ≤ sn2), ∀ (hie : i = nI ix), ∀ (hne : n = nI n2), ∀ (hje : j = nI jx), ∀ (c130 : ix < jx), ∀ (k_ : Nat), ∀ (hk_ : k_ ≤ n2), ∀ (c147 : n2 ≤ k_), Po (some (.int (nI n2))) (fx_up (fx_up f mo (oO 11 [.int (nI 0), .int (nI 0), .ref la, .ref ma, .ref it, .ref rl, .ref fr, .ref li, .ref wa, .ref ld, .int ac, .ref tp, .int tn, .int cu, .int sr, .int tk, .int va, .int ft, .int fA, .int lt, .ref so, .ref ik, .ref kp, .ref kl, .ref tc, .int tt])) it (oI 320 (cpG git (40 * kk + ix) (40 * kk2 + jx) (n2 - k_) n2))) sz)
    (K7 : ∀ (c33 : ¬ (gla kk) < (0 : Int32)), ∀ (c42 : (0 : Int32) ≤ (gla kk2)), ∀ (c63 : (gla kk) = (gla kk2)), ∀ (c73 : ¬ i < (0 : Int32)), ∀ (c78 : ¬ j < (0 : Int32)), ∀ (c83 : ¬ n < (0 : Int32)), ∀ (c100 : ¬ ((gma kk).toInt64) < (i.toInt64 + n.toInt64)), ∀ (c118 : (j.toInt64 + n.toInt64) ≤ ((gma kk2).toInt64)), ∀ (ix : Nat), ∀ (n2 : Nat), ∀ (jx : Nat), ∀ (hix : ix + n2 ≤ sn), ∀ (hjx : jx + n2 ≤ sn2), ∀ (hie : i = nI ix), ∀ (hne : n = nI n2), ∀ (hje : j = nI jx), ∀ (c130 : jx ≤ ix), ∀ (k_ : Nat), ∀ (hk_ : k_ ≤ n2), ∀ (c147 : n2 ≤ k_), Po (some (.int (nI n2))) (fx_up (fx_up f mo (oO 11 [.int (nI 0), .int (nI 0), .ref la, .ref ma, .ref it, .ref rl, .ref fr, .ref li, .ref wa, .ref ld, .int ac, .ref tp, .int tn, .int cu, .int sr, .int tk, .int va, .int ft, .int fA, .int lt, .ref so, .ref ik, .ref kp, .ref kl, .ref tc, .int tt])) it (oI 320 (cpG git (40 * kk + ix) (40 * kk2 + jx) 0 k_))) sz)
    (K8 : ∀ (c33 : ¬ (gla kk) < (0 : Int32)), ∀ (c42 : (0 : Int32) ≤ (gla kk2)), ∀ (c63 : (gla kk) = (gla kk2)), ∀ (c73 : ¬ i < (0 : Int32)), ∀ (c78 : ¬ j < (0 : Int32)), ∀ (c83 : ¬ n < (0 : Int32)), ∀ (c100 : ¬ ((gma kk).toInt64) < (i.toInt64 + n.toInt64)), ∀ (c118 : ¬ (j.toInt64 + n.toInt64) ≤ ((gma kk2).toInt64)), Po (some (.int ((-1000010) - (nI 2)))) (fx_up f mo (oO 11 [.int (nI 0), .int (nI 2), .ref la, .ref ma, .ref it, .ref rl, .ref fr, .ref li, .ref wa, .ref ld, .int ac, .ref tp, .int tn, .int cu, .int sr, .int tk, .int va, .int ft, .int fA, .int lt, .ref so, .ref ik, .ref kp, .ref kl, .ref tc, .int tt])) sz)
    (K9 : ∀ (c33 : ¬ (gla kk) < (0 : Int32)), ∀ (c42 : (0 : Int32) ≤ (gla kk2)), ∀ (c63 : ¬ (gla kk) = (gla kk2)), Po (some (.int ((-1000010) - (nI 5)))) (fx_up f mo (oO 11 [.int (nI 0), .int (nI 5), .ref la, .ref ma, .ref it, .ref rl, .ref fr, .ref li, .ref wa, .ref ld, .int ac, .ref tp, .int tn, .int cu, .int sr, .int tk, .int va, .int ft, .int fA, .int lt, .ref so, .ref ik, .ref kp, .ref kl, .ref tc, .int tt])) sz)
    (K10 : ∀ (c33 : ¬ (gla kk) < (0 : Int32)), ∀ (c42 : ¬ (0 : Int32) ≤ (gla kk2)), Po (some (.int ((-1000010) - (nI 1)))) (fx_up f mo (oO 11 [.int (nI 0), .int (nI 1), .ref la, .ref ma, .ref it, .ref rl, .ref fr, .ref li, .ref wa, .ref ld, .int ac, .ref tp, .int tn, .int cu, .int sr, .int tk, .int va, .int ft, .int fA, .int lt, .ref so, .ref ik, .ref kp, .ref kl, .ref tc, .int tt])) sz) : fx_MP G base l yX12_copy cX12_copy 9 (some .int) rm_X12_copy [.ref mo, .int (nI kk), .int i, .int (nI kk2), .int j, .int n] f sz Po := by
  refine fx_ofP (by decide +kernel) (Nat.le_of_ble_eq_true rfl) ?_
  intro p e s m args below meth c C hr hk hnm hH ls hl
  obtain ⟨locs, hlocs⟩ : ∃ L : List Loc, L = [] := ⟨_, rfl⟩
  rw [← hlocs] at hH ⊢
  generalize s.heap = H at hH ⊢
  have hx := C.1
  have hb := C.2.1
  have hl : lv_has ls 9 [(0, .ref mo), (1, .int (nI kk)), (2, .int i), (3, .int (nI kk2)), (4, .int j), (5, .int n)] := hl
  refine lv_aload_n hx hb dX12_copy_0 rfl (lv_at hl 0 rfl) ?_
  refine lv_iconst (v := nI 0) hx hb dX12_copy_1 (by decide) ?_
  refine fx_putT C hH (k := 0) h_mo ff_X12_54_11 fL_11 fT_11_0 rfl rfl (Nat.le_of_ble_eq_true rfl) dX12_copy_2 (fun H locs hH => ?_)
  have hH : fx_H G base s (fx_up f mo (oO 11 [.int (nI 0), .int sa, .ref la, .ref ma, .ref it, .ref rl, .ref fr, .ref li, .ref wa, .ref ld, .int ac, .ref tp, .int tn, .int cu, .int sr, .int tk, .int va, .int ft, .int fA, .int lt, .ref so, .ref ik, .ref kp, .ref kl, .ref tc, .int tt])) sz H locs := hH
  have h1_la : (fx_up f mo (oO 11 [.int (nI 0), .int sa, .ref la, .ref ma, .ref it, .ref rl, .ref fr, .ref li, .ref wa, .ref ld, .int ac, .ref tp, .int tn, .int cu, .int sr, .int tk, .int va, .int ft, .int fA, .int lt, .ref so, .ref ik, .ref kp, .ref kl, .ref tc, .int tt])) la = some (oI 8 gla) := (fx_up_n _ _ (fx_ne h_la h_mo rfl)).trans h_la
  have h1_ma : (fx_up f mo (oO 11 [.int (nI 0), .int sa, .ref la, .ref ma, .ref it, .ref rl, .ref fr, .ref li, .ref wa, .ref ld, .int ac, .ref tp, .int tn, .int cu, .int sr, .int tk, .int va, .int ft, .int fA, .int lt, .ref so, .ref ik, .ref kp, .ref kl, .ref tc, .int tt])) ma = some (oI 8 gma) := (fx_up_n _ _ (fx_ne h_ma h_mo rfl)).trans h_ma
  have h1_it : (fx_up f mo (oO 11 [.int (nI 0), .int sa, .ref la, .ref ma, .ref it, .ref rl, .ref fr, .ref li, .ref wa, .ref ld, .int ac, .ref tp, .int tn, .int cu, .int sr, .int tk, .int va, .int ft, .int fA, .int lt, .ref so, .ref ik, .ref kp, .ref kl, .ref tc, .int tt])) it = some (oI 320 git) := (fx_up_n _ _ (fx_ne h_it h_mo rfl)).trans h_it
  have h1_mo : (fx_up f mo (oO 11 [.int (nI 0), .int sa, .ref la, .ref ma, .ref it, .ref rl, .ref fr, .ref li, .ref wa, .ref ld, .int ac, .ref tp, .int tn, .int cu, .int sr, .int tk, .int va, .int ft, .int fA, .int lt, .ref so, .ref ik, .ref kp, .ref kl, .ref tc, .int tt])) mo = some (oO 11 [.int (nI 0), .int sa, .ref la, .ref ma, .ref it, .ref rl, .ref fr, .ref li, .ref wa, .ref ld, .int ac, .ref tp, .int tn, .int cu, .int sr, .int tk, .int va, .int ft, .int fA, .int lt, .ref so, .ref ik, .ref kp, .ref kl, .ref tc, .int tt]) := fx_up_s _ _ _
  refine lv_iload_n hx hb dX12_copy_5 rfl (lv_at hl 1 rfl) ?_
  refine fx_go1 hH (fx_runS C hH hl.1 (As := [.int (nI kk)]) (rest := []) (c_X12_isRow (G := G) (base := base) (l := l) (f := fx_up f mo (oO 11 [.int (nI 0), .int sa, .ref la, .ref ma, .ref it, .ref rl, .ref fr, .ref li, .ref wa, .ref ld, .int ac, .ref tp, .int tn, .int cu, .int sr, .int tk, .int va, .int ft, .int fA, .int lt, .ref so, .ref ik, .ref kp, .ref kl, .ref tc, .int tt])) (sz := sz) (r := nI kk) ) mY_X12_isRow ml_X12_68 st_X12_isRow rfl ⟨(Nat.le_of_ble_eq_true rfl), (Nat.le_of_ble_eq_true rfl)⟩ rfl (Nat.le_of_ble_eq_true rfl) ⟨(Nat.le_of_ble_eq_true rfl), (Nat.le_of_ble_eq_true rfl)⟩ dX12_copy_6) (fun H locs hH => ?_)
  refine fx_b_eq hx hb (tgt := 19) dX12_copy_9 (by decide) (fun c9 => absurd c9 (fun z => z (rng1' (by omega) (by omega) (by omega)))) (fun c9 => ?_)
  refine lv_iload_n hx hb dX12_copy_12 rfl (lv_at hl 3 rfl) ?_
  refine fx_go1 hH (fx_runS C hH hl.1 (As := [.int (nI kk2)]) (rest := []) (c_X12_isRow (G := G) (base := base) (l := l) (f := fx_up f mo (oO 11 [.int (nI 0), .int sa, .ref la, .ref ma, .ref it, .ref rl, .ref fr, .ref li, .ref wa, .ref ld, .int ac, .ref tp, .int tn, .int cu, .int sr, .int tk, .int va, .int ft, .int fA, .int lt, .ref so, .ref ik, .ref kp, .ref kl, .ref tc, .int tt])) (sz := sz) (r := nI kk2) ) mY_X12_isRow ml_X12_68 st_X12_isRow rfl ⟨(Nat.le_of_ble_eq_true rfl), (Nat.le_of_ble_eq_true rfl)⟩ rfl (Nat.le_of_ble_eq_true rfl) ⟨(Nat.le_of_ble_eq_true rfl), (Nat.le_of_ble_eq_true rfl)⟩ dX12_copy_13) (fun H locs hH => ?_)
  refine fx_b_ne hx hb (tgt := 22) dX12_copy_16 (by decide) (fun c16 => ?_) (fun c16 => absurd (rng1' (by omega) (by omega) (by omega)) c16)
  refine lv_aload_n hx hb dX12_copy_22 rfl (lv_at hl 0 rfl) ?_
  refine lv_iconst (v := nI 0) hx hb dX12_copy_23 (by decide) ?_
  refine fx_putT C hH (k := 1) h1_mo ff_X12_58_11 fL_11 fT_11_1 rfl rfl (Nat.le_of_ble_eq_true rfl) dX12_copy_24 (fun H locs hH => ?_)
  have hH : fx_H G base s (fx_up (fx_up f mo (oO 11 [.int (nI 0), .int sa, .ref la, .ref ma, .ref it, .ref rl, .ref fr, .ref li, .ref wa, .ref ld, .int ac, .ref tp, .int tn, .int cu, .int sr, .int tk, .int va, .int ft, .int fA, .int lt, .ref so, .ref ik, .ref kp, .ref kl, .ref tc, .int tt])) mo (oO 11 [.int (nI 0), .int (nI 0), .ref la, .ref ma, .ref it, .ref rl, .ref fr, .ref li, .ref wa, .ref ld, .int ac, .ref tp, .int tn, .int cu, .int sr, .int tk, .int va, .int ft, .int fA, .int lt, .ref so, .ref ik, .ref kp, .ref kl, .ref tc, .int tt])) sz H locs := hH
  rw [fx_up_up] at hH
  have hH : fx_H G base s (fx_up f mo (oO 11 [.int (nI 0), .int (nI 0), .ref la, .ref ma, .ref it, .ref rl, .ref fr, .ref li, .ref wa, .ref ld, .int ac, .ref tp, .int tn, .int cu, .int sr, .int tk, .int va, .int ft, .int fA, .int lt, .ref so, .ref ik, .ref kp, .ref kl, .ref tc, .int tt])) sz H locs := hH
  have heq2 : fx_up (fx_up f mo (oO 11 [.int (nI 0), .int sa, .ref la, .ref ma, .ref it, .ref rl, .ref fr, .ref li, .ref wa, .ref ld, .int ac, .ref tp, .int tn, .int cu, .int sr, .int tk, .int va, .int ft, .int fA, .int lt, .ref so, .ref ik, .ref kp, .ref kl, .ref tc, .int tt])) mo (oO 11 [.int (nI 0), .int (nI 0), .ref la, .ref ma, .ref it, .ref rl, .ref fr, .ref li, .ref wa, .ref ld, .int ac, .ref tp, .int tn, .int cu, .int sr, .int tk, .int va, .int ft, .int fA, .int lt, .ref so, .ref ik, .ref kp, .ref kl, .ref tc, .int tt]) = fx_up f mo (oO 11 [.int (nI 0), .int (nI 0), .ref la, .ref ma, .ref it, .ref rl, .ref fr, .ref li, .ref wa, .ref ld, .int ac, .ref tp, .int tn, .int cu, .int sr, .int tk, .int va, .int ft, .int fA, .int lt, .ref so, .ref ik, .ref kp, .ref kl, .ref tc, .int tt]) := by rw [fx_up_up]
  have h2_la : (fx_up f mo (oO 11 [.int (nI 0), .int (nI 0), .ref la, .ref ma, .ref it, .ref rl, .ref fr, .ref li, .ref wa, .ref ld, .int ac, .ref tp, .int tn, .int cu, .int sr, .int tk, .int va, .int ft, .int fA, .int lt, .ref so, .ref ik, .ref kp, .ref kl, .ref tc, .int tt])) la = some (oI 8 gla) := (congrFun heq2 la).symm.trans ((fx_up_n _ _ (fx_ne h1_la h1_mo rfl)).trans h1_la)
  have h2_ma : (fx_up f mo (oO 11 [.int (nI 0), .int (nI 0), .ref la, .ref ma, .ref it, .ref rl, .ref fr, .ref li, .ref wa, .ref ld, .int ac, .ref tp, .int tn, .int cu, .int sr, .int tk, .int va, .int ft, .int fA, .int lt, .ref so, .ref ik, .ref kp, .ref kl, .ref tc, .int tt])) ma = some (oI 8 gma) := (congrFun heq2 ma).symm.trans ((fx_up_n _ _ (fx_ne h1_ma h1_mo rfl)).trans h1_ma)
  have h2_it : (fx_up f mo (oO 11 [.int (nI 0), .int (nI 0), .ref la, .ref ma, .ref it, .ref rl, .ref fr, .ref li, .ref wa, .ref ld, .int ac, .ref tp, .int tn, .int cu, .int sr, .int tk, .int va, .int ft, .int fA, .int lt, .ref so, .ref ik, .ref kp, .ref kl, .ref tc, .int tt])) it = some (oI 320 git) := (congrFun heq2 it).symm.trans ((fx_up_n _ _ (fx_ne h1_it h1_mo rfl)).trans h1_it)
  have h2_mo : (fx_up f mo (oO 11 [.int (nI 0), .int (nI 0), .ref la, .ref ma, .ref it, .ref rl, .ref fr, .ref li, .ref wa, .ref ld, .int ac, .ref tp, .int tn, .int cu, .int sr, .int tk, .int va, .int ft, .int fA, .int lt, .ref so, .ref ik, .ref kp, .ref kl, .ref tc, .int tt])) mo = some (oO 11 [.int (nI 0), .int (nI 0), .ref la, .ref ma, .ref it, .ref rl, .ref fr, .ref li, .ref wa, .ref ld, .int ac, .ref tp, .int tn, .int cu, .int sr, .int tk, .int va, .int ft, .int fA, .int lt, .ref so, .ref ik, .ref kp, .ref kl, .ref tc, .int tt]) := (congrFun heq2 mo).symm.trans (fx_up_s _ _ _)
  refine lv_aload_n hx hb dX12_copy_27 rfl (lv_at hl 0 rfl) ?_
  refine fx_get C hH (k := 2) (v := .ref la) h2_mo ff_X12_7_11 rfl dX12_copy_28 ?_
  refine lv_iload_n hx hb dX12_copy_31 rfl (lv_at hl 1 rfl) ?_
  refine fx_ialdN C hH h2_la (by omega) (by omega) dX12_copy_32 ?_
  refine lv_if_lt hx hb (tgt := 45) dX12_copy_33 (by decide) (fun c33 => ?_) (fun c33 => ?_)
  · refine lv_aload_n hx hb dX12_copy_45 rfl (lv_at hl 0 rfl) ?_
    refine lv_iconst (v := nI 1) hx hb dX12_copy_46 (by decide) ?_
    refine fx_go1 hH (fx_runV C hH hl.1 (As := [.int (nI 1)]) (rest := []) (c_X12_finding (G := G) (base := base) (l := l) (f := fx_up f mo (oO 11 [.int (nI 0), .int (nI 0), .ref la, .ref ma, .ref it, .ref rl, .ref fr, .ref li, .ref wa, .ref ld, .int ac, .ref tp, .int tn, .int cu, .int sr, .int tk, .int va, .int ft, .int fA, .int lt, .ref so, .ref ik, .ref kp, .ref kl, .ref tc, .int tt])) (sz := sz) (mo := mo) (nn := nI 1) (th := nI 0) (sa := nI 0) (la := la) (ma := ma) (it := it) (rl := rl) (fr := fr) (li := li) (wa := wa) (ld := ld) (ac := ac) (tp := tp) (tn := tn) (cu := cu) (sr := sr) (tk := tk) (va := va) (ft := ft) (fA := fA) (lt := lt) (so := so) (ik := ik) (kp := kp) (kl := kl) (tc := tc) (tt := tt) h2_mo) mY_X12_finding ml_X12_75 im_X12_finding se_X12_X12_finding h2_mo rfl rfl ⟨(Nat.le_of_ble_eq_true rfl), (Nat.le_of_ble_eq_true rfl)⟩ rfl (Nat.le_of_ble_eq_true rfl) ⟨(Nat.le_of_ble_eq_true rfl), (Nat.le_of_ble_eq_true rfl)⟩ dX12_copy_47) (fun H locs hH => ?_)
    have hH : fx_H G base s (fx_up (fx_up f mo (oO 11 [.int (nI 0), .int (nI 0), .ref la, .ref ma, .ref it, .ref rl, .ref fr, .ref li, .ref wa, .ref ld, .int ac, .ref tp, .int tn, .int cu, .int sr, .int tk, .int va, .int ft, .int fA, .int lt, .ref so, .ref ik, .ref kp, .ref kl, .ref tc, .int tt])) mo (oO 11 [.int (nI 0), .int (nI 1), .ref la, .ref ma, .ref it, .ref rl, .ref fr, .ref li, .ref wa, .ref ld, .int ac, .ref tp, .int tn, .int cu, .int sr, .int tk, .int va, .int ft, .int fA, .int lt, .ref so, .ref ik, .ref kp, .ref kl, .ref tc, .int tt])) sz H locs := hH
    have heq3 : fx_up (fx_up f mo (oO 11 [.int (nI 0), .int (nI 0), .ref la, .ref ma, .ref it, .ref rl, .ref fr, .ref li, .ref wa, .ref ld, .int ac, .ref tp, .int tn, .int cu, .int sr, .int tk, .int va, .int ft, .int fA, .int lt, .ref so, .ref ik, .ref kp, .ref kl, .ref tc, .int tt])) mo (oO 11 [.int (nI 0), .int (nI 1), .ref la, .ref ma, .ref it, .ref rl, .ref fr, .ref li, .ref wa, .ref ld, .int ac, .ref tp, .int tn, .int cu, .int sr, .int tk, .int va, .int ft, .int fA, .int lt, .ref so, .ref ik, .ref kp, .ref kl, .ref tc, .int tt]) = fx_up f mo (oO 11 [.int (nI 0), .int (nI 1), .ref la, .ref ma, .ref it, .ref rl, .ref fr, .ref li, .ref wa, .ref ld, .int ac, .ref tp, .int tn, .int cu, .int sr, .int tk, .int va, .int ft, .int fA, .int lt, .ref so, .ref ik, .ref kp, .ref kl, .ref tc, .int tt]) := by rw [fx_up_up]
    rw [heq3] at hH
    have h3_la : (fx_up f mo (oO 11 [.int (nI 0), .int (nI 1), .ref la, .ref ma, .ref it, .ref rl, .ref fr, .ref li, .ref wa, .ref ld, .int ac, .ref tp, .int tn, .int cu, .int sr, .int tk, .int va, .int ft, .int fA, .int lt, .ref so, .ref ik, .ref kp, .ref kl, .ref tc, .int tt])) la = some (oI 8 gla) := (congrFun heq3 la).symm.trans ((fx_up_n _ _ (fx_ne h2_la h2_mo rfl)).trans h2_la)
    have h3_ma : (fx_up f mo (oO 11 [.int (nI 0), .int (nI 1), .ref la, .ref ma, .ref it, .ref rl, .ref fr, .ref li, .ref wa, .ref ld, .int ac, .ref tp, .int tn, .int cu, .int sr, .int tk, .int va, .int ft, .int fA, .int lt, .ref so, .ref ik, .ref kp, .ref kl, .ref tc, .int tt])) ma = some (oI 8 gma) := (congrFun heq3 ma).symm.trans ((fx_up_n _ _ (fx_ne h2_ma h2_mo rfl)).trans h2_ma)
    have h3_it : (fx_up f mo (oO 11 [.int (nI 0), .int (nI 1), .ref la, .ref ma, .ref it, .ref rl, .ref fr, .ref li, .ref wa, .ref ld, .int ac, .ref tp, .int tn, .int cu, .int sr, .int tk, .int va, .int ft, .int fA, .int lt, .ref so, .ref ik, .ref kp, .ref kl, .ref tc, .int tt])) it = some (oI 320 git) := (congrFun heq3 it).symm.trans ((fx_up_n _ _ (fx_ne h2_it h2_mo rfl)).trans h2_it)
    have h3_mo : (fx_up f mo (oO 11 [.int (nI 0), .int (nI 1), .ref la, .ref ma, .ref it, .ref rl, .ref fr, .ref li, .ref wa, .ref ld, .int ac, .ref tp, .int tn, .int cu, .int sr, .int tk, .int va, .int ft, .int fA, .int lt, .ref so, .ref ik, .ref kp, .ref kl, .ref tc, .int tt])) mo = some (oO 11 [.int (nI 0), .int (nI 1), .ref la, .ref ma, .ref it, .ref rl, .ref fr, .ref li, .ref wa, .ref ld, .int ac, .ref tp, .int tn, .int cu, .int sr, .int tk, .int va, .int ft, .int fA, .int lt, .ref so, .ref ik, .ref kp, .ref kl, .ref tc, .int tt]) := (congrFun heq3 mo).symm.trans (fx_up_s _ _ _)
    have hH : fx_H G base s (fx_up f mo (oO 11 [.int (nI 0), .int (nI 1), .ref la, .ref ma, .ref it, .ref rl, .ref fr, .ref li, .ref wa, .ref ld, .int ac, .ref tp, .int tn, .int cu, .int sr, .int tk, .int va, .int ft, .int fA, .int lt, .ref so, .ref ik, .ref kp, .ref kl, .ref tc, .int tt])) sz H locs := hH
    exact fx_iretP C hr hk hH (K1 c33) (Nat.zero_le _) (Nat.zero_le _) dX12_copy_50
  · refine lv_aload_n hx hb dX12_copy_36 rfl (lv_at hl 0 rfl) ?_
    refine fx_get C hH (k := 2) (v := .ref la) h2_mo ff_X12_7_11 rfl dX12_copy_37 ?_
    refine lv_iload_n hx hb dX12_copy_40 rfl (lv_at hl 3 rfl) ?_
    refine fx_ialdN C hH h2_la (by omega) (by omega) dX12_copy_41 ?_
    refine lv_if_ge hx hb (tgt := 51) dX12_copy_42 (by decide) (fun c42 => ?_) (fun c42 => ?_)
    · refine lv_aload_n hx hb dX12_copy_51 rfl (lv_at hl 0 rfl) ?_
      refine fx_get C hH (k := 2) (v := .ref la) h2_mo ff_X12_7_11 rfl dX12_copy_52 ?_
      refine lv_iload_n hx hb dX12_copy_55 rfl (lv_at hl 1 rfl) ?_
      refine fx_ialdN C hH h2_la (by omega) (by omega) dX12_copy_56 ?_
      refine lv_aload_n hx hb dX12_copy_57 rfl (lv_at hl 0 rfl) ?_
      refine fx_get C hH (k := 2) (v := .ref la) h2_mo ff_X12_7_11 rfl dX12_copy_58 ?_
      refine lv_iload_n hx hb dX12_copy_61 rfl (lv_at hl 3 rfl) ?_
      refine fx_ialdN C hH h2_la (by omega) (by omega) dX12_copy_62 ?_
      refine lv_icmp_eq hx hb (tgt := 72) dX12_copy_63 (by decide) (fun c63 => ?_) (fun c63 => ?_)
      · refine lv_iload_n hx hb dX12_copy_72 rfl (lv_at hl 2 rfl) ?_
        refine lv_if_lt hx hb (tgt := 121) dX12_copy_73 (by decide) (fun c73 => ?_) (fun c73 => ?_)
        · refine lv_aload_n hx hb dX12_copy_121 rfl (lv_at hl 0 rfl) ?_
          refine lv_iconst (v := nI 2) hx hb dX12_copy_122 (by decide) ?_
          refine fx_go1 hH (fx_runV C hH hl.1 (As := [.int (nI 2)]) (rest := []) (c_X12_finding (G := G) (base := base) (l := l) (f := fx_up f mo (oO 11 [.int (nI 0), .int (nI 0), .ref la, .ref ma, .ref it, .ref rl, .ref fr, .ref li, .ref wa, .ref ld, .int ac, .ref tp, .int tn, .int cu, .int sr, .int tk, .int va, .int ft, .int fA, .int lt, .ref so, .ref ik, .ref kp, .ref kl, .ref tc, .int tt])) (sz := sz) (mo := mo) (nn := nI 2) (th := nI 0) (sa := nI 0) (la := la) (ma := ma) (it := it) (rl := rl) (fr := fr) (li := li) (wa := wa) (ld := ld) (ac := ac) (tp := tp) (tn := tn) (cu := cu) (sr := sr) (tk := tk) (va := va) (ft := ft) (fA := fA) (lt := lt) (so := so) (ik := ik) (kp := kp) (kl := kl) (tc := tc) (tt := tt) h2_mo) mY_X12_finding ml_X12_75 im_X12_finding se_X12_X12_finding h2_mo rfl rfl ⟨(Nat.le_of_ble_eq_true rfl), (Nat.le_of_ble_eq_true rfl)⟩ rfl (Nat.le_of_ble_eq_true rfl) ⟨(Nat.le_of_ble_eq_true rfl), (Nat.le_of_ble_eq_true rfl)⟩ dX12_copy_123) (fun H locs hH => ?_)
          have hH : fx_H G base s (fx_up (fx_up f mo (oO 11 [.int (nI 0), .int (nI 0), .ref la, .ref ma, .ref it, .ref rl, .ref fr, .ref li, .ref wa, .ref ld, .int ac, .ref tp, .int tn, .int cu, .int sr, .int tk, .int va, .int ft, .int fA, .int lt, .ref so, .ref ik, .ref kp, .ref kl, .ref tc, .int tt])) mo (oO 11 [.int (nI 0), .int (nI 2), .ref la, .ref ma, .ref it, .ref rl, .ref fr, .ref li, .ref wa, .ref ld, .int ac, .ref tp, .int tn, .int cu, .int sr, .int tk, .int va, .int ft, .int fA, .int lt, .ref so, .ref ik, .ref kp, .ref kl, .ref tc, .int tt])) sz H locs := hH
          have heq4 : fx_up (fx_up f mo (oO 11 [.int (nI 0), .int (nI 0), .ref la, .ref ma, .ref it, .ref rl, .ref fr, .ref li, .ref wa, .ref ld, .int ac, .ref tp, .int tn, .int cu, .int sr, .int tk, .int va, .int ft, .int fA, .int lt, .ref so, .ref ik, .ref kp, .ref kl, .ref tc, .int tt])) mo (oO 11 [.int (nI 0), .int (nI 2), .ref la, .ref ma, .ref it, .ref rl, .ref fr, .ref li, .ref wa, .ref ld, .int ac, .ref tp, .int tn, .int cu, .int sr, .int tk, .int va, .int ft, .int fA, .int lt, .ref so, .ref ik, .ref kp, .ref kl, .ref tc, .int tt]) = fx_up f mo (oO 11 [.int (nI 0), .int (nI 2), .ref la, .ref ma, .ref it, .ref rl, .ref fr, .ref li, .ref wa, .ref ld, .int ac, .ref tp, .int tn, .int cu, .int sr, .int tk, .int va, .int ft, .int fA, .int lt, .ref so, .ref ik, .ref kp, .ref kl, .ref tc, .int tt]) := by rw [fx_up_up]
          rw [heq4] at hH
          have h4_la : (fx_up f mo (oO 11 [.int (nI 0), .int (nI 2), .ref la, .ref ma, .ref it, .ref rl, .ref fr, .ref li, .ref wa, .ref ld, .int ac, .ref tp, .int tn, .int cu, .int sr, .int tk, .int va, .int ft, .int fA, .int lt, .ref so, .ref ik, .ref kp, .ref kl, .ref tc, .int tt])) la = some (oI 8 gla) := (congrFun heq4 la).symm.trans ((fx_up_n _ _ (fx_ne h2_la h2_mo rfl)).trans h2_la)
          have h4_ma : (fx_up f mo (oO 11 [.int (nI 0), .int (nI 2), .ref la, .ref ma, .ref it, .ref rl, .ref fr, .ref li, .ref wa, .ref ld, .int ac, .ref tp, .int tn, .int cu, .int sr, .int tk, .int va, .int ft, .int fA, .int lt, .ref so, .ref ik, .ref kp, .ref kl, .ref tc, .int tt])) ma = some (oI 8 gma) := (congrFun heq4 ma).symm.trans ((fx_up_n _ _ (fx_ne h2_ma h2_mo rfl)).trans h2_ma)
          have h4_it : (fx_up f mo (oO 11 [.int (nI 0), .int (nI 2), .ref la, .ref ma, .ref it, .ref rl, .ref fr, .ref li, .ref wa, .ref ld, .int ac, .ref tp, .int tn, .int cu, .int sr, .int tk, .int va, .int ft, .int fA, .int lt, .ref so, .ref ik, .ref kp, .ref kl, .ref tc, .int tt])) it = some (oI 320 git) := (congrFun heq4 it).symm.trans ((fx_up_n _ _ (fx_ne h2_it h2_mo rfl)).trans h2_it)
          have h4_mo : (fx_up f mo (oO 11 [.int (nI 0), .int (nI 2), .ref la, .ref ma, .ref it, .ref rl, .ref fr, .ref li, .ref wa, .ref ld, .int ac, .ref tp, .int tn, .int cu, .int sr, .int tk, .int va, .int ft, .int fA, .int lt, .ref so, .ref ik, .ref kp, .ref kl, .ref tc, .int tt])) mo = some (oO 11 [.int (nI 0), .int (nI 2), .ref la, .ref ma, .ref it, .ref rl, .ref fr, .ref li, .ref wa, .ref ld, .int ac, .ref tp, .int tn, .int cu, .int sr, .int tk, .int va, .int ft, .int fA, .int lt, .ref so, .ref ik, .ref kp, .ref kl, .ref tc, .int tt]) := (congrFun heq4 mo).symm.trans (fx_up_s _ _ _)
          have hH : fx_H G base s (fx_up f mo (oO 11 [.int (nI 0), .int (nI 2), .ref la, .ref ma, .ref it, .ref rl, .ref fr, .ref li, .ref wa, .ref ld, .int ac, .ref tp, .int tn, .int cu, .int sr, .int tk, .int va, .int ft, .int fA, .int lt, .ref so, .ref ik, .ref kp, .ref kl, .ref tc, .int tt])) sz H locs := hH
          exact fx_iretP C hr hk hH (K2 c33 c42 c63 c73) (Nat.zero_le _) (Nat.zero_le _) dX12_copy_126
        · refine lv_iload hx hb dX12_copy_76 (lv_at hl 4 rfl) ?_
          refine lv_if_lt hx hb (tgt := 121) dX12_copy_78 (by decide) (fun c78 => ?_) (fun c78 => ?_)
          · refine lv_aload_n hx hb dX12_copy_121 rfl (lv_at hl 0 rfl) ?_
            refine lv_iconst (v := nI 2) hx hb dX12_copy_122 (by decide) ?_
            refine fx_go1 hH (fx_runV C hH hl.1 (As := [.int (nI 2)]) (rest := []) (c_X12_finding (G := G) (base := base) (l := l) (f := fx_up f mo (oO 11 [.int (nI 0), .int (nI 0), .ref la, .ref ma, .ref it, .ref rl, .ref fr, .ref li, .ref wa, .ref ld, .int ac, .ref tp, .int tn, .int cu, .int sr, .int tk, .int va, .int ft, .int fA, .int lt, .ref so, .ref ik, .ref kp, .ref kl, .ref tc, .int tt])) (sz := sz) (mo := mo) (nn := nI 2) (th := nI 0) (sa := nI 0) (la := la) (ma := ma) (it := it) (rl := rl) (fr := fr) (li := li) (wa := wa) (ld := ld) (ac := ac) (tp := tp) (tn := tn) (cu := cu) (sr := sr) (tk := tk) (va := va) (ft := ft) (fA := fA) (lt := lt) (so := so) (ik := ik) (kp := kp) (kl := kl) (tc := tc) (tt := tt) h2_mo) mY_X12_finding ml_X12_75 im_X12_finding se_X12_X12_finding h2_mo rfl rfl ⟨(Nat.le_of_ble_eq_true rfl), (Nat.le_of_ble_eq_true rfl)⟩ rfl (Nat.le_of_ble_eq_true rfl) ⟨(Nat.le_of_ble_eq_true rfl), (Nat.le_of_ble_eq_true rfl)⟩ dX12_copy_123) (fun H locs hH => ?_)
            have hH : fx_H G base s (fx_up (fx_up f mo (oO 11 [.int (nI 0), .int (nI 0), .ref la, .ref ma, .ref it, .ref rl, .ref fr, .ref li, .ref wa, .ref ld, .int ac, .ref tp, .int tn, .int cu, .int sr, .int tk, .int va, .int ft, .int fA, .int lt, .ref so, .ref ik, .ref kp, .ref kl, .ref tc, .int tt])) mo (oO 11 [.int (nI 0), .int (nI 2), .ref la, .ref ma, .ref it, .ref rl, .ref fr, .ref li, .ref wa, .ref ld, .int ac, .ref tp, .int tn, .int cu, .int sr, .int tk, .int va, .int ft, .int fA, .int lt, .ref so, .ref ik, .ref kp, .ref kl, .ref tc, .int tt])) sz H locs := hH
            have heq5 : fx_up (fx_up f mo (oO 11 [.int (nI 0), .int (nI 0), .ref la, .ref ma, .ref it, .ref rl, .ref fr, .ref li, .ref wa, .ref ld, .int ac, .ref tp, .int tn, .int cu, .int sr, .int tk, .int va, .int ft, .int fA, .int lt, .ref so, .ref ik, .ref kp, .ref kl, .ref tc, .int tt])) mo (oO 11 [.int (nI 0), .int (nI 2), .ref la, .ref ma, .ref it, .ref rl, .ref fr, .ref li, .ref wa, .ref ld, .int ac, .ref tp, .int tn, .int cu, .int sr, .int tk, .int va, .int ft, .int fA, .int lt, .ref so, .ref ik, .ref kp, .ref kl, .ref tc, .int tt]) = fx_up f mo (oO 11 [.int (nI 0), .int (nI 2), .ref la, .ref ma, .ref it, .ref rl, .ref fr, .ref li, .ref wa, .ref ld, .int ac, .ref tp, .int tn, .int cu, .int sr, .int tk, .int va, .int ft, .int fA, .int lt, .ref so, .ref ik, .ref kp, .ref kl, .ref tc, .int tt]) := by rw [fx_up_up]
            rw [heq5] at hH
            have h5_la : (fx_up f mo (oO 11 [.int (nI 0), .int (nI 2), .ref la, .ref ma, .ref it, .ref rl, .ref fr, .ref li, .ref wa, .ref ld, .int ac, .ref tp, .int tn, .int cu, .int sr, .int tk, .int va, .int ft, .int fA, .int lt, .ref so, .ref ik, .ref kp, .ref kl, .ref tc, .int tt])) la = some (oI 8 gla) := (congrFun heq5 la).symm.trans ((fx_up_n _ _ (fx_ne h2_la h2_mo rfl)).trans h2_la)
            have h5_ma : (fx_up f mo (oO 11 [.int (nI 0), .int (nI 2), .ref la, .ref ma, .ref it, .ref rl, .ref fr, .ref li, .ref wa, .ref ld, .int ac, .ref tp, .int tn, .int cu, .int sr, .int tk, .int va, .int ft, .int fA, .int lt, .ref so, .ref ik, .ref kp, .ref kl, .ref tc, .int tt])) ma = some (oI 8 gma) := (congrFun heq5 ma).symm.trans ((fx_up_n _ _ (fx_ne h2_ma h2_mo rfl)).trans h2_ma)
            have h5_it : (fx_up f mo (oO 11 [.int (nI 0), .int (nI 2), .ref la, .ref ma, .ref it, .ref rl, .ref fr, .ref li, .ref wa, .ref ld, .int ac, .ref tp, .int tn, .int cu, .int sr, .int tk, .int va, .int ft, .int fA, .int lt, .ref so, .ref ik, .ref kp, .ref kl, .ref tc, .int tt])) it = some (oI 320 git) := (congrFun heq5 it).symm.trans ((fx_up_n _ _ (fx_ne h2_it h2_mo rfl)).trans h2_it)
            have h5_mo : (fx_up f mo (oO 11 [.int (nI 0), .int (nI 2), .ref la, .ref ma, .ref it, .ref rl, .ref fr, .ref li, .ref wa, .ref ld, .int ac, .ref tp, .int tn, .int cu, .int sr, .int tk, .int va, .int ft, .int fA, .int lt, .ref so, .ref ik, .ref kp, .ref kl, .ref tc, .int tt])) mo = some (oO 11 [.int (nI 0), .int (nI 2), .ref la, .ref ma, .ref it, .ref rl, .ref fr, .ref li, .ref wa, .ref ld, .int ac, .ref tp, .int tn, .int cu, .int sr, .int tk, .int va, .int ft, .int fA, .int lt, .ref so, .ref ik, .ref kp, .ref kl, .ref tc, .int tt]) := (congrFun heq5 mo).symm.trans (fx_up_s _ _ _)
            have hH : fx_H G base s (fx_up f mo (oO 11 [.int (nI 0), .int (nI 2), .ref la, .ref ma, .ref it, .ref rl, .ref fr, .ref li, .ref wa, .ref ld, .int ac, .ref tp, .int tn, .int cu, .int sr, .int tk, .int va, .int ft, .int fA, .int lt, .ref so, .ref ik, .ref kp, .ref kl, .ref tc, .int tt])) sz H locs := hH
            exact fx_iretP C hr hk hH (K3 c33 c42 c63 c73 c78) (Nat.zero_le _) (Nat.zero_le _) dX12_copy_126
          · refine lv_iload hx hb dX12_copy_81 (lv_at hl 5 rfl) ?_
            refine lv_if_lt hx hb (tgt := 121) dX12_copy_83 (by decide) (fun c83 => ?_) (fun c83 => ?_)
            · refine lv_aload_n hx hb dX12_copy_121 rfl (lv_at hl 0 rfl) ?_
              refine lv_iconst (v := nI 2) hx hb dX12_copy_122 (by decide) ?_
              refine fx_go1 hH (fx_runV C hH hl.1 (As := [.int (nI 2)]) (rest := []) (c_X12_finding (G := G) (base := base) (l := l) (f := fx_up f mo (oO 11 [.int (nI 0), .int (nI 0), .ref la, .ref ma, .ref it, .ref rl, .ref fr, .ref li, .ref wa, .ref ld, .int ac, .ref tp, .int tn, .int cu, .int sr, .int tk, .int va, .int ft, .int fA, .int lt, .ref so, .ref ik, .ref kp, .ref kl, .ref tc, .int tt])) (sz := sz) (mo := mo) (nn := nI 2) (th := nI 0) (sa := nI 0) (la := la) (ma := ma) (it := it) (rl := rl) (fr := fr) (li := li) (wa := wa) (ld := ld) (ac := ac) (tp := tp) (tn := tn) (cu := cu) (sr := sr) (tk := tk) (va := va) (ft := ft) (fA := fA) (lt := lt) (so := so) (ik := ik) (kp := kp) (kl := kl) (tc := tc) (tt := tt) h2_mo) mY_X12_finding ml_X12_75 im_X12_finding se_X12_X12_finding h2_mo rfl rfl ⟨(Nat.le_of_ble_eq_true rfl), (Nat.le_of_ble_eq_true rfl)⟩ rfl (Nat.le_of_ble_eq_true rfl) ⟨(Nat.le_of_ble_eq_true rfl), (Nat.le_of_ble_eq_true rfl)⟩ dX12_copy_123) (fun H locs hH => ?_)
              have hH : fx_H G base s (fx_up (fx_up f mo (oO 11 [.int (nI 0), .int (nI 0), .ref la, .ref ma, .ref it, .ref rl, .ref fr, .ref li, .ref wa, .ref ld, .int ac, .ref tp, .int tn, .int cu, .int sr, .int tk, .int va, .int ft, .int fA, .int lt, .ref so, .ref ik, .ref kp, .ref kl, .ref tc, .int tt])) mo (oO 11 [.int (nI 0), .int (nI 2), .ref la, .ref ma, .ref it, .ref rl, .ref fr, .ref li, .ref wa, .ref ld, .int ac, .ref tp, .int tn, .int cu, .int sr, .int tk, .int va, .int ft, .int fA, .int lt, .ref so, .ref ik, .ref kp, .ref kl, .ref tc, .int tt])) sz H locs := hH
              have heq6 : fx_up (fx_up f mo (oO 11 [.int (nI 0), .int (nI 0), .ref la, .ref ma, .ref it, .ref rl, .ref fr, .ref li, .ref wa, .ref ld, .int ac, .ref tp, .int tn, .int cu, .int sr, .int tk, .int va, .int ft, .int fA, .int lt, .ref so, .ref ik, .ref kp, .ref kl, .ref tc, .int tt])) mo (oO 11 [.int (nI 0), .int (nI 2), .ref la, .ref ma, .ref it, .ref rl, .ref fr, .ref li, .ref wa, .ref ld, .int ac, .ref tp, .int tn, .int cu, .int sr, .int tk, .int va, .int ft, .int fA, .int lt, .ref so, .ref ik, .ref kp, .ref kl, .ref tc, .int tt]) = fx_up f mo (oO 11 [.int (nI 0), .int (nI 2), .ref la, .ref ma, .ref it, .ref rl, .ref fr, .ref li, .ref wa, .ref ld, .int ac, .ref tp, .int tn, .int cu, .int sr, .int tk, .int va, .int ft, .int fA, .int lt, .ref so, .ref ik, .ref kp, .ref kl, .ref tc, .int tt]) := by rw [fx_up_up]
              rw [heq6] at hH
              have h6_la : (fx_up f mo (oO 11 [.int (nI 0), .int (nI 2), .ref la, .ref ma, .ref it, .ref rl, .ref fr, .ref li, .ref wa, .ref ld, .int ac, .ref tp, .int tn, .int cu, .int sr, .int tk, .int va, .int ft, .int fA, .int lt, .ref so, .ref ik, .ref kp, .ref kl, .ref tc, .int tt])) la = some (oI 8 gla) := (congrFun heq6 la).symm.trans ((fx_up_n _ _ (fx_ne h2_la h2_mo rfl)).trans h2_la)
              have h6_ma : (fx_up f mo (oO 11 [.int (nI 0), .int (nI 2), .ref la, .ref ma, .ref it, .ref rl, .ref fr, .ref li, .ref wa, .ref ld, .int ac, .ref tp, .int tn, .int cu, .int sr, .int tk, .int va, .int ft, .int fA, .int lt, .ref so, .ref ik, .ref kp, .ref kl, .ref tc, .int tt])) ma = some (oI 8 gma) := (congrFun heq6 ma).symm.trans ((fx_up_n _ _ (fx_ne h2_ma h2_mo rfl)).trans h2_ma)
              have h6_it : (fx_up f mo (oO 11 [.int (nI 0), .int (nI 2), .ref la, .ref ma, .ref it, .ref rl, .ref fr, .ref li, .ref wa, .ref ld, .int ac, .ref tp, .int tn, .int cu, .int sr, .int tk, .int va, .int ft, .int fA, .int lt, .ref so, .ref ik, .ref kp, .ref kl, .ref tc, .int tt])) it = some (oI 320 git) := (congrFun heq6 it).symm.trans ((fx_up_n _ _ (fx_ne h2_it h2_mo rfl)).trans h2_it)
              have h6_mo : (fx_up f mo (oO 11 [.int (nI 0), .int (nI 2), .ref la, .ref ma, .ref it, .ref rl, .ref fr, .ref li, .ref wa, .ref ld, .int ac, .ref tp, .int tn, .int cu, .int sr, .int tk, .int va, .int ft, .int fA, .int lt, .ref so, .ref ik, .ref kp, .ref kl, .ref tc, .int tt])) mo = some (oO 11 [.int (nI 0), .int (nI 2), .ref la, .ref ma, .ref it, .ref rl, .ref fr, .ref li, .ref wa, .ref ld, .int ac, .ref tp, .int tn, .int cu, .int sr, .int tk, .int va, .int ft, .int fA, .int lt, .ref so, .ref ik, .ref kp, .ref kl, .ref tc, .int tt]) := (congrFun heq6 mo).symm.trans (fx_up_s _ _ _)
              have hH : fx_H G base s (fx_up f mo (oO 11 [.int (nI 0), .int (nI 2), .ref la, .ref ma, .ref it, .ref rl, .ref fr, .ref li, .ref wa, .ref ld, .int ac, .ref tp, .int tn, .int cu, .int sr, .int tk, .int va, .int ft, .int fA, .int lt, .ref so, .ref ik, .ref kp, .ref kl, .ref tc, .int tt])) sz H locs := hH
              exact fx_iretP C hr hk hH (K4 c33 c42 c63 c73 c78 c83) (Nat.zero_le _) (Nat.zero_le _) dX12_copy_126
            · refine lv_iload_n hx hb dX12_copy_86 rfl (lv_at hl 2 rfl) ?_
              refine lv_i2l (v := i.toInt64) hx hb dX12_copy_87 rfl ?_
              refine lv_iload hx hb dX12_copy_88 (lv_at hl 5 rfl) ?_
              refine lv_i2l (v := n.toInt64) hx hb dX12_copy_90 rfl ?_
              refine lv_ladd hx hb dX12_copy_91 ?_
              refine lv_aload_n hx hb dX12_copy_92 rfl (lv_at hl 0 rfl) ?_
              refine fx_get C hH (k := 3) (v := .ref ma) h2_mo ff_X12_13_11 rfl dX12_copy_93 ?_
              refine lv_iload_n hx hb dX12_copy_96 rfl (lv_at hl 1 rfl) ?_
              refine fx_ialdN C hH h2_ma (by omega) (by omega) dX12_copy_97 ?_
              refine lv_i2l (v := (gma kk).toInt64) hx hb dX12_copy_98 rfl ?_
              refine W.lcmp hx hb dX12_copy_99 ?_
              refine fx_J_gt hx hb (tgt := 121) dX12_copy_100 (by decide) (fun c100 => ?_) (fun c100 => ?_)
              · refine lv_aload_n hx hb dX12_copy_121 rfl (lv_at hl 0 rfl) ?_
                refine lv_iconst (v := nI 2) hx hb dX12_copy_122 (by decide) ?_
                refine fx_go1 hH (fx_runV C hH hl.1 (As := [.int (nI 2)]) (rest := []) (c_X12_finding (G := G) (base := base) (l := l) (f := fx_up f mo (oO 11 [.int (nI 0), .int (nI 0), .ref la, .ref ma, .ref it, .ref rl, .ref fr, .ref li, .ref wa, .ref ld, .int ac, .ref tp, .int tn, .int cu, .int sr, .int tk, .int va, .int ft, .int fA, .int lt, .ref so, .ref ik, .ref kp, .ref kl, .ref tc, .int tt])) (sz := sz) (mo := mo) (nn := nI 2) (th := nI 0) (sa := nI 0) (la := la) (ma := ma) (it := it) (rl := rl) (fr := fr) (li := li) (wa := wa) (ld := ld) (ac := ac) (tp := tp) (tn := tn) (cu := cu) (sr := sr) (tk := tk) (va := va) (ft := ft) (fA := fA) (lt := lt) (so := so) (ik := ik) (kp := kp) (kl := kl) (tc := tc) (tt := tt) h2_mo) mY_X12_finding ml_X12_75 im_X12_finding se_X12_X12_finding h2_mo rfl rfl ⟨(Nat.le_of_ble_eq_true rfl), (Nat.le_of_ble_eq_true rfl)⟩ rfl (Nat.le_of_ble_eq_true rfl) ⟨(Nat.le_of_ble_eq_true rfl), (Nat.le_of_ble_eq_true rfl)⟩ dX12_copy_123) (fun H locs hH => ?_)
                have hH : fx_H G base s (fx_up (fx_up f mo (oO 11 [.int (nI 0), .int (nI 0), .ref la, .ref ma, .ref it, .ref rl, .ref fr, .ref li, .ref wa, .ref ld, .int ac, .ref tp, .int tn, .int cu, .int sr, .int tk, .int va, .int ft, .int fA, .int lt, .ref so, .ref ik, .ref kp, .ref kl, .ref tc, .int tt])) mo (oO 11 [.int (nI 0), .int (nI 2), .ref la, .ref ma, .ref it, .ref rl, .ref fr, .ref li, .ref wa, .ref ld, .int ac, .ref tp, .int tn, .int cu, .int sr, .int tk, .int va, .int ft, .int fA, .int lt, .ref so, .ref ik, .ref kp, .ref kl, .ref tc, .int tt])) sz H locs := hH
                have heq7 : fx_up (fx_up f mo (oO 11 [.int (nI 0), .int (nI 0), .ref la, .ref ma, .ref it, .ref rl, .ref fr, .ref li, .ref wa, .ref ld, .int ac, .ref tp, .int tn, .int cu, .int sr, .int tk, .int va, .int ft, .int fA, .int lt, .ref so, .ref ik, .ref kp, .ref kl, .ref tc, .int tt])) mo (oO 11 [.int (nI 0), .int (nI 2), .ref la, .ref ma, .ref it, .ref rl, .ref fr, .ref li, .ref wa, .ref ld, .int ac, .ref tp, .int tn, .int cu, .int sr, .int tk, .int va, .int ft, .int fA, .int lt, .ref so, .ref ik, .ref kp, .ref kl, .ref tc, .int tt]) = fx_up f mo (oO 11 [.int (nI 0), .int (nI 2), .ref la, .ref ma, .ref it, .ref rl, .ref fr, .ref li, .ref wa, .ref ld, .int ac, .ref tp, .int tn, .int cu, .int sr, .int tk, .int va, .int ft, .int fA, .int lt, .ref so, .ref ik, .ref kp, .ref kl, .ref tc, .int tt]) := by rw [fx_up_up]
                rw [heq7] at hH
                have h7_la : (fx_up f mo (oO 11 [.int (nI 0), .int (nI 2), .ref la, .ref ma, .ref it, .ref rl, .ref fr, .ref li, .ref wa, .ref ld, .int ac, .ref tp, .int tn, .int cu, .int sr, .int tk, .int va, .int ft, .int fA, .int lt, .ref so, .ref ik, .ref kp, .ref kl, .ref tc, .int tt])) la = some (oI 8 gla) := (congrFun heq7 la).symm.trans ((fx_up_n _ _ (fx_ne h2_la h2_mo rfl)).trans h2_la)
                have h7_ma : (fx_up f mo (oO 11 [.int (nI 0), .int (nI 2), .ref la, .ref ma, .ref it, .ref rl, .ref fr, .ref li, .ref wa, .ref ld, .int ac, .ref tp, .int tn, .int cu, .int sr, .int tk, .int va, .int ft, .int fA, .int lt, .ref so, .ref ik, .ref kp, .ref kl, .ref tc, .int tt])) ma = some (oI 8 gma) := (congrFun heq7 ma).symm.trans ((fx_up_n _ _ (fx_ne h2_ma h2_mo rfl)).trans h2_ma)
                have h7_it : (fx_up f mo (oO 11 [.int (nI 0), .int (nI 2), .ref la, .ref ma, .ref it, .ref rl, .ref fr, .ref li, .ref wa, .ref ld, .int ac, .ref tp, .int tn, .int cu, .int sr, .int tk, .int va, .int ft, .int fA, .int lt, .ref so, .ref ik, .ref kp, .ref kl, .ref tc, .int tt])) it = some (oI 320 git) := (congrFun heq7 it).symm.trans ((fx_up_n _ _ (fx_ne h2_it h2_mo rfl)).trans h2_it)
                have h7_mo : (fx_up f mo (oO 11 [.int (nI 0), .int (nI 2), .ref la, .ref ma, .ref it, .ref rl, .ref fr, .ref li, .ref wa, .ref ld, .int ac, .ref tp, .int tn, .int cu, .int sr, .int tk, .int va, .int ft, .int fA, .int lt, .ref so, .ref ik, .ref kp, .ref kl, .ref tc, .int tt])) mo = some (oO 11 [.int (nI 0), .int (nI 2), .ref la, .ref ma, .ref it, .ref rl, .ref fr, .ref li, .ref wa, .ref ld, .int ac, .ref tp, .int tn, .int cu, .int sr, .int tk, .int va, .int ft, .int fA, .int lt, .ref so, .ref ik, .ref kp, .ref kl, .ref tc, .int tt]) := (congrFun heq7 mo).symm.trans (fx_up_s _ _ _)
                have hH : fx_H G base s (fx_up f mo (oO 11 [.int (nI 0), .int (nI 2), .ref la, .ref ma, .ref it, .ref rl, .ref fr, .ref li, .ref wa, .ref ld, .int ac, .ref tp, .int tn, .int cu, .int sr, .int tk, .int va, .int ft, .int fA, .int lt, .ref so, .ref ik, .ref kp, .ref kl, .ref tc, .int tt])) sz H locs := hH
                exact fx_iretP C hr hk hH (K5 c33 c42 c63 c73 c78 c83 c100) (Nat.zero_le _) (Nat.zero_le _) dX12_copy_126
              · refine lv_iload hx hb dX12_copy_103 (lv_at hl 4 rfl) ?_
                refine lv_i2l (v := j.toInt64) hx hb dX12_copy_105 rfl ?_
                refine lv_iload hx hb dX12_copy_106 (lv_at hl 5 rfl) ?_
                refine lv_i2l (v := n.toInt64) hx hb dX12_copy_108 rfl ?_
                refine lv_ladd hx hb dX12_copy_109 ?_
                refine lv_aload_n hx hb dX12_copy_110 rfl (lv_at hl 0 rfl) ?_
                refine fx_get C hH (k := 3) (v := .ref ma) h2_mo ff_X12_13_11 rfl dX12_copy_111 ?_
                refine lv_iload_n hx hb dX12_copy_114 rfl (lv_at hl 3 rfl) ?_
                refine fx_ialdN C hH h2_ma (by omega) (by omega) dX12_copy_115 ?_
                refine lv_i2l (v := (gma kk2).toInt64) hx hb dX12_copy_116 rfl ?_
                refine W.lcmp hx hb dX12_copy_117 ?_
                refine fx_J_le hx hb (tgt := 127) dX12_copy_118 (by decide) (fun c118 => ?_) (fun c118 => ?_)
                · obtain ⟨ix, nn, hix, rfl, rfl⟩ := hld2 (by omega) hgm c73 c83 c100
                  obtain ⟨jx, n2, hjx, rfl, hn2⟩ := hld3 (by omega) hgm2 c78 c83 c118
                  have hn2 : n2 = nn := by have := congrArg Int32.toInt hn2; rw [nI_toInt (by omega), nI_toInt (by omega)] at this; omega
                  subst hn2
                  · skip
                    refine lv_iload_n hx hb dX12_copy_127 rfl (lv_at hl 2 rfl) ?_
                    refine lv_iload hx hb dX12_copy_128 (lv_at hl 4 rfl) ?_
                    refine fx_N_lt (a := ix) (b := jx) hx hb (by omega) (by omega) (tgt := 137) dX12_copy_130 (by decide) (fun c130 => ?_) (fun c130 => ?_)
                    · refine lv_iconst (v := nI 0) hx hb dX12_copy_137 (by decide) ?_
                      refine lv_istore (lv' := [(6, .int (nI 0)), (0, .ref mo), (1, .int (nI kk)), (2, .int (nI ix)), (3, .int (nI kk2)), (4, .int (nI jx)), (5, .int (nI n2))]) hx hb dX12_copy_138 hl (by decide) rfl (fun ls hl => ?_)
                      refine lv_iconst (v := nI 0) hx hb dX12_copy_140 (by decide) ?_
                      refine lv_istore (lv' := [(7, .int (nI 0)), (6, .int (nI 0)), (0, .ref mo), (1, .int (nI kk)), (2, .int (nI ix)), (3, .int (nI kk2)), (4, .int (nI jx)), (5, .int (nI n2))]) hx hb dX12_copy_141 hl (by decide) rfl (fun ls hl => ?_)
                      have loop_143 : ∀ (N_143 : Nat) (k_ : Nat) (hk_ : k_ ≤ n2) (hm_143 : n2 - k_ < N_143) (H : Heap) (locs : List Loc) (hH : fx_H G base s (fx_up (fx_up f mo (oO 11 [.int (nI 0), .int (nI 0), .ref la, .ref ma, .ref it, .ref rl, .ref fr, .ref li, .ref wa, .ref ld, .int ac, .ref tp, .int tn, .int cu, .int sr, .int tk, .int va, .int ft, .int fA, .int lt, .ref so, .ref ik, .ref kp, .ref kl, .ref tc, .int tt])) it (oI 320 (cpG git (40 * kk + ix) (40 * kk2 + jx) (n2 - k_) n2))) sz H locs) (ls : Array Slot) (hl : lv_has ls 9 [(0, .ref mo), (1, .int (nI kk)), (2, .int (nI ix)), (3, .int (nI kk2)), (4, .int (nI jx)), (5, .int (nI n2)), (6, .int (nI 0)), (7, .int (nI k_))]), W p l e rm_X12_copy s m args below meth c H locs 0 0 (MQ below (fx_QP G base Po) args s rm_X12_copy.cells rm_X12_copy.slots (fun q => base ≤ q)) (F0 m 143 ls []) := by
                        intro N_143
                        induction N_143 with
                        | zero => intro k_ hk_ hm_143; exact absurd hm_143 (Nat.not_lt_zero _)
                        | succ N_143 ih_143 =>
                          intro k_ hk_ hm_143 H locs hH ls hl
                          have h8_la : (fx_up (fx_up f mo (oO 11 [.int (nI 0), .int (nI 0), .ref la, .ref ma, .ref it, .ref rl, .ref fr, .ref li, .ref wa, .ref ld, .int ac, .ref tp, .int tn, .int cu, .int sr, .int tk, .int va, .int ft, .int fA, .int lt, .ref so, .ref ik, .ref kp, .ref kl, .ref tc, .int tt])) it (oI 320 (cpG git (40 * kk + ix) (40 * kk2 + jx) (n2 - k_) n2))) la = some (oI 8 gla) := (fx_up_n _ _ hne_1).trans ((fx_up_n _ _ (fx_ne h2_la h2_mo rfl)).trans (h_la))
                          have h8_ma : (fx_up (fx_up f mo (oO 11 [.int (nI 0), .int (nI 0), .ref la, .ref ma, .ref it, .ref rl, .ref fr, .ref li, .ref wa, .ref ld, .int ac, .ref tp, .int tn, .int cu, .int sr, .int tk, .int va, .int ft, .int fA, .int lt, .ref so, .ref ik, .ref kp, .ref kl, .ref tc, .int tt])) it (oI 320 (cpG git (40 * kk + ix) (40 * kk2 + jx) (n2 - k_) n2))) ma = some (oI 8 gma) := (fx_up_n _ _ hne_2).trans ((fx_up_n _ _ (fx_ne h2_ma h2_mo rfl)).trans (h_ma))
                          have h8_it : (fx_up (fx_up f mo (oO 11 [.int (nI 0), .int (nI 0), .ref la, .ref ma, .ref it, .ref rl, .ref fr, .ref li, .ref wa, .ref ld, .int ac, .ref tp, .int tn, .int cu, .int sr, .int tk, .int va, .int ft, .int fA, .int lt, .ref so, .ref ik, .ref kp, .ref kl, .ref tc, .int tt])) it (oI 320 (cpG git (40 * kk + ix) (40 * kk2 + jx) (n2 - k_) n2))) it = some (oI 320 (cpG git (40 * kk + ix) (40 * kk2 + jx) (n2 - k_) n2)) := fx_up_s _ _ _
                          have h8_mo : (fx_up (fx_up f mo (oO 11 [.int (nI 0), .int (nI 0), .ref la, .ref ma, .ref it, .ref rl, .ref fr, .ref li, .ref wa, .ref ld, .int ac, .ref tp, .int tn, .int cu, .int sr, .int tk, .int va, .int ft, .int fA, .int lt, .ref so, .ref ik, .ref kp, .ref kl, .ref tc, .int tt])) it (oI 320 (cpG git (40 * kk + ix) (40 * kk2 + jx) (n2 - k_) n2))) mo = some (oO 11 [.int (nI 0), .int (nI 0), .ref la, .ref ma, .ref it, .ref rl, .ref fr, .ref li, .ref wa, .ref ld, .int ac, .ref tp, .int tn, .int cu, .int sr, .int tk, .int va, .int ft, .int fA, .int lt, .ref so, .ref ik, .ref kp, .ref kl, .ref tc, .int tt]) := (fx_up_n _ _ (fx_ne h2_mo h2_it rfl)).trans (fx_up_s _ _ _)
                          refine lv_iload hx hb dX12_copy_143 (lv_at hl 7 rfl) ?_
                          refine lv_iload hx hb dX12_copy_145 (lv_at hl 5 rfl) ?_
                          refine fx_N_ge (a := k_) (b := n2) hx hb (by omega) (by omega) (tgt := 204) dX12_copy_147 (by decide) (fun c147 => ?_) (fun c147 => ?_)
                          · refine lv_iload hx hb dX12_copy_204 (lv_at hl 5 rfl) ?_
                            exact fx_iretP C hr hk hH (K6 c33 c42 c63 c73 c78 c83 c100 c118 ix n2 jx hix hjx rfl rfl rfl c130 k_ hk_ c147) (Nat.zero_le _) (Nat.zero_le _) dX12_copy_206
                          · refine lv_iload hx hb dX12_copy_150 (lv_at hl 6 rfl) ?_
                            refine fx_O_eq (a := 0) hx hb (by omega) (tgt := 160) dX12_copy_152 (by decide) (fun c152 => ?_) (fun c152 => absurd c152 (by omega))
                            refine lv_iload hx hb dX12_copy_160 (lv_at hl 5 rfl) ?_
                            refine lv_iconst (v := nI 1) hx hb dX12_copy_162 (by decide) ?_
                            refine lv_isub hx hb dX12_copy_163 ?_
                            refine fx_ti (y := nI (n2 - 1)) (pk_sub (by omega)) ?_
                            refine lv_iload hx hb dX12_copy_164 (lv_at hl 7 rfl) ?_
                            refine lv_isub hx hb dX12_copy_166 ?_
                            refine fx_ti (y := nI ((n2 - 1) - k_)) (pk_sub (by omega)) ?_
                            refine lv_istore (lv' := [(8, .int (nI ((n2 - 1) - k_))), (0, .ref mo), (1, .int (nI kk)), (2, .int (nI ix)), (3, .int (nI kk2)), (4, .int (nI jx)), (5, .int (nI n2)), (6, .int (nI 0)), (7, .int (nI k_))]) hx hb dX12_copy_167 hl (by decide) rfl (fun ls hl => ?_)
                            refine lv_aload_n hx hb dX12_copy_169 rfl (lv_at hl 1 rfl) ?_
                            refine fx_get C hH (k := 4) (v := .ref it) h8_mo ff_X12_16_11 rfl dX12_copy_170 ?_
                            refine lv_bipush (v := nI 40) hx hb dX12_copy_173 (by decide) ?_
                            refine lv_iload_n hx hb dX12_copy_175 rfl (lv_at hl 4 rfl) ?_
                            refine lv_imul hx hb dX12_copy_176 ?_
                            refine fx_ti (y := nI (40 * kk2)) (pk_mul _ _) ?_
                            refine lv_iload hx hb dX12_copy_177 (lv_at hl 5 rfl) ?_
                            refine lv_iadd hx hb dX12_copy_179 ?_
                            refine fx_ti (y := nI (40 * kk2 + jx)) (nI_add _ _) ?_
                            refine lv_iload hx hb dX12_copy_180 (lv_at hl 0 rfl) ?_
                            refine lv_iadd hx hb dX12_copy_182 ?_
                            refine fx_ti (y := nI (40 * kk2 + jx + ((n2 - 1) - k_))) (nI_add _ _) ?_
                            refine lv_aload_n hx hb dX12_copy_183 rfl (lv_at hl 1 rfl) ?_
                            refine fx_get C hH (k := 4) (v := .ref it) h8_mo ff_X12_16_11 rfl dX12_copy_184 ?_
                            refine lv_bipush (v := nI 40) hx hb dX12_copy_187 (by decide) ?_
                            refine lv_iload_n hx hb dX12_copy_189 rfl (lv_at hl 2 rfl) ?_
                            refine lv_imul hx hb dX12_copy_190 ?_
                            refine fx_ti (y := nI (40 * kk)) (pk_mul _ _) ?_
                            refine lv_iload_n hx hb dX12_copy_191 rfl (lv_at hl 3 rfl) ?_
                            refine lv_iadd hx hb dX12_copy_192 ?_
                            refine fx_ti (y := nI (40 * kk + ix)) (nI_add _ _) ?_
                            refine lv_iload hx hb dX12_copy_193 (lv_at hl 0 rfl) ?_
                            refine lv_iadd hx hb dX12_copy_195 ?_
                            refine fx_ti (y := nI (40 * kk + ix + ((n2 - 1) - k_))) (nI_add _ _) ?_
                            refine fx_ialdN C hH h8_it (by omega) (by omega) dX12_copy_196 ?_
                            refine fx_iastN C hH h8_it (by omega) (by omega) dX12_copy_197 (fun H locs hH => ?_)
                            have hH : fx_H G base s (fx_up (fx_up (fx_up f mo (oO 11 [.int (nI 0), .int (nI 0), .ref la, .ref ma, .ref it, .ref rl, .ref fr, .ref li, .ref wa, .ref ld, .int ac, .ref tp, .int tn, .int cu, .int sr, .int tk, .int va, .int ft, .int fA, .int lt, .ref so, .ref ik, .ref kp, .ref kl, .ref tc, .int tt])) it (oI 320 (cpG git (40 * kk + ix) (40 * kk2 + jx) (n2 - k_) n2))) it (oI 320 (upd (cpG git (40 * kk + ix) (40 * kk2 + jx) (n2 - k_) n2) (40 * kk2 + jx + ((n2 - 1) - k_)) ((cpG git (40 * kk + ix) (40 * kk2 + jx) (n2 - k_) n2) (40 * kk + ix + ((n2 - 1) - k_)))))) sz H locs := hH
                            rw [fx_up_up] at hH
                            have hH : fx_H G base s (fx_up (fx_up f mo (oO 11 [.int (nI 0), .int (nI 0), .ref la, .ref ma, .ref it, .ref rl, .ref fr, .ref li, .ref wa, .ref ld, .int ac, .ref tp, .int tn, .int cu, .int sr, .int tk, .int va, .int ft, .int fA, .int lt, .ref so, .ref ik, .ref kp, .ref kl, .ref tc, .int tt])) it (oI 320 (upd (cpG git (40 * kk + ix) (40 * kk2 + jx) (n2 - k_) n2) (40 * kk2 + jx + ((n2 - 1) - k_)) ((cpG git (40 * kk + ix) (40 * kk2 + jx) (n2 - k_) n2) (40 * kk + ix + ((n2 - 1) - k_)))))) sz H locs := hH
                            have heq9 : fx_up (fx_up (fx_up f mo (oO 11 [.int (nI 0), .int (nI 0), .ref la, .ref ma, .ref it, .ref rl, .ref fr, .ref li, .ref wa, .ref ld, .int ac, .ref tp, .int tn, .int cu, .int sr, .int tk, .int va, .int ft, .int fA, .int lt, .ref so, .ref ik, .ref kp, .ref kl, .ref tc, .int tt])) it (oI 320 (cpG git (40 * kk + ix) (40 * kk2 + jx) (n2 - k_) n2))) it (oI 320 (upd (cpG git (40 * kk + ix) (40 * kk2 + jx) (n2 - k_) n2) (40 * kk2 + jx + ((n2 - 1) - k_)) ((cpG git (40 * kk + ix) (40 * kk2 + jx) (n2 - k_) n2) (40 * kk + ix + ((n2 - 1) - k_))))) = fx_up (fx_up f mo (oO 11 [.int (nI 0), .int (nI 0), .ref la, .ref ma, .ref it, .ref rl, .ref fr, .ref li, .ref wa, .ref ld, .int ac, .ref tp, .int tn, .int cu, .int sr, .int tk, .int va, .int ft, .int fA, .int lt, .ref so, .ref ik, .ref kp, .ref kl, .ref tc, .int tt])) it (oI 320 (upd (cpG git (40 * kk + ix) (40 * kk2 + jx) (n2 - k_) n2) (40 * kk2 + jx + ((n2 - 1) - k_)) ((cpG git (40 * kk + ix) (40 * kk2 + jx) (n2 - k_) n2) (40 * kk + ix + ((n2 - 1) - k_))))) := by rw [fx_up_up]
                            have h9_la : (fx_up (fx_up f mo (oO 11 [.int (nI 0), .int (nI 0), .ref la, .ref ma, .ref it, .ref rl, .ref fr, .ref li, .ref wa, .ref ld, .int ac, .ref tp, .int tn, .int cu, .int sr, .int tk, .int va, .int ft, .int fA, .int lt, .ref so, .ref ik, .ref kp, .ref kl, .ref tc, .int tt])) it (oI 320 (upd (cpG git (40 * kk + ix) (40 * kk2 + jx) (n2 - k_) n2) (40 * kk2 + jx + ((n2 - 1) - k_)) ((cpG git (40 * kk + ix) (40 * kk2 + jx) (n2 - k_) n2) (40 * kk + ix + ((n2 - 1) - k_)))))) la = some (oI 8 gla) := (congrFun heq9 la).symm.trans ((fx_up_n _ _ hne_1).trans h8_la)
                            have h9_ma : (fx_up (fx_up f mo (oO 11 [.int (nI 0), .int (nI 0), .ref la, .ref ma, .ref it, .ref rl, .ref fr, .ref li, .ref wa, .ref ld, .int ac, .ref tp, .int tn, .int cu, .int sr, .int tk, .int va, .int ft, .int fA, .int lt, .ref so, .ref ik, .ref kp, .ref kl, .ref tc, .int tt])) it (oI 320 (upd (cpG git (40 * kk + ix) (40 * kk2 + jx) (n2 - k_) n2) (40 * kk2 + jx + ((n2 - 1) - k_)) ((cpG git (40 * kk + ix) (40 * kk2 + jx) (n2 - k_) n2) (40 * kk + ix + ((n2 - 1) - k_)))))) ma = some (oI 8 gma) := (congrFun heq9 ma).symm.trans ((fx_up_n _ _ hne_2).trans h8_ma)
                            have h9_mo : (fx_up (fx_up f mo (oO 11 [.int (nI 0), .int (nI 0), .ref la, .ref ma, .ref it, .ref rl, .ref fr, .ref li, .ref wa, .ref ld, .int ac, .ref tp, .int tn, .int cu, .int sr, .int tk, .int va, .int ft, .int fA, .int lt, .ref so, .ref ik, .ref kp, .ref kl, .ref tc, .int tt])) it (oI 320 (upd (cpG git (40 * kk + ix) (40 * kk2 + jx) (n2 - k_) n2) (40 * kk2 + jx + ((n2 - 1) - k_)) ((cpG git (40 * kk + ix) (40 * kk2 + jx) (n2 - k_) n2) (40 * kk + ix + ((n2 - 1) - k_)))))) mo = some (oO 11 [.int (nI 0), .int (nI 0), .ref la, .ref ma, .ref it, .ref rl, .ref fr, .ref li, .ref wa, .ref ld, .int ac, .ref tp, .int tn, .int cu, .int sr, .int tk, .int va, .int ft, .int fA, .int lt, .ref so, .ref ik, .ref kp, .ref kl, .ref tc, .int tt]) := (congrFun heq9 mo).symm.trans ((fx_up_n _ _ (fx_ne h8_mo h8_it rfl)).trans h8_mo)
                            have h9_it : (fx_up (fx_up f mo (oO 11 [.int (nI 0), .int (nI 0), .ref la, .ref ma, .ref it, .ref rl, .ref fr, .ref li, .ref wa, .ref ld, .int ac, .ref tp, .int tn, .int cu, .int sr, .int tk, .int va, .int ft, .int fA, .int lt, .ref so, .ref ik, .ref kp, .ref kl, .ref tc, .int tt])) it (oI 320 (upd (cpG git (40 * kk + ix) (40 * kk2 + jx) (n2 - k_) n2) (40 * kk2 + jx + ((n2 - 1) - k_)) ((cpG git (40 * kk + ix) (40 * kk2 + jx) (n2 - k_) n2) (40 * kk + ix + ((n2 - 1) - k_)))))) it = some (oI 320 (upd (cpG git (40 * kk + ix) (40 * kk2 + jx) (n2 - k_) n2) (40 * kk2 + jx + ((n2 - 1) - k_)) ((cpG git (40 * kk + ix) (40 * kk2 + jx) (n2 - k_) n2) (40 * kk + ix + ((n2 - 1) - k_))))) := (congrFun heq9 it).symm.trans (fx_up_s _ _ _)
                            refine lv_iinc (v := nI (k_ + 1)) (lv' := [(7, .int (nI (k_ + 1))), (8, .int (nI ((n2 - 1) - k_))), (0, .ref mo), (1, .int (nI kk)), (2, .int (nI ix)), (3, .int (nI kk2)), (4, .int (nI jx)), (5, .int (nI n2)), (6, .int (nI 0))]) hx hb dX12_copy_198 hl (k := 8) rfl (nI_1 _) (by decide) rfl (fun ls hl => ?_)
                            refine lv_goto (tgt := 143) hx hb dX12_copy_201 (by decide) ?_
                            have hl : lv_has ls 9 [(0, .ref mo), (1, .int (nI kk)), (2, .int (nI ix)), (3, .int (nI kk2)), (4, .int (nI jx)), (5, .int (nI n2)), (6, .int (nI 0)), (7, .int (nI (k_ + 1)))] := lv_sub hl [2, 3, 4, 5, 6, 7, 8, 0] rfl
                            have hH : fx_H G base s (fx_up (fx_up f mo (oO 11 [.int (nI 0), .int (nI 0), .ref la, .ref ma, .ref it, .ref rl, .ref fr, .ref li, .ref wa, .ref ld, .int ac, .ref tp, .int tn, .int cu, .int sr, .int tk, .int va, .int ft, .int fA, .int lt, .ref so, .ref ik, .ref kp, .ref kl, .ref tc, .int tt])) it (oI 320 (cpG git (40 * kk + ix) (40 * kk2 + jx) (n2 - (k_ + 1)) n2))) sz H locs := (by rw [← cpG_dn (g := git) (s := 40 * kk + ix) (d := 40 * kk2 + jx) (k := k_) (n := n2) (by omega) (by omega)]; exact hH)
                            exact ih_143 (k_ + 1) (by omega) (by omega) _ _ hH _ hl
                      have hl : lv_has ls 9 [(0, .ref mo), (1, .int (nI kk)), (2, .int (nI ix)), (3, .int (nI kk2)), (4, .int (nI jx)), (5, .int (nI n2)), (6, .int (nI 0)), (7, .int (nI 0))] := lv_sub hl [2, 3, 4, 5, 6, 7, 1, 0] rfl
                      have hH : fx_H G base s (fx_up (fx_up f mo (oO 11 [.int (nI 0), .int (nI 0), .ref la, .ref ma, .ref it, .ref rl, .ref fr, .ref li, .ref wa, .ref ld, .int ac, .ref tp, .int tn, .int cu, .int sr, .int tk, .int va, .int ft, .int fA, .int lt, .ref so, .ref ik, .ref kp, .ref kl, .ref tc, .int tt])) it (oI 320 (cpG git (40 * kk + ix) (40 * kk2 + jx) (n2 - 0) n2))) sz H locs := (by rw [Nat.sub_zero, cpG_0, fx_up_id h2_it]; exact hH)
                      exact loop_143 _ 0 (by omega) (Nat.lt_succ_self _) _ _ hH _ hl
                    · refine lv_iconst (v := nI 1) hx hb dX12_copy_133 (by decide) ?_
                      refine lv_goto (tgt := 138) hx hb dX12_copy_134 (by decide) ?_
                      refine lv_istore (lv' := [(6, .int (nI 1)), (0, .ref mo), (1, .int (nI kk)), (2, .int (nI ix)), (3, .int (nI kk2)), (4, .int (nI jx)), (5, .int (nI n2))]) hx hb dX12_copy_138 hl (by decide) rfl (fun ls hl => ?_)
                      refine lv_iconst (v := nI 0) hx hb dX12_copy_140 (by decide) ?_
                      refine lv_istore (lv' := [(7, .int (nI 0)), (6, .int (nI 1)), (0, .ref mo), (1, .int (nI kk)), (2, .int (nI ix)), (3, .int (nI kk2)), (4, .int (nI jx)), (5, .int (nI n2))]) hx hb dX12_copy_141 hl (by decide) rfl (fun ls hl => ?_)
                      have loop_143 : ∀ (N_143 : Nat) (k_ : Nat) (hk_ : k_ ≤ n2) (hm_143 : n2 - k_ < N_143) (H : Heap) (locs : List Loc) (hH : fx_H G base s (fx_up (fx_up f mo (oO 11 [.int (nI 0), .int (nI 0), .ref la, .ref ma, .ref it, .ref rl, .ref fr, .ref li, .ref wa, .ref ld, .int ac, .ref tp, .int tn, .int cu, .int sr, .int tk, .int va, .int ft, .int fA, .int lt, .ref so, .ref ik, .ref kp, .ref kl, .ref tc, .int tt])) it (oI 320 (cpG git (40 * kk + ix) (40 * kk2 + jx) 0 k_))) sz H locs) (ls : Array Slot) (hl : lv_has ls 9 [(0, .ref mo), (1, .int (nI kk)), (2, .int (nI ix)), (3, .int (nI kk2)), (4, .int (nI jx)), (5, .int (nI n2)), (6, .int (nI 1)), (7, .int (nI k_))]), W p l e rm_X12_copy s m args below meth c H locs 0 0 (MQ below (fx_QP G base Po) args s rm_X12_copy.cells rm_X12_copy.slots (fun q => base ≤ q)) (F0 m 143 ls []) := by
                        intro N_143
                        induction N_143 with
                        | zero => intro k_ hk_ hm_143; exact absurd hm_143 (Nat.not_lt_zero _)
                        | succ N_143 ih_143 =>
                          intro k_ hk_ hm_143 H locs hH ls hl
                          have h10_la : (fx_up (fx_up f mo (oO 11 [.int (nI 0), .int (nI 0), .ref la, .ref ma, .ref it, .ref rl, .ref fr, .ref li, .ref wa, .ref ld, .int ac, .ref tp, .int tn, .int cu, .int sr, .int tk, .int va, .int ft, .int fA, .int lt, .ref so, .ref ik, .ref kp, .ref kl, .ref tc, .int tt])) it (oI 320 (cpG git (40 * kk + ix) (40 * kk2 + jx) 0 k_))) la = some (oI 8 gla) := (fx_up_n _ _ hne_1).trans ((fx_up_n _ _ (fx_ne h2_la h2_mo rfl)).trans (h_la))
                          have h10_ma : (fx_up (fx_up f mo (oO 11 [.int (nI 0), .int (nI 0), .ref la, .ref ma, .ref it, .ref rl, .ref fr, .ref li, .ref wa, .ref ld, .int ac, .ref tp, .int tn, .int cu, .int sr, .int tk, .int va, .int ft, .int fA, .int lt, .ref so, .ref ik, .ref kp, .ref kl, .ref tc, .int tt])) it (oI 320 (cpG git (40 * kk + ix) (40 * kk2 + jx) 0 k_))) ma = some (oI 8 gma) := (fx_up_n _ _ hne_2).trans ((fx_up_n _ _ (fx_ne h2_ma h2_mo rfl)).trans (h_ma))
                          have h10_it : (fx_up (fx_up f mo (oO 11 [.int (nI 0), .int (nI 0), .ref la, .ref ma, .ref it, .ref rl, .ref fr, .ref li, .ref wa, .ref ld, .int ac, .ref tp, .int tn, .int cu, .int sr, .int tk, .int va, .int ft, .int fA, .int lt, .ref so, .ref ik, .ref kp, .ref kl, .ref tc, .int tt])) it (oI 320 (cpG git (40 * kk + ix) (40 * kk2 + jx) 0 k_))) it = some (oI 320 (cpG git (40 * kk + ix) (40 * kk2 + jx) 0 k_)) := fx_up_s _ _ _
                          have h10_mo : (fx_up (fx_up f mo (oO 11 [.int (nI 0), .int (nI 0), .ref la, .ref ma, .ref it, .ref rl, .ref fr, .ref li, .ref wa, .ref ld, .int ac, .ref tp, .int tn, .int cu, .int sr, .int tk, .int va, .int ft, .int fA, .int lt, .ref so, .ref ik, .ref kp, .ref kl, .ref tc, .int tt])) it (oI 320 (cpG git (40 * kk + ix) (40 * kk2 + jx) 0 k_))) mo = some (oO 11 [.int (nI 0), .int (nI 0), .ref la, .ref ma, .ref it, .ref rl, .ref fr, .ref li, .ref wa, .ref ld, .int ac, .ref tp, .int tn, .int cu, .int sr, .int tk, .int va, .int ft, .int fA, .int lt, .ref so, .ref ik, .ref kp, .ref kl, .ref tc, .int tt]) := (fx_up_n _ _ (fx_ne h2_mo h2_it rfl)).trans (fx_up_s _ _ _)
                          refine lv_iload hx hb dX12_copy_143 (lv_at hl 7 rfl) ?_
                          refine lv_iload hx hb dX12_copy_145 (lv_at hl 5 rfl) ?_
                          refine fx_N_ge (a := k_) (b := n2) hx hb (by omega) (by omega) (tgt := 204) dX12_copy_147 (by decide) (fun c147 => ?_) (fun c147 => ?_)
                          · refine lv_iload hx hb dX12_copy_204 (lv_at hl 5 rfl) ?_
                            exact fx_iretP C hr hk hH (K7 c33 c42 c63 c73 c78 c83 c100 c118 ix n2 jx hix hjx rfl rfl rfl c130 k_ hk_ c147) (Nat.zero_le _) (Nat.zero_le _) dX12_copy_206
                          · refine lv_iload hx hb dX12_copy_150 (lv_at hl 6 rfl) ?_
                            refine fx_O_eq (a := 1) hx hb (by omega) (tgt := 160) dX12_copy_152 (by decide) (fun c152 => absurd c152 (by omega)) (fun c152 => ?_)
                            refine lv_iload hx hb dX12_copy_155 (lv_at hl 7 rfl) ?_
                            refine lv_goto (tgt := 167) hx hb dX12_copy_157 (by decide) ?_
                            refine lv_istore (lv' := [(8, .int (nI k_)), (0, .ref mo), (1, .int (nI kk)), (2, .int (nI ix)), (3, .int (nI kk2)), (4, .int (nI jx)), (5, .int (nI n2)), (6, .int (nI 1)), (7, .int (nI k_))]) hx hb dX12_copy_167 hl (by decide) rfl (fun ls hl => ?_)
                            refine lv_aload_n hx hb dX12_copy_169 rfl (lv_at hl 1 rfl) ?_
                            refine fx_get C hH (k := 4) (v := .ref it) h10_mo ff_X12_16_11 rfl dX12_copy_170 ?_
                            refine lv_bipush (v := nI 40) hx hb dX12_copy_173 (by decide) ?_
                            refine lv_iload_n hx hb dX12_copy_175 rfl (lv_at hl 4 rfl) ?_
                            refine lv_imul hx hb dX12_copy_176 ?_
                            refine fx_ti (y := nI (40 * kk2)) (pk_mul _ _) ?_
                            refine lv_iload hx hb dX12_copy_177 (lv_at hl 5 rfl) ?_
                            refine lv_iadd hx hb dX12_copy_179 ?_
                            refine fx_ti (y := nI (40 * kk2 + jx)) (nI_add _ _) ?_
                            refine lv_iload hx hb dX12_copy_180 (lv_at hl 0 rfl) ?_
                            refine lv_iadd hx hb dX12_copy_182 ?_
                            refine fx_ti (y := nI (40 * kk2 + jx + k_)) (nI_add _ _) ?_
                            refine lv_aload_n hx hb dX12_copy_183 rfl (lv_at hl 1 rfl) ?_
                            refine fx_get C hH (k := 4) (v := .ref it) h10_mo ff_X12_16_11 rfl dX12_copy_184 ?_
                            refine lv_bipush (v := nI 40) hx hb dX12_copy_187 (by decide) ?_
                            refine lv_iload_n hx hb dX12_copy_189 rfl (lv_at hl 2 rfl) ?_
                            refine lv_imul hx hb dX12_copy_190 ?_
                            refine fx_ti (y := nI (40 * kk)) (pk_mul _ _) ?_
                            refine lv_iload_n hx hb dX12_copy_191 rfl (lv_at hl 3 rfl) ?_
                            refine lv_iadd hx hb dX12_copy_192 ?_
                            refine fx_ti (y := nI (40 * kk + ix)) (nI_add _ _) ?_
                            refine lv_iload hx hb dX12_copy_193 (lv_at hl 0 rfl) ?_
                            refine lv_iadd hx hb dX12_copy_195 ?_
                            refine fx_ti (y := nI (40 * kk + ix + k_)) (nI_add _ _) ?_
                            refine fx_ialdN C hH h10_it (by omega) (by omega) dX12_copy_196 ?_
                            refine fx_iastN C hH h10_it (by omega) (by omega) dX12_copy_197 (fun H locs hH => ?_)
                            have hH : fx_H G base s (fx_up (fx_up (fx_up f mo (oO 11 [.int (nI 0), .int (nI 0), .ref la, .ref ma, .ref it, .ref rl, .ref fr, .ref li, .ref wa, .ref ld, .int ac, .ref tp, .int tn, .int cu, .int sr, .int tk, .int va, .int ft, .int fA, .int lt, .ref so, .ref ik, .ref kp, .ref kl, .ref tc, .int tt])) it (oI 320 (cpG git (40 * kk + ix) (40 * kk2 + jx) 0 k_))) it (oI 320 (upd (cpG git (40 * kk + ix) (40 * kk2 + jx) 0 k_) (40 * kk2 + jx + k_) ((cpG git (40 * kk + ix) (40 * kk2 + jx) 0 k_) (40 * kk + ix + k_))))) sz H locs := hH
                            rw [fx_up_up] at hH
                            have hH : fx_H G base s (fx_up (fx_up f mo (oO 11 [.int (nI 0), .int (nI 0), .ref la, .ref ma, .ref it, .ref rl, .ref fr, .ref li, .ref wa, .ref ld, .int ac, .ref tp, .int tn, .int cu, .int sr, .int tk, .int va, .int ft, .int fA, .int lt, .ref so, .ref ik, .ref kp, .ref kl, .ref tc, .int tt])) it (oI 320 (upd (cpG git (40 * kk + ix) (40 * kk2 + jx) 0 k_) (40 * kk2 + jx + k_) ((cpG git (40 * kk + ix) (40 * kk2 + jx) 0 k_) (40 * kk + ix + k_))))) sz H locs := hH
                            have heq11 : fx_up (fx_up (fx_up f mo (oO 11 [.int (nI 0), .int (nI 0), .ref la, .ref ma, .ref it, .ref rl, .ref fr, .ref li, .ref wa, .ref ld, .int ac, .ref tp, .int tn, .int cu, .int sr, .int tk, .int va, .int ft, .int fA, .int lt, .ref so, .ref ik, .ref kp, .ref kl, .ref tc, .int tt])) it (oI 320 (cpG git (40 * kk + ix) (40 * kk2 + jx) 0 k_))) it (oI 320 (upd (cpG git (40 * kk + ix) (40 * kk2 + jx) 0 k_) (40 * kk2 + jx + k_) ((cpG git (40 * kk + ix) (40 * kk2 + jx) 0 k_) (40 * kk + ix + k_)))) = fx_up (fx_up f mo (oO 11 [.int (nI 0), .int (nI 0), .ref la, .ref ma, .ref it, .ref rl, .ref fr, .ref li, .ref wa, .ref ld, .int ac, .ref tp, .int tn, .int cu, .int sr, .int tk, .int va, .int ft, .int fA, .int lt, .ref so, .ref ik, .ref kp, .ref kl, .ref tc, .int tt])) it (oI 320 (upd (cpG git (40 * kk + ix) (40 * kk2 + jx) 0 k_) (40 * kk2 + jx + k_) ((cpG git (40 * kk + ix) (40 * kk2 + jx) 0 k_) (40 * kk + ix + k_)))) := by rw [fx_up_up]
                            have h11_la : (fx_up (fx_up f mo (oO 11 [.int (nI 0), .int (nI 0), .ref la, .ref ma, .ref it, .ref rl, .ref fr, .ref li, .ref wa, .ref ld, .int ac, .ref tp, .int tn, .int cu, .int sr, .int tk, .int va, .int ft, .int fA, .int lt, .ref so, .ref ik, .ref kp, .ref kl, .ref tc, .int tt])) it (oI 320 (upd (cpG git (40 * kk + ix) (40 * kk2 + jx) 0 k_) (40 * kk2 + jx + k_) ((cpG git (40 * kk + ix) (40 * kk2 + jx) 0 k_) (40 * kk + ix + k_))))) la = some (oI 8 gla) := (congrFun heq11 la).symm.trans ((fx_up_n _ _ hne_1).trans h10_la)
                            have h11_ma : (fx_up (fx_up f mo (oO 11 [.int (nI 0), .int (nI 0), .ref la, .ref ma, .ref it, .ref rl, .ref fr, .ref li, .ref wa, .ref ld, .int ac, .ref tp, .int tn, .int cu, .int sr, .int tk, .int va, .int ft, .int fA, .int lt, .ref so, .ref ik, .ref kp, .ref kl, .ref tc, .int tt])) it (oI 320 (upd (cpG git (40 * kk + ix) (40 * kk2 + jx) 0 k_) (40 * kk2 + jx + k_) ((cpG git (40 * kk + ix) (40 * kk2 + jx) 0 k_) (40 * kk + ix + k_))))) ma = some (oI 8 gma) := (congrFun heq11 ma).symm.trans ((fx_up_n _ _ hne_2).trans h10_ma)
                            have h11_mo : (fx_up (fx_up f mo (oO 11 [.int (nI 0), .int (nI 0), .ref la, .ref ma, .ref it, .ref rl, .ref fr, .ref li, .ref wa, .ref ld, .int ac, .ref tp, .int tn, .int cu, .int sr, .int tk, .int va, .int ft, .int fA, .int lt, .ref so, .ref ik, .ref kp, .ref kl, .ref tc, .int tt])) it (oI 320 (upd (cpG git (40 * kk + ix) (40 * kk2 + jx) 0 k_) (40 * kk2 + jx + k_) ((cpG git (40 * kk + ix) (40 * kk2 + jx) 0 k_) (40 * kk + ix + k_))))) mo = some (oO 11 [.int (nI 0), .int (nI 0), .ref la, .ref ma, .ref it, .ref rl, .ref fr, .ref li, .ref wa, .ref ld, .int ac, .ref tp, .int tn, .int cu, .int sr, .int tk, .int va, .int ft, .int fA, .int lt, .ref so, .ref ik, .ref kp, .ref kl, .ref tc, .int tt]) := (congrFun heq11 mo).symm.trans ((fx_up_n _ _ (fx_ne h10_mo h10_it rfl)).trans h10_mo)
                            have h11_it : (fx_up (fx_up f mo (oO 11 [.int (nI 0), .int (nI 0), .ref la, .ref ma, .ref it, .ref rl, .ref fr, .ref li, .ref wa, .ref ld, .int ac, .ref tp, .int tn, .int cu, .int sr, .int tk, .int va, .int ft, .int fA, .int lt, .ref so, .ref ik, .ref kp, .ref kl, .ref tc, .int tt])) it (oI 320 (upd (cpG git (40 * kk + ix) (40 * kk2 + jx) 0 k_) (40 * kk2 + jx + k_) ((cpG git (40 * kk + ix) (40 * kk2 + jx) 0 k_) (40 * kk + ix + k_))))) it = some (oI 320 (upd (cpG git (40 * kk + ix) (40 * kk2 + jx) 0 k_) (40 * kk2 + jx + k_) ((cpG git (40 * kk + ix) (40 * kk2 + jx) 0 k_) (40 * kk + ix + k_)))) := (congrFun heq11 it).symm.trans (fx_up_s _ _ _)
                            refine lv_iinc (v := nI (k_ + 1)) (lv' := [(7, .int (nI (k_ + 1))), (8, .int (nI k_)), (0, .ref mo), (1, .int (nI kk)), (2, .int (nI ix)), (3, .int (nI kk2)), (4, .int (nI jx)), (5, .int (nI n2)), (6, .int (nI 1))]) hx hb dX12_copy_198 hl (k := 8) rfl (nI_1 _) (by decide) rfl (fun ls hl => ?_)
                            refine lv_goto (tgt := 143) hx hb dX12_copy_201 (by decide) ?_
                            have hl : lv_has ls 9 [(0, .ref mo), (1, .int (nI kk)), (2, .int (nI ix)), (3, .int (nI kk2)), (4, .int (nI jx)), (5, .int (nI n2)), (6, .int (nI 1)), (7, .int (nI (k_ + 1)))] := lv_sub hl [2, 3, 4, 5, 6, 7, 8, 0] rfl
                            have hH : fx_H G base s (fx_up (fx_up f mo (oO 11 [.int (nI 0), .int (nI 0), .ref la, .ref ma, .ref it, .ref rl, .ref fr, .ref li, .ref wa, .ref ld, .int ac, .ref tp, .int tn, .int cu, .int sr, .int tk, .int va, .int ft, .int fA, .int lt, .ref so, .ref ik, .ref kp, .ref kl, .ref tc, .int tt])) it (oI 320 (cpG git (40 * kk + ix) (40 * kk2 + jx) 0 (k_ + 1)))) sz H locs := (by rw [← cpG_up (g := git) (s := 40 * kk + ix) (d := 40 * kk2 + jx) (k := k_) (by omega)]; exact hH)
                            exact ih_143 (k_ + 1) (by omega) (by omega) _ _ hH _ hl
                      have hl : lv_has ls 9 [(0, .ref mo), (1, .int (nI kk)), (2, .int (nI ix)), (3, .int (nI kk2)), (4, .int (nI jx)), (5, .int (nI n2)), (6, .int (nI 1)), (7, .int (nI 0))] := lv_sub hl [2, 3, 4, 5, 6, 7, 1, 0] rfl
                      have hH : fx_H G base s (fx_up (fx_up f mo (oO 11 [.int (nI 0), .int (nI 0), .ref la, .ref ma, .ref it, .ref rl, .ref fr, .ref li, .ref wa, .ref ld, .int ac, .ref tp, .int tn, .int cu, .int sr, .int tk, .int va, .int ft, .int fA, .int lt, .ref so, .ref ik, .ref kp, .ref kl, .ref tc, .int tt])) it (oI 320 (cpG git (40 * kk + ix) (40 * kk2 + jx) 0 0))) sz H locs := (by rw [cpG_0, fx_up_id h2_it]; exact hH)
                      exact loop_143 _ 0 (by omega) (Nat.lt_succ_self _) _ _ hH _ hl
                · refine lv_aload_n hx hb dX12_copy_121 rfl (lv_at hl 0 rfl) ?_
                  refine lv_iconst (v := nI 2) hx hb dX12_copy_122 (by decide) ?_
                  refine fx_go1 hH (fx_runV C hH hl.1 (As := [.int (nI 2)]) (rest := []) (c_X12_finding (G := G) (base := base) (l := l) (f := fx_up f mo (oO 11 [.int (nI 0), .int (nI 0), .ref la, .ref ma, .ref it, .ref rl, .ref fr, .ref li, .ref wa, .ref ld, .int ac, .ref tp, .int tn, .int cu, .int sr, .int tk, .int va, .int ft, .int fA, .int lt, .ref so, .ref ik, .ref kp, .ref kl, .ref tc, .int tt])) (sz := sz) (mo := mo) (nn := nI 2) (th := nI 0) (sa := nI 0) (la := la) (ma := ma) (it := it) (rl := rl) (fr := fr) (li := li) (wa := wa) (ld := ld) (ac := ac) (tp := tp) (tn := tn) (cu := cu) (sr := sr) (tk := tk) (va := va) (ft := ft) (fA := fA) (lt := lt) (so := so) (ik := ik) (kp := kp) (kl := kl) (tc := tc) (tt := tt) h2_mo) mY_X12_finding ml_X12_75 im_X12_finding se_X12_X12_finding h2_mo rfl rfl ⟨(Nat.le_of_ble_eq_true rfl), (Nat.le_of_ble_eq_true rfl)⟩ rfl (Nat.le_of_ble_eq_true rfl) ⟨(Nat.le_of_ble_eq_true rfl), (Nat.le_of_ble_eq_true rfl)⟩ dX12_copy_123) (fun H locs hH => ?_)
                  have hH : fx_H G base s (fx_up (fx_up f mo (oO 11 [.int (nI 0), .int (nI 0), .ref la, .ref ma, .ref it, .ref rl, .ref fr, .ref li, .ref wa, .ref ld, .int ac, .ref tp, .int tn, .int cu, .int sr, .int tk, .int va, .int ft, .int fA, .int lt, .ref so, .ref ik, .ref kp, .ref kl, .ref tc, .int tt])) mo (oO 11 [.int (nI 0), .int (nI 2), .ref la, .ref ma, .ref it, .ref rl, .ref fr, .ref li, .ref wa, .ref ld, .int ac, .ref tp, .int tn, .int cu, .int sr, .int tk, .int va, .int ft, .int fA, .int lt, .ref so, .ref ik, .ref kp, .ref kl, .ref tc, .int tt])) sz H locs := hH
                  have heq12 : fx_up (fx_up f mo (oO 11 [.int (nI 0), .int (nI 0), .ref la, .ref ma, .ref it, .ref rl, .ref fr, .ref li, .ref wa, .ref ld, .int ac, .ref tp, .int tn, .int cu, .int sr, .int tk, .int va, .int ft, .int fA, .int lt, .ref so, .ref ik, .ref kp, .ref kl, .ref tc, .int tt])) mo (oO 11 [.int (nI 0), .int (nI 2), .ref la, .ref ma, .ref it, .ref rl, .ref fr, .ref li, .ref wa, .ref ld, .int ac, .ref tp, .int tn, .int cu, .int sr, .int tk, .int va, .int ft, .int fA, .int lt, .ref so, .ref ik, .ref kp, .ref kl, .ref tc, .int tt]) = fx_up f mo (oO 11 [.int (nI 0), .int (nI 2), .ref la, .ref ma, .ref it, .ref rl, .ref fr, .ref li, .ref wa, .ref ld, .int ac, .ref tp, .int tn, .int cu, .int sr, .int tk, .int va, .int ft, .int fA, .int lt, .ref so, .ref ik, .ref kp, .ref kl, .ref tc, .int tt]) := by rw [fx_up_up]
                  rw [heq12] at hH
                  have h12_la : (fx_up f mo (oO 11 [.int (nI 0), .int (nI 2), .ref la, .ref ma, .ref it, .ref rl, .ref fr, .ref li, .ref wa, .ref ld, .int ac, .ref tp, .int tn, .int cu, .int sr, .int tk, .int va, .int ft, .int fA, .int lt, .ref so, .ref ik, .ref kp, .ref kl, .ref tc, .int tt])) la = some (oI 8 gla) := (congrFun heq12 la).symm.trans ((fx_up_n _ _ (fx_ne h2_la h2_mo rfl)).trans h2_la)
                  have h12_ma : (fx_up f mo (oO 11 [.int (nI 0), .int (nI 2), .ref la, .ref ma, .ref it, .ref rl, .ref fr, .ref li, .ref wa, .ref ld, .int ac, .ref tp, .int tn, .int cu, .int sr, .int tk, .int va, .int ft, .int fA, .int lt, .ref so, .ref ik, .ref kp, .ref kl, .ref tc, .int tt])) ma = some (oI 8 gma) := (congrFun heq12 ma).symm.trans ((fx_up_n _ _ (fx_ne h2_ma h2_mo rfl)).trans h2_ma)
                  have h12_it : (fx_up f mo (oO 11 [.int (nI 0), .int (nI 2), .ref la, .ref ma, .ref it, .ref rl, .ref fr, .ref li, .ref wa, .ref ld, .int ac, .ref tp, .int tn, .int cu, .int sr, .int tk, .int va, .int ft, .int fA, .int lt, .ref so, .ref ik, .ref kp, .ref kl, .ref tc, .int tt])) it = some (oI 320 git) := (congrFun heq12 it).symm.trans ((fx_up_n _ _ (fx_ne h2_it h2_mo rfl)).trans h2_it)
                  have h12_mo : (fx_up f mo (oO 11 [.int (nI 0), .int (nI 2), .ref la, .ref ma, .ref it, .ref rl, .ref fr, .ref li, .ref wa, .ref ld, .int ac, .ref tp, .int tn, .int cu, .int sr, .int tk, .int va, .int ft, .int fA, .int lt, .ref so, .ref ik, .ref kp, .ref kl, .ref tc, .int tt])) mo = some (oO 11 [.int (nI 0), .int (nI 2), .ref la, .ref ma, .ref it, .ref rl, .ref fr, .ref li, .ref wa, .ref ld, .int ac, .ref tp, .int tn, .int cu, .int sr, .int tk, .int va, .int ft, .int fA, .int lt, .ref so, .ref ik, .ref kp, .ref kl, .ref tc, .int tt]) := (congrFun heq12 mo).symm.trans (fx_up_s _ _ _)
                  have hH : fx_H G base s (fx_up f mo (oO 11 [.int (nI 0), .int (nI 2), .ref la, .ref ma, .ref it, .ref rl, .ref fr, .ref li, .ref wa, .ref ld, .int ac, .ref tp, .int tn, .int cu, .int sr, .int tk, .int va, .int ft, .int fA, .int lt, .ref so, .ref ik, .ref kp, .ref kl, .ref tc, .int tt])) sz H locs := hH
                  exact fx_iretP C hr hk hH (K8 c33 c42 c63 c73 c78 c83 c100 c118) (Nat.zero_le _) (Nat.zero_le _) dX12_copy_126
      · refine lv_aload_n hx hb dX12_copy_66 rfl (lv_at hl 0 rfl) ?_
        refine lv_iconst (v := nI 5) hx hb dX12_copy_67 (by decide) ?_
        refine fx_go1 hH (fx_runV C hH hl.1 (As := [.int (nI 5)]) (rest := []) (c_X12_finding (G := G) (base := base) (l := l) (f := fx_up f mo (oO 11 [.int (nI 0), .int (nI 0), .ref la, .ref ma, .ref it, .ref rl, .ref fr, .ref li, .ref wa, .ref ld, .int ac, .ref tp, .int tn, .int cu, .int sr, .int tk, .int va, .int ft, .int fA, .int lt, .ref so, .ref ik, .ref kp, .ref kl, .ref tc, .int tt])) (sz := sz) (mo := mo) (nn := nI 5) (th := nI 0) (sa := nI 0) (la := la) (ma := ma) (it := it) (rl := rl) (fr := fr) (li := li) (wa := wa) (ld := ld) (ac := ac) (tp := tp) (tn := tn) (cu := cu) (sr := sr) (tk := tk) (va := va) (ft := ft) (fA := fA) (lt := lt) (so := so) (ik := ik) (kp := kp) (kl := kl) (tc := tc) (tt := tt) h2_mo) mY_X12_finding ml_X12_75 im_X12_finding se_X12_X12_finding h2_mo rfl rfl ⟨(Nat.le_of_ble_eq_true rfl), (Nat.le_of_ble_eq_true rfl)⟩ rfl (Nat.le_of_ble_eq_true rfl) ⟨(Nat.le_of_ble_eq_true rfl), (Nat.le_of_ble_eq_true rfl)⟩ dX12_copy_68) (fun H locs hH => ?_)
        have hH : fx_H G base s (fx_up (fx_up f mo (oO 11 [.int (nI 0), .int (nI 0), .ref la, .ref ma, .ref it, .ref rl, .ref fr, .ref li, .ref wa, .ref ld, .int ac, .ref tp, .int tn, .int cu, .int sr, .int tk, .int va, .int ft, .int fA, .int lt, .ref so, .ref ik, .ref kp, .ref kl, .ref tc, .int tt])) mo (oO 11 [.int (nI 0), .int (nI 5), .ref la, .ref ma, .ref it, .ref rl, .ref fr, .ref li, .ref wa, .ref ld, .int ac, .ref tp, .int tn, .int cu, .int sr, .int tk, .int va, .int ft, .int fA, .int lt, .ref so, .ref ik, .ref kp, .ref kl, .ref tc, .int tt])) sz H locs := hH
        have heq13 : fx_up (fx_up f mo (oO 11 [.int (nI 0), .int (nI 0), .ref la, .ref ma, .ref it, .ref rl, .ref fr, .ref li, .ref wa, .ref ld, .int ac, .ref tp, .int tn, .int cu, .int sr, .int tk, .int va, .int ft, .int fA, .int lt, .ref so, .ref ik, .ref kp, .ref kl, .ref tc, .int tt])) mo (oO 11 [.int (nI 0), .int (nI 5), .ref la, .ref ma, .ref it, .ref rl, .ref fr, .ref li, .ref wa, .ref ld, .int ac, .ref tp, .int tn, .int cu, .int sr, .int tk, .int va, .int ft, .int fA, .int lt, .ref so, .ref ik, .ref kp, .ref kl, .ref tc, .int tt]) = fx_up f mo (oO 11 [.int (nI 0), .int (nI 5), .ref la, .ref ma, .ref it, .ref rl, .ref fr, .ref li, .ref wa, .ref ld, .int ac, .ref tp, .int tn, .int cu, .int sr, .int tk, .int va, .int ft, .int fA, .int lt, .ref so, .ref ik, .ref kp, .ref kl, .ref tc, .int tt]) := by rw [fx_up_up]
        rw [heq13] at hH
        have h13_la : (fx_up f mo (oO 11 [.int (nI 0), .int (nI 5), .ref la, .ref ma, .ref it, .ref rl, .ref fr, .ref li, .ref wa, .ref ld, .int ac, .ref tp, .int tn, .int cu, .int sr, .int tk, .int va, .int ft, .int fA, .int lt, .ref so, .ref ik, .ref kp, .ref kl, .ref tc, .int tt])) la = some (oI 8 gla) := (congrFun heq13 la).symm.trans ((fx_up_n _ _ (fx_ne h2_la h2_mo rfl)).trans h2_la)
        have h13_ma : (fx_up f mo (oO 11 [.int (nI 0), .int (nI 5), .ref la, .ref ma, .ref it, .ref rl, .ref fr, .ref li, .ref wa, .ref ld, .int ac, .ref tp, .int tn, .int cu, .int sr, .int tk, .int va, .int ft, .int fA, .int lt, .ref so, .ref ik, .ref kp, .ref kl, .ref tc, .int tt])) ma = some (oI 8 gma) := (congrFun heq13 ma).symm.trans ((fx_up_n _ _ (fx_ne h2_ma h2_mo rfl)).trans h2_ma)
        have h13_it : (fx_up f mo (oO 11 [.int (nI 0), .int (nI 5), .ref la, .ref ma, .ref it, .ref rl, .ref fr, .ref li, .ref wa, .ref ld, .int ac, .ref tp, .int tn, .int cu, .int sr, .int tk, .int va, .int ft, .int fA, .int lt, .ref so, .ref ik, .ref kp, .ref kl, .ref tc, .int tt])) it = some (oI 320 git) := (congrFun heq13 it).symm.trans ((fx_up_n _ _ (fx_ne h2_it h2_mo rfl)).trans h2_it)
        have h13_mo : (fx_up f mo (oO 11 [.int (nI 0), .int (nI 5), .ref la, .ref ma, .ref it, .ref rl, .ref fr, .ref li, .ref wa, .ref ld, .int ac, .ref tp, .int tn, .int cu, .int sr, .int tk, .int va, .int ft, .int fA, .int lt, .ref so, .ref ik, .ref kp, .ref kl, .ref tc, .int tt])) mo = some (oO 11 [.int (nI 0), .int (nI 5), .ref la, .ref ma, .ref it, .ref rl, .ref fr, .ref li, .ref wa, .ref ld, .int ac, .ref tp, .int tn, .int cu, .int sr, .int tk, .int va, .int ft, .int fA, .int lt, .ref so, .ref ik, .ref kp, .ref kl, .ref tc, .int tt]) := (congrFun heq13 mo).symm.trans (fx_up_s _ _ _)
        have hH : fx_H G base s (fx_up f mo (oO 11 [.int (nI 0), .int (nI 5), .ref la, .ref ma, .ref it, .ref rl, .ref fr, .ref li, .ref wa, .ref ld, .int ac, .ref tp, .int tn, .int cu, .int sr, .int tk, .int va, .int ft, .int fA, .int lt, .ref so, .ref ik, .ref kp, .ref kl, .ref tc, .int tt])) sz H locs := hH
        exact fx_iretP C hr hk hH (K9 c33 c42 c63) (Nat.zero_le _) (Nat.zero_le _) dX12_copy_71
    · refine lv_aload_n hx hb dX12_copy_45 rfl (lv_at hl 0 rfl) ?_
      refine lv_iconst (v := nI 1) hx hb dX12_copy_46 (by decide) ?_
      refine fx_go1 hH (fx_runV C hH hl.1 (As := [.int (nI 1)]) (rest := []) (c_X12_finding (G := G) (base := base) (l := l) (f := fx_up f mo (oO 11 [.int (nI 0), .int (nI 0), .ref la, .ref ma, .ref it, .ref rl, .ref fr, .ref li, .ref wa, .ref ld, .int ac, .ref tp, .int tn, .int cu, .int sr, .int tk, .int va, .int ft, .int fA, .int lt, .ref so, .ref ik, .ref kp, .ref kl, .ref tc, .int tt])) (sz := sz) (mo := mo) (nn := nI 1) (th := nI 0) (sa := nI 0) (la := la) (ma := ma) (it := it) (rl := rl) (fr := fr) (li := li) (wa := wa) (ld := ld) (ac := ac) (tp := tp) (tn := tn) (cu := cu) (sr := sr) (tk := tk) (va := va) (ft := ft) (fA := fA) (lt := lt) (so := so) (ik := ik) (kp := kp) (kl := kl) (tc := tc) (tt := tt) h2_mo) mY_X12_finding ml_X12_75 im_X12_finding se_X12_X12_finding h2_mo rfl rfl ⟨(Nat.le_of_ble_eq_true rfl), (Nat.le_of_ble_eq_true rfl)⟩ rfl (Nat.le_of_ble_eq_true rfl) ⟨(Nat.le_of_ble_eq_true rfl), (Nat.le_of_ble_eq_true rfl)⟩ dX12_copy_47) (fun H locs hH => ?_)
      have hH : fx_H G base s (fx_up (fx_up f mo (oO 11 [.int (nI 0), .int (nI 0), .ref la, .ref ma, .ref it, .ref rl, .ref fr, .ref li, .ref wa, .ref ld, .int ac, .ref tp, .int tn, .int cu, .int sr, .int tk, .int va, .int ft, .int fA, .int lt, .ref so, .ref ik, .ref kp, .ref kl, .ref tc, .int tt])) mo (oO 11 [.int (nI 0), .int (nI 1), .ref la, .ref ma, .ref it, .ref rl, .ref fr, .ref li, .ref wa, .ref ld, .int ac, .ref tp, .int tn, .int cu, .int sr, .int tk, .int va, .int ft, .int fA, .int lt, .ref so, .ref ik, .ref kp, .ref kl, .ref tc, .int tt])) sz H locs := hH
      have heq14 : fx_up (fx_up f mo (oO 11 [.int (nI 0), .int (nI 0), .ref la, .ref ma, .ref it, .ref rl, .ref fr, .ref li, .ref wa, .ref ld, .int ac, .ref tp, .int tn, .int cu, .int sr, .int tk, .int va, .int ft, .int fA, .int lt, .ref so, .ref ik, .ref kp, .ref kl, .ref tc, .int tt])) mo (oO 11 [.int (nI 0), .int (nI 1), .ref la, .ref ma, .ref it, .ref rl, .ref fr, .ref li, .ref wa, .ref ld, .int ac, .ref tp, .int tn, .int cu, .int sr, .int tk, .int va, .int ft, .int fA, .int lt, .ref so, .ref ik, .ref kp, .ref kl, .ref tc, .int tt]) = fx_up f mo (oO 11 [.int (nI 0), .int (nI 1), .ref la, .ref ma, .ref it, .ref rl, .ref fr, .ref li, .ref wa, .ref ld, .int ac, .ref tp, .int tn, .int cu, .int sr, .int tk, .int va, .int ft, .int fA, .int lt, .ref so, .ref ik, .ref kp, .ref kl, .ref tc, .int tt]) := by rw [fx_up_up]
      rw [heq14] at hH
      have h14_la : (fx_up f mo (oO 11 [.int (nI 0), .int (nI 1), .ref la, .ref ma, .ref it, .ref rl, .ref fr, .ref li, .ref wa, .ref ld, .int ac, .ref tp, .int tn, .int cu, .int sr, .int tk, .int va, .int ft, .int fA, .int lt, .ref so, .ref ik, .ref kp, .ref kl, .ref tc, .int tt])) la = some (oI 8 gla) := (congrFun heq14 la).symm.trans ((fx_up_n _ _ (fx_ne h2_la h2_mo rfl)).trans h2_la)
      have h14_ma : (fx_up f mo (oO 11 [.int (nI 0), .int (nI 1), .ref la, .ref ma, .ref it, .ref rl, .ref fr, .ref li, .ref wa, .ref ld, .int ac, .ref tp, .int tn, .int cu, .int sr, .int tk, .int va, .int ft, .int fA, .int lt, .ref so, .ref ik, .ref kp, .ref kl, .ref tc, .int tt])) ma = some (oI 8 gma) := (congrFun heq14 ma).symm.trans ((fx_up_n _ _ (fx_ne h2_ma h2_mo rfl)).trans h2_ma)
      have h14_it : (fx_up f mo (oO 11 [.int (nI 0), .int (nI 1), .ref la, .ref ma, .ref it, .ref rl, .ref fr, .ref li, .ref wa, .ref ld, .int ac, .ref tp, .int tn, .int cu, .int sr, .int tk, .int va, .int ft, .int fA, .int lt, .ref so, .ref ik, .ref kp, .ref kl, .ref tc, .int tt])) it = some (oI 320 git) := (congrFun heq14 it).symm.trans ((fx_up_n _ _ (fx_ne h2_it h2_mo rfl)).trans h2_it)
      have h14_mo : (fx_up f mo (oO 11 [.int (nI 0), .int (nI 1), .ref la, .ref ma, .ref it, .ref rl, .ref fr, .ref li, .ref wa, .ref ld, .int ac, .ref tp, .int tn, .int cu, .int sr, .int tk, .int va, .int ft, .int fA, .int lt, .ref so, .ref ik, .ref kp, .ref kl, .ref tc, .int tt])) mo = some (oO 11 [.int (nI 0), .int (nI 1), .ref la, .ref ma, .ref it, .ref rl, .ref fr, .ref li, .ref wa, .ref ld, .int ac, .ref tp, .int tn, .int cu, .int sr, .int tk, .int va, .int ft, .int fA, .int lt, .ref so, .ref ik, .ref kp, .ref kl, .ref tc, .int tt]) := (congrFun heq14 mo).symm.trans (fx_up_s _ _ _)
      have hH : fx_H G base s (fx_up f mo (oO 11 [.int (nI 0), .int (nI 1), .ref la, .ref ma, .ref it, .ref rl, .ref fr, .ref li, .ref wa, .ref ld, .int ac, .ref tp, .int tn, .int cu, .int sr, .int tk, .int va, .int ft, .int fA, .int lt, .ref so, .ref ik, .ref kp, .ref kl, .ref tc, .int tt])) sz H locs := hH
      exact fx_iretP C hr hk hH (K10 c33 c42) (Nat.zero_le _) (Nat.zero_le _) dX12_copy_50
abbrev rm_X12_feed : Room := { frames := 1, cells := 0, slots := 0, locals := 25 }
set_option maxHeartbeats 4000000 in
set_option maxRecDepth 100000 in
theorem c_X12_feed {G : GG} {base : Nat} {l : Launch} {f : Hp} {sz : Nat} {Po : Option Value → Hp → Nat → Prop} {mo : Nat} {b : Int32} {th : Int32} {sa : Int32} {la : Nat} {ma : Nat} {it : Nat} {rl : Nat} {fr : Nat} {li : Nat} {wa : Nat} {ld : Nat} {ac : Int32} {tp : Nat} {tn : Nat} {cu : Int32} {sr : Int32} {tk : Int32} {va : Int32} {ft : Int32} {fA : Int32} {lt : Int32} {so : Nat} {ik : Nat} {kp : Nat} {kl : Nat} {tc : Nat} {tt : Int32} {gtp : Nat → Int32} (h_mo : f mo = some (oO 11 [.int th, .int sa, .ref la, .ref ma, .ref it, .ref rl, .ref fr, .ref li, .ref wa, .ref ld, .int ac, .ref tp, .int (nI tn), .int cu, .int sr, .int tk, .int va, .int ft, .int fA, .int lt, .ref so, .ref ik, .ref kp, .ref kl, .ref tc, .int tt])) (h_tp : f tp = some (oI 120 gtp)) (htn : tn ≤ 120) (K1 : ∀ (c14 : (¬ b < nI 0 ∧ ¬ nI 255 < b)), ∀ (c26 : ¬ tn = 120), Po (some (.int (nI (tn + 1)))) (fx_up (fx_up f mo (oO 11 [.int (nI 0), .int sa, .ref la, .ref ma, .ref it, .ref rl, .ref fr, .ref li, .ref wa, .ref ld, .int ac, .ref tp, .int (nI (tn + 1)), .int cu, .int sr, .int tk, .int va, .int ft, .int fA, .int lt, .ref so, .ref ik, .ref kp, .ref kl, .ref tc, .int tt])) tp (oI 120 (upd gtp tn b))) sz)
    (K2 : ∀ (c14 : (¬ b < nI 0 ∧ ¬ nI 255 < b)), ∀ (c26 : tn = 120), Po (some (.int (-1000003))) (fx_up f mo (oO 11 [.int (nI 0), .int sa, .ref la, .ref ma, .ref it, .ref rl, .ref fr, .ref li, .ref wa, .ref ld, .int ac, .ref tp, .int (nI tn), .int cu, .int sr, .int tk, .int va, .int ft, .int fA, .int lt, .ref so, .ref ik, .ref kp, .ref kl, .ref tc, .int tt])) sz)
    (K3 : ∀ (c14 : ¬ (¬ b < nI 0 ∧ ¬ nI 255 < b)), Po (some (.int (-1000001))) (fx_up f mo (oO 11 [.int (nI 0), .int sa, .ref la, .ref ma, .ref it, .ref rl, .ref fr, .ref li, .ref wa, .ref ld, .int ac, .ref tp, .int (nI tn), .int cu, .int sr, .int tk, .int va, .int ft, .int fA, .int lt, .ref so, .ref ik, .ref kp, .ref kl, .ref tc, .int tt])) sz) : fx_MP G base l yX12_feed cX12_feed 2 (some .int) rm_X12_feed [.ref mo, .int b] f sz Po := by
  refine fx_ofP (by decide +kernel) (Nat.le_of_ble_eq_true rfl) ?_
  intro p e s m args below meth c C hr hk hnm hH ls hl
  obtain ⟨locs, hlocs⟩ : ∃ L : List Loc, L = [] := ⟨_, rfl⟩
  rw [← hlocs] at hH ⊢
  generalize s.heap = H at hH ⊢
  have hx := C.1
  have hb := C.2.1
  have hl : lv_has ls 2 [(0, .ref mo), (1, .int b)] := hl
  refine lv_aload_n hx hb dX12_feed_0 rfl (lv_at hl 0 rfl) ?_
  refine lv_iconst (v := nI 0) hx hb dX12_feed_1 (by decide) ?_
  refine fx_putT C hH (k := 0) h_mo ff_X12_54_11 fL_11 fT_11_0 rfl rfl (Nat.le_of_ble_eq_true rfl) dX12_feed_2 (fun H locs hH => ?_)
  have hH : fx_H G base s (fx_up f mo (oO 11 [.int (nI 0), .int sa, .ref la, .ref ma, .ref it, .ref rl, .ref fr, .ref li, .ref wa, .ref ld, .int ac, .ref tp, .int (nI tn), .int cu, .int sr, .int tk, .int va, .int ft, .int fA, .int lt, .ref so, .ref ik, .ref kp, .ref kl, .ref tc, .int tt])) sz H locs := hH
  have h1_tp : (fx_up f mo (oO 11 [.int (nI 0), .int sa, .ref la, .ref ma, .ref it, .ref rl, .ref fr, .ref li, .ref wa, .ref ld, .int ac, .ref tp, .int (nI tn), .int cu, .int sr, .int tk, .int va, .int ft, .int fA, .int lt, .ref so, .ref ik, .ref kp, .ref kl, .ref tc, .int tt])) tp = some (oI 120 gtp) := (fx_up_n _ _ (fx_ne h_tp h_mo rfl)).trans h_tp
  have h1_mo : (fx_up f mo (oO 11 [.int (nI 0), .int sa, .ref la, .ref ma, .ref it, .ref rl, .ref fr, .ref li, .ref wa, .ref ld, .int ac, .ref tp, .int (nI tn), .int cu, .int sr, .int tk, .int va, .int ft, .int fA, .int lt, .ref so, .ref ik, .ref kp, .ref kl, .ref tc, .int tt])) mo = some (oO 11 [.int (nI 0), .int sa, .ref la, .ref ma, .ref it, .ref rl, .ref fr, .ref li, .ref wa, .ref ld, .int ac, .ref tp, .int (nI tn), .int cu, .int sr, .int tk, .int va, .int ft, .int fA, .int lt, .ref so, .ref ik, .ref kp, .ref kl, .ref tc, .int tt]) := fx_up_s _ _ _
  refine lv_iload_n hx hb dX12_feed_5 rfl (lv_at hl 1 rfl) ?_
  refine lv_i2l (v := b.toInt64) hx hb dX12_feed_6 rfl ?_
  refine lv_lconst (v := lN 0) hx hb dX12_feed_7 (by decide) ?_
  refine lv_ldc2 (v := (255)) hx hb C.2.2.2.1 (C.2.2.2.2.1 _ kL_X12_79 rfl args) dX12_feed_8 ?_
  refine fx_tl (y := lN 255) (by decide) ?_
  refine fx_go1 hH (fx_runS C hH hl.1 (As := [.long b.toInt64, .long (lN 0), .long (lN 255)]) (rest := []) (c_X12_in_i (G := G) (base := base) (l := l) (f := fx_up f mo (oO 11 [.int (nI 0), .int sa, .ref la, .ref ma, .ref it, .ref rl, .ref fr, .ref li, .ref wa, .ref ld, .int ac, .ref tp, .int (nI tn), .int cu, .int sr, .int tk, .int va, .int ft, .int fA, .int lt, .ref so, .ref ik, .ref kp, .ref kl, .ref tc, .int tt])) (sz := sz) (x := b) (lo := 0) (hi := 255) (by omega) (by omega)) mY_X12_in ml_X12_64 st_X12_in rfl ⟨(Nat.le_of_ble_eq_true rfl), (Nat.le_of_ble_eq_true rfl)⟩ rfl (Nat.le_of_ble_eq_true rfl) ⟨(Nat.le_of_ble_eq_true rfl), (Nat.le_of_ble_eq_true rfl)⟩ dX12_feed_11) (fun H locs hH => ?_)
  refine fx_b_ne hx hb (tgt := 20) dX12_feed_14 (by decide) (fun c14 => ?_) (fun c14 => ?_)
  · refine lv_aload_n hx hb dX12_feed_20 rfl (lv_at hl 0 rfl) ?_
    refine fx_get C hH (k := 12) (v := .int (nI tn)) h1_mo ff_X12_81_11 rfl dX12_feed_21 ?_
    refine lv_bipush (v := nI 120) hx hb dX12_feed_24 (by decide) ?_
    refine fx_N_ne (a := tn) (b := 120) hx hb (by omega) (by omega) (tgt := 32) dX12_feed_26 (by decide) (fun c26 => ?_) (fun c26 => ?_)
    · refine lv_aload_n hx hb dX12_feed_32 rfl (lv_at hl 0 rfl) ?_
      refine fx_get C hH (k := 11) (v := .ref tp) h1_mo ff_X12_35_11 rfl dX12_feed_33 ?_
      refine lv_aload_n hx hb dX12_feed_36 rfl (lv_at hl 0 rfl) ?_
      refine fx_get C hH (k := 12) (v := .int (nI tn)) h1_mo ff_X12_81_11 rfl dX12_feed_37 ?_
      refine lv_iload_n hx hb dX12_feed_40 rfl (lv_at hl 1 rfl) ?_
      refine fx_iastN C hH h1_tp (by omega) (by omega) dX12_feed_41 (fun H locs hH => ?_)
      have hH : fx_H G base s (fx_up (fx_up f mo (oO 11 [.int (nI 0), .int sa, .ref la, .ref ma, .ref it, .ref rl, .ref fr, .ref li, .ref wa, .ref ld, .int ac, .ref tp, .int (nI tn), .int cu, .int sr, .int tk, .int va, .int ft, .int fA, .int lt, .ref so, .ref ik, .ref kp, .ref kl, .ref tc, .int tt])) tp (oI 120 (upd gtp tn b))) sz H locs := hH
      have h2_mo : (fx_up (fx_up f mo (oO 11 [.int (nI 0), .int sa, .ref la, .ref ma, .ref it, .ref rl, .ref fr, .ref li, .ref wa, .ref ld, .int ac, .ref tp, .int (nI tn), .int cu, .int sr, .int tk, .int va, .int ft, .int fA, .int lt, .ref so, .ref ik, .ref kp, .ref kl, .ref tc, .int tt])) tp (oI 120 (upd gtp tn b))) mo = some (oO 11 [.int (nI 0), .int sa, .ref la, .ref ma, .ref it, .ref rl, .ref fr, .ref li, .ref wa, .ref ld, .int ac, .ref tp, .int (nI tn), .int cu, .int sr, .int tk, .int va, .int ft, .int fA, .int lt, .ref so, .ref ik, .ref kp, .ref kl, .ref tc, .int tt]) := (fx_up_n _ _ (fx_ne h1_mo h1_tp rfl)).trans h1_mo
      have h2_tp : (fx_up (fx_up f mo (oO 11 [.int (nI 0), .int sa, .ref la, .ref ma, .ref it, .ref rl, .ref fr, .ref li, .ref wa, .ref ld, .int ac, .ref tp, .int (nI tn), .int cu, .int sr, .int tk, .int va, .int ft, .int fA, .int lt, .ref so, .ref ik, .ref kp, .ref kl, .ref tc, .int tt])) tp (oI 120 (upd gtp tn b))) tp = some (oI 120 (upd gtp tn b)) := fx_up_s _ _ _
      refine lv_aload_n hx hb dX12_feed_42 rfl (lv_at hl 0 rfl) ?_
      refine lv_dup hx hb dX12_feed_43 rfl ?_
      refine fx_get C hH (k := 12) (v := .int (nI tn)) h2_mo ff_X12_81_11 rfl dX12_feed_44 ?_
      refine lv_iconst (v := nI 1) hx hb dX12_feed_47 (by decide) ?_
      refine lv_iadd hx hb dX12_feed_48 ?_
      refine fx_ti (y := nI (tn + 1)) (nI_add _ _) ?_
      refine fx_putT C hH (k := 12) h2_mo ff_X12_81_11 fL_11 fT_11_12 rfl rfl (Nat.le_of_ble_eq_true rfl) dX12_feed_49 (fun H locs hH => ?_)
      have hH : fx_H G base s (fx_up (fx_up (fx_up f mo (oO 11 [.int (nI 0), .int sa, .ref la, .ref ma, .ref it, .ref rl, .ref fr, .ref li, .ref wa, .ref ld, .int ac, .ref tp, .int (nI tn), .int cu, .int sr, .int tk, .int va, .int ft, .int fA, .int lt, .ref so, .ref ik, .ref kp, .ref kl, .ref tc, .int tt])) tp (oI 120 (upd gtp tn b))) mo (oO 11 [.int (nI 0), .int sa, .ref la, .ref ma, .ref it, .ref rl, .ref fr, .ref li, .ref wa, .ref ld, .int ac, .ref tp, .int (nI (tn + 1)), .int cu, .int sr, .int tk, .int va, .int ft, .int fA, .int lt, .ref so, .ref ik, .ref kp, .ref kl, .ref tc, .int tt])) sz H locs := hH
      rw [fx_up_c _ _ _ (fx_ne h2_tp h2_mo rfl), fx_up_up] at hH
      have hH : fx_H G base s (fx_up (fx_up f mo (oO 11 [.int (nI 0), .int sa, .ref la, .ref ma, .ref it, .ref rl, .ref fr, .ref li, .ref wa, .ref ld, .int ac, .ref tp, .int (nI (tn + 1)), .int cu, .int sr, .int tk, .int va, .int ft, .int fA, .int lt, .ref so, .ref ik, .ref kp, .ref kl, .ref tc, .int tt])) tp (oI 120 (upd gtp tn b))) sz H locs := hH
      have heq3 : fx_up (fx_up (fx_up f mo (oO 11 [.int (nI 0), .int sa, .ref la, .ref ma, .ref it, .ref rl, .ref fr, .ref li, .ref wa, .ref ld, .int ac, .ref tp, .int (nI tn), .int cu, .int sr, .int tk, .int va, .int ft, .int fA, .int lt, .ref so, .ref ik, .ref kp, .ref kl, .ref tc, .int tt])) tp (oI 120 (upd gtp tn b))) mo (oO 11 [.int (nI 0), .int sa, .ref la, .ref ma, .ref it, .ref rl, .ref fr, .ref li, .ref wa, .ref ld, .int ac, .ref tp, .int (nI (tn + 1)), .int cu, .int sr, .int tk, .int va, .int ft, .int fA, .int lt, .ref so, .ref ik, .ref kp, .ref kl, .ref tc, .int tt]) = fx_up (fx_up f mo (oO 11 [.int (nI 0), .int sa, .ref la, .ref ma, .ref it, .ref rl, .ref fr, .ref li, .ref wa, .ref ld, .int ac, .ref tp, .int (nI (tn + 1)), .int cu, .int sr, .int tk, .int va, .int ft, .int fA, .int lt, .ref so, .ref ik, .ref kp, .ref kl, .ref tc, .int tt])) tp (oI 120 (upd gtp tn b)) := by rw [fx_up_c _ _ _ (fx_ne h2_tp h2_mo rfl), fx_up_up]
      have h3_tp : (fx_up (fx_up f mo (oO 11 [.int (nI 0), .int sa, .ref la, .ref ma, .ref it, .ref rl, .ref fr, .ref li, .ref wa, .ref ld, .int ac, .ref tp, .int (nI (tn + 1)), .int cu, .int sr, .int tk, .int va, .int ft, .int fA, .int lt, .ref so, .ref ik, .ref kp, .ref kl, .ref tc, .int tt])) tp (oI 120 (upd gtp tn b))) tp = some (oI 120 (upd gtp tn b)) := (congrFun heq3 tp).symm.trans ((fx_up_n _ _ (fx_ne h2_tp h2_mo rfl)).trans h2_tp)
      have h3_mo : (fx_up (fx_up f mo (oO 11 [.int (nI 0), .int sa, .ref la, .ref ma, .ref it, .ref rl, .ref fr, .ref li, .ref wa, .ref ld, .int ac, .ref tp, .int (nI (tn + 1)), .int cu, .int sr, .int tk, .int va, .int ft, .int fA, .int lt, .ref so, .ref ik, .ref kp, .ref kl, .ref tc, .int tt])) tp (oI 120 (upd gtp tn b))) mo = some (oO 11 [.int (nI 0), .int sa, .ref la, .ref ma, .ref it, .ref rl, .ref fr, .ref li, .ref wa, .ref ld, .int ac, .ref tp, .int (nI (tn + 1)), .int cu, .int sr, .int tk, .int va, .int ft, .int fA, .int lt, .ref so, .ref ik, .ref kp, .ref kl, .ref tc, .int tt]) := (congrFun heq3 mo).symm.trans (fx_up_s _ _ _)
      refine lv_aload_n hx hb dX12_feed_52 rfl (lv_at hl 0 rfl) ?_
      refine fx_get C hH (k := 12) (v := .int (nI (tn + 1))) h3_mo ff_X12_81_11 rfl dX12_feed_53 ?_
      exact fx_iretP C hr hk hH (K1 c14 c26) (Nat.zero_le _) (Nat.zero_le _) dX12_feed_56
    · refine lv_ldc (v := (-1000003)) hx hb C.2.2.2.1 (C.2.2.2.2.1 _ kI_X12_84 rfl args) dX12_feed_29 ?_
      exact fx_iretP C hr hk hH (K2 c14 c26) (Nat.zero_le _) (Nat.zero_le _) dX12_feed_31
  · refine lv_ldc (v := (-1000001)) hx hb C.2.2.2.1 (C.2.2.2.2.1 _ kI_X12_74 rfl args) dX12_feed_17 ?_
    exact fx_iretP C hr hk hH (K3 c14) (Nat.zero_le _) (Nat.zero_le _) dX12_feed_19
abbrev rm_X12_fault : Room := { frames := 0, cells := 0, slots := 0, locals := 0 }
set_option maxHeartbeats 4000000 in
set_option maxRecDepth 100000 in
theorem c_X12_fault {G : GG} {base : Nat} {l : Launch} {f : Hp} {sz : Nat} {Po : Option Value → Hp → Nat → Prop} {mo : Nat} {th : Int32} {sa : Int32} {la : Nat} {ma : Nat} {it : Nat} {rl : Nat} {fr : Nat} {li : Nat} {wa : Nat} {ld : Nat} {ac : Int32} {tp : Nat} {tn : Int32} {cu : Int32} {sr : Int32} {tk : Int32} {va : Int32} {ft : Int32} {fA : Int32} {lt : Int32} {so : Nat} {ik : Nat} {kp : Nat} {kl : Nat} {tc : Nat} {tt : Int32} (h_mo : f mo = some (oO 11 [.int th, .int sa, .ref la, .ref ma, .ref it, .ref rl, .ref fr, .ref li, .ref wa, .ref ld, .int ac, .ref tp, .int tn, .int cu, .int sr, .int tk, .int va, .int ft, .int fA, .int lt, .ref so, .ref ik, .ref kp, .ref kl, .ref tc, .int tt])) (K1 : Po (some (.int lt)) (fx_up f mo (oO 11 [.int (nI 0), .int sa, .ref la, .ref ma, .ref it, .ref rl, .ref fr, .ref li, .ref wa, .ref ld, .int ac, .ref tp, .int tn, .int cu, .int sr, .int tk, .int va, .int ft, .int fA, .int lt, .ref so, .ref ik, .ref kp, .ref kl, .ref tc, .int tt])) sz) : fx_MP G base l yX12_fault cX12_fault 1 (some .int) rm_X12_fault [.ref mo] f sz Po := by
  refine fx_ofP (by decide +kernel) (Nat.le_of_ble_eq_true rfl) ?_
  intro p e s m args below meth c C hr hk hnm hH ls hl
  obtain ⟨locs, hlocs⟩ : ∃ L : List Loc, L = [] := ⟨_, rfl⟩
  rw [← hlocs] at hH ⊢
  generalize s.heap = H at hH ⊢
  have hx := C.1
  have hb := C.2.1
  have hl : lv_has ls 1 [(0, .ref mo)] := hl
  refine lv_aload_n hx hb dX12_fault_0 rfl (lv_at hl 0 rfl) ?_
  refine lv_iconst (v := nI 0) hx hb dX12_fault_1 (by decide) ?_
  refine fx_putT C hH (k := 0) h_mo ff_X12_54_11 fL_11 fT_11_0 rfl rfl (Nat.le_of_ble_eq_true rfl) dX12_fault_2 (fun H locs hH => ?_)
  have hH : fx_H G base s (fx_up f mo (oO 11 [.int (nI 0), .int sa, .ref la, .ref ma, .ref it, .ref rl, .ref fr, .ref li, .ref wa, .ref ld, .int ac, .ref tp, .int tn, .int cu, .int sr, .int tk, .int va, .int ft, .int fA, .int lt, .ref so, .ref ik, .ref kp, .ref kl, .ref tc, .int tt])) sz H locs := hH
  have h1_mo : (fx_up f mo (oO 11 [.int (nI 0), .int sa, .ref la, .ref ma, .ref it, .ref rl, .ref fr, .ref li, .ref wa, .ref ld, .int ac, .ref tp, .int tn, .int cu, .int sr, .int tk, .int va, .int ft, .int fA, .int lt, .ref so, .ref ik, .ref kp, .ref kl, .ref tc, .int tt])) mo = some (oO 11 [.int (nI 0), .int sa, .ref la, .ref ma, .ref it, .ref rl, .ref fr, .ref li, .ref wa, .ref ld, .int ac, .ref tp, .int tn, .int cu, .int sr, .int tk, .int va, .int ft, .int fA, .int lt, .ref so, .ref ik, .ref kp, .ref kl, .ref tc, .int tt]) := fx_up_s _ _ _
  refine lv_aload_n hx hb dX12_fault_5 rfl (lv_at hl 0 rfl) ?_
  refine fx_get C hH (k := 19) (v := .int lt) h1_mo ff_X12_123_11 rfl dX12_fault_6 ?_
  exact fx_iretP C hr hk hH (K1 ) (Nat.zero_le _) (Nat.zero_le _) dX12_fault_9
abbrev rm_X12_status : Room := { frames := 0, cells := 0, slots := 0, locals := 0 }
set_option maxHeartbeats 4000000 in
set_option maxRecDepth 100000 in
theorem c_X12_status {G : GG} {base : Nat} {l : Launch} {f : Hp} {sz : Nat} {Po : Option Value → Hp → Nat → Prop} {mo : Nat} {th : Int32} {sa : Int32} {la : Nat} {ma : Nat} {it : Nat} {rl : Nat} {fr : Nat} {li : Nat} {wa : Nat} {ld : Nat} {ac : Int32} {tp : Nat} {tn : Int32} {cu : Int32} {sr : Int32} {tk : Int32} {va : Int32} {ft : Int32} {fA : Int32} {lt : Int32} {so : Nat} {ik : Nat} {kp : Nat} {kl : Nat} {tc : Nat} {tt : Int32} (h_mo : f mo = some (oO 11 [.int th, .int sa, .ref la, .ref ma, .ref it, .ref rl, .ref fr, .ref li, .ref wa, .ref ld, .int ac, .ref tp, .int tn, .int cu, .int sr, .int tk, .int va, .int ft, .int fA, .int lt, .ref so, .ref ik, .ref kp, .ref kl, .ref tc, .int tt])) (K1 : Po (some (.int sa)) (fx_up f mo (oO 11 [.int (nI 0), .int sa, .ref la, .ref ma, .ref it, .ref rl, .ref fr, .ref li, .ref wa, .ref ld, .int ac, .ref tp, .int tn, .int cu, .int sr, .int tk, .int va, .int ft, .int fA, .int lt, .ref so, .ref ik, .ref kp, .ref kl, .ref tc, .int tt])) sz) : fx_MP G base l yX12_status cX12_status 1 (some .int) rm_X12_status [.ref mo] f sz Po := by
  refine fx_ofP (by decide +kernel) (Nat.le_of_ble_eq_true rfl) ?_
  intro p e s m args below meth c C hr hk hnm hH ls hl
  obtain ⟨locs, hlocs⟩ : ∃ L : List Loc, L = [] := ⟨_, rfl⟩
  rw [← hlocs] at hH ⊢
  generalize s.heap = H at hH ⊢
  have hx := C.1
  have hb := C.2.1
  have hl : lv_has ls 1 [(0, .ref mo)] := hl
  refine lv_aload_n hx hb dX12_status_0 rfl (lv_at hl 0 rfl) ?_
  refine lv_iconst (v := nI 0) hx hb dX12_status_1 (by decide) ?_
  refine fx_putT C hH (k := 0) h_mo ff_X12_54_11 fL_11 fT_11_0 rfl rfl (Nat.le_of_ble_eq_true rfl) dX12_status_2 (fun H locs hH => ?_)
  have hH : fx_H G base s (fx_up f mo (oO 11 [.int (nI 0), .int sa, .ref la, .ref ma, .ref it, .ref rl, .ref fr, .ref li, .ref wa, .ref ld, .int ac, .ref tp, .int tn, .int cu, .int sr, .int tk, .int va, .int ft, .int fA, .int lt, .ref so, .ref ik, .ref kp, .ref kl, .ref tc, .int tt])) sz H locs := hH
  have h1_mo : (fx_up f mo (oO 11 [.int (nI 0), .int sa, .ref la, .ref ma, .ref it, .ref rl, .ref fr, .ref li, .ref wa, .ref ld, .int ac, .ref tp, .int tn, .int cu, .int sr, .int tk, .int va, .int ft, .int fA, .int lt, .ref so, .ref ik, .ref kp, .ref kl, .ref tc, .int tt])) mo = some (oO 11 [.int (nI 0), .int sa, .ref la, .ref ma, .ref it, .ref rl, .ref fr, .ref li, .ref wa, .ref ld, .int ac, .ref tp, .int tn, .int cu, .int sr, .int tk, .int va, .int ft, .int fA, .int lt, .ref so, .ref ik, .ref kp, .ref kl, .ref tc, .int tt]) := fx_up_s _ _ _
  refine lv_aload_n hx hb dX12_status_5 rfl (lv_at hl 0 rfl) ?_
  refine fx_get C hH (k := 1) (v := .int sa) h1_mo ff_X12_58_11 rfl dX12_status_6 ?_
  exact fx_iretP C hr hk hH (K1 ) (Nat.zero_le _) (Nat.zero_le _) dX12_status_9
abbrev rm_X12_width : Room := { frames := 2, cells := 0, slots := 0, locals := 47 }
set_option maxHeartbeats 4000000 in
set_option maxRecDepth 100000 in
theorem c_X12_width {G : GG} {base : Nat} {l : Launch} {f : Hp} {sz : Nat} {Po : Option Value → Hp → Nat → Prop} {mo : Nat} {w : Int32} {sl : Int32} {sd : Int32} {n : Int32} {th : Int32} {sa : Int32} {la : Nat} {ma : Nat} {it : Nat} {rl : Nat} {fr : Nat} {li : Nat} {wa : Nat} {ld : Nat} {ac : Int32} {tp : Nat} {tn : Int32} {cu : Int32} {sr : Int32} {tk : Int32} {va : Int32} {ft : Int32} {fA : Int32} {lt : Int32} {so : Nat} {ik : Nat} {kp : Nat} {kl : Nat} {tc : Nat} {tt : Int32} (h_mo : f mo = some (oO 11 [.int th, .int sa, .ref la, .ref ma, .ref it, .ref rl, .ref fr, .ref li, .ref wa, .ref ld, .int ac, .ref tp, .int tn, .int cu, .int sr, .int tk, .int va, .int ft, .int fA, .int lt, .ref so, .ref ik, .ref kp, .ref kl, .ref tc, .int tt])) (K1 : ∀ (c11 : ¬ ((¬ w < nI 1 ∧ ¬ nI 19 < w) ∧ (¬ sl < nI 1 ∧ ¬ nI 9 < sl) ∧ (¬ sd < nI 0 ∧ ¬ nI 1 < sd))), Po (some (.int (-1000001))) (fx_up f mo (oO 11 [.int (nI 0), .int sa, .ref la, .ref ma, .ref it, .ref rl, .ref fr, .ref li, .ref wa, .ref ld, .int ac, .ref tp, .int tn, .int cu, .int sr, .int tk, .int va, .int ft, .int fA, .int lt, .ref so, .ref ik, .ref kp, .ref kl, .ref tc, .int tt])) sz)
    (K2 : ∀ (c11 : ((¬ w < nI 1 ∧ ¬ nI 19 < w) ∧ (¬ sl < nI 1 ∧ ¬ nI 9 < sl) ∧ (¬ sd < nI 0 ∧ ¬ nI 1 < sd))), ∀ (c24 : ¬ (¬ n < nI 0 ∧ ¬ nI 40 < n)), Po (some (.int (-1000001))) (fx_up f mo (oO 11 [.int (nI 0), .int sa, .ref la, .ref ma, .ref it, .ref rl, .ref fr, .ref li, .ref wa, .ref ld, .int ac, .ref tp, .int tn, .int cu, .int sr, .int tk, .int va, .int ft, .int fA, .int lt, .ref so, .ref ik, .ref kp, .ref kl, .ref tc, .int tt])) sz)
    (K3 : ∀ (c11 : ((¬ w < nI 1 ∧ ¬ nI 19 < w) ∧ (¬ sl < nI 1 ∧ ¬ nI 9 < sl) ∧ (¬ sd < nI 0 ∧ ¬ nI 1 < sd))), ∀ (c24 : (¬ n < nI 0 ∧ ¬ nI 40 < n)), Po (some (.int (if 0 ≤ (if sd = 0 then w - sl * n else w + sl * n) then (if (if sd = 0 then w - sl * n else w + sl * n) ≤ nI 20 then (if sd = 0 then w - sl * n else w + sl * n) else nI 20) else nI 0))) (fx_up f mo (oO 11 [.int (nI 0), .int sa, .ref la, .ref ma, .ref it, .ref rl, .ref fr, .ref li, .ref wa, .ref ld, .int ac, .ref tp, .int tn, .int cu, .int sr, .int tk, .int va, .int ft, .int fA, .int lt, .ref so, .ref ik, .ref kp, .ref kl, .ref tc, .int tt])) sz) : fx_MP G base l yX12_width cX12_width 5 (some .int) rm_X12_width [.ref mo, .int w, .int sl, .int sd, .int n] f sz Po := by
  refine fx_ofP (by decide +kernel) (Nat.le_of_ble_eq_true rfl) ?_
  intro p e s m args below meth c C hr hk hnm hH ls hl
  obtain ⟨locs, hlocs⟩ : ∃ L : List Loc, L = [] := ⟨_, rfl⟩
  rw [← hlocs] at hH ⊢
  generalize s.heap = H at hH ⊢
  have hx := C.1
  have hb := C.2.1
  have hl : lv_has ls 5 [(0, .ref mo), (1, .int w), (2, .int sl), (3, .int sd), (4, .int n)] := hl
  refine lv_aload_n hx hb dX12_width_0 rfl (lv_at hl 0 rfl) ?_
  refine lv_iconst (v := nI 0) hx hb dX12_width_1 (by decide) ?_
  refine fx_putT C hH (k := 0) h_mo ff_X12_54_11 fL_11 fT_11_0 rfl rfl (Nat.le_of_ble_eq_true rfl) dX12_width_2 (fun H locs hH => ?_)
  have hH : fx_H G base s (fx_up f mo (oO 11 [.int (nI 0), .int sa, .ref la, .ref ma, .ref it, .ref rl, .ref fr, .ref li, .ref wa, .ref ld, .int ac, .ref tp, .int tn, .int cu, .int sr, .int tk, .int va, .int ft, .int fA, .int lt, .ref so, .ref ik, .ref kp, .ref kl, .ref tc, .int tt])) sz H locs := hH
  have h1_mo : (fx_up f mo (oO 11 [.int (nI 0), .int sa, .ref la, .ref ma, .ref it, .ref rl, .ref fr, .ref li, .ref wa, .ref ld, .int ac, .ref tp, .int tn, .int cu, .int sr, .int tk, .int va, .int ft, .int fA, .int lt, .ref so, .ref ik, .ref kp, .ref kl, .ref tc, .int tt])) mo = some (oO 11 [.int (nI 0), .int sa, .ref la, .ref ma, .ref it, .ref rl, .ref fr, .ref li, .ref wa, .ref ld, .int ac, .ref tp, .int tn, .int cu, .int sr, .int tk, .int va, .int ft, .int fA, .int lt, .ref so, .ref ik, .ref kp, .ref kl, .ref tc, .int tt]) := fx_up_s _ _ _
  refine lv_iload_n hx hb dX12_width_5 rfl (lv_at hl 1 rfl) ?_
  refine lv_iload_n hx hb dX12_width_6 rfl (lv_at hl 2 rfl) ?_
  refine lv_iload_n hx hb dX12_width_7 rfl (lv_at hl 3 rfl) ?_
  refine fx_go1 hH (fx_runS C hH hl.1 (As := [.int w, .int sl, .int sd]) (rest := []) (c_X12_isSplinter (G := G) (base := base) (l := l) (f := fx_up f mo (oO 11 [.int (nI 0), .int sa, .ref la, .ref ma, .ref it, .ref rl, .ref fr, .ref li, .ref wa, .ref ld, .int ac, .ref tp, .int tn, .int cu, .int sr, .int tk, .int va, .int ft, .int fA, .int lt, .ref so, .ref ik, .ref kp, .ref kl, .ref tc, .int tt])) (sz := sz) (w := w) (sl := sl) (sd := sd) ) mY_X12_isSplinter ml_X12_232 st_X12_isSplinter rfl ⟨(Nat.le_of_ble_eq_true rfl), (Nat.le_of_ble_eq_true rfl)⟩ rfl (Nat.le_of_ble_eq_true rfl) ⟨(Nat.le_of_ble_eq_true rfl), (Nat.le_of_ble_eq_true rfl)⟩ dX12_width_8) (fun H locs hH => ?_)
  refine fx_b_eq hx hb (tgt := 38) dX12_width_11 (by decide) (fun c11 => ?_) (fun c11 => ?_)
  · refine lv_ldc (v := (-1000001)) hx hb C.2.2.2.1 (C.2.2.2.2.1 _ kI_X12_74 rfl args) dX12_width_38 ?_
    exact fx_iretP C hr hk hH (K1 c11) (Nat.zero_le _) (Nat.zero_le _) dX12_width_40
  · refine lv_iload hx hb dX12_width_14 (lv_at hl 4 rfl) ?_
    refine lv_i2l (v := n.toInt64) hx hb dX12_width_16 rfl ?_
    refine lv_lconst (v := lN 0) hx hb dX12_width_17 (by decide) ?_
    refine lv_ldc2 (v := (40)) hx hb C.2.2.2.1 (C.2.2.2.2.1 _ kL_X12_236 rfl args) dX12_width_18 ?_
    refine fx_tl (y := lN 40) (by decide) ?_
    refine fx_go1 hH (fx_runS C hH hl.1 (As := [.long n.toInt64, .long (lN 0), .long (lN 40)]) (rest := []) (c_X12_in_i (G := G) (base := base) (l := l) (f := fx_up f mo (oO 11 [.int (nI 0), .int sa, .ref la, .ref ma, .ref it, .ref rl, .ref fr, .ref li, .ref wa, .ref ld, .int ac, .ref tp, .int tn, .int cu, .int sr, .int tk, .int va, .int ft, .int fA, .int lt, .ref so, .ref ik, .ref kp, .ref kl, .ref tc, .int tt])) (sz := sz) (x := n) (lo := 0) (hi := 40) (by omega) (by omega)) mY_X12_in ml_X12_64 st_X12_in rfl ⟨(Nat.le_of_ble_eq_true rfl), (Nat.le_of_ble_eq_true rfl)⟩ rfl (Nat.le_of_ble_eq_true rfl) ⟨(Nat.le_of_ble_eq_true rfl), (Nat.le_of_ble_eq_true rfl)⟩ dX12_width_21) (fun H locs hH => ?_)
    refine fx_b_eq hx hb (tgt := 38) dX12_width_24 (by decide) (fun c24 => ?_) (fun c24 => ?_)
    · refine lv_ldc (v := (-1000001)) hx hb C.2.2.2.1 (C.2.2.2.2.1 _ kI_X12_74 rfl args) dX12_width_38 ?_
      exact fx_iretP C hr hk hH (K2 c11 c24) (Nat.zero_le _) (Nat.zero_le _) dX12_width_40
    · refine lv_iload_n hx hb dX12_width_27 rfl (lv_at hl 1 rfl) ?_
      refine lv_iload_n hx hb dX12_width_28 rfl (lv_at hl 2 rfl) ?_
      refine lv_iload_n hx hb dX12_width_29 rfl (lv_at hl 3 rfl) ?_
      refine lv_iload hx hb dX12_width_30 (lv_at hl 4 rfl) ?_
      refine fx_go1 hH (fx_runS C hH hl.1 (As := [.int w, .int sl, .int sd, .int n]) (rest := []) (c_X12_wide (G := G) (base := base) (l := l) (f := fx_up f mo (oO 11 [.int (nI 0), .int sa, .ref la, .ref ma, .ref it, .ref rl, .ref fr, .ref li, .ref wa, .ref ld, .int ac, .ref tp, .int tn, .int cu, .int sr, .int tk, .int va, .int ft, .int fA, .int lt, .ref so, .ref ik, .ref kp, .ref kl, .ref tc, .int tt])) (sz := sz) (w := w) (sl := sl) (sd := sd) (n := n) ) mY_X12_wide ml_X12_238 st_X12_wide rfl ⟨(Nat.le_of_ble_eq_true rfl), (Nat.le_of_ble_eq_true rfl)⟩ rfl (Nat.le_of_ble_eq_true rfl) ⟨(Nat.le_of_ble_eq_true rfl), (Nat.le_of_ble_eq_true rfl)⟩ dX12_width_32) (fun H locs hH => ?_)
      refine lv_goto (tgt := 40) hx hb dX12_width_35 (by decide) ?_
      exact fx_iretP C hr hk hH (K3 c11 c24) (Nat.zero_le _) (Nat.zero_le _) dX12_width_40
abbrev rm_X12_lost : Room := { frames := 2, cells := 0, slots := 0, locals := 47 }
set_option maxHeartbeats 4000000 in
set_option maxRecDepth 100000 in
theorem c_X12_lost {G : GG} {base : Nat} {l : Launch} {f : Hp} {sz : Nat} {Po : Option Value → Hp → Nat → Prop} {mo : Nat} {w : Int32} {sl : Int32} {sd : Int32} {th : Int32} {sa : Int32} {la : Nat} {ma : Nat} {it : Nat} {rl : Nat} {fr : Nat} {li : Nat} {wa : Nat} {ld : Nat} {ac : Int32} {tp : Nat} {tn : Int32} {cu : Int32} {sr : Int32} {tk : Int32} {va : Int32} {ft : Int32} {fA : Int32} {lt : Int32} {so : Nat} {ik : Nat} {kp : Nat} {kl : Nat} {tc : Nat} {tt : Int32} (h_mo : f mo = some (oO 11 [.int th, .int sa, .ref la, .ref ma, .ref it, .ref rl, .ref fr, .ref li, .ref wa, .ref ld, .int ac, .ref tp, .int tn, .int cu, .int sr, .int tk, .int va, .int ft, .int fA, .int lt, .ref so, .ref ik, .ref kp, .ref kl, .ref tc, .int tt])) (K1 : ∀ (c11 : ((¬ w < nI 1 ∧ ¬ nI 19 < w) ∧ (¬ sl < nI 1 ∧ ¬ nI 9 < sl) ∧ (¬ sd < nI 0 ∧ ¬ nI 1 < sd))), ∀ (a_ : Nat), ∀ (b_ : Nat), ∀ (d_ : Nat), ∀ (ha_ : 1 ≤ a_ ∧ a_ ≤ 19), ∀ (hb_ : 1 ≤ b_ ∧ b_ ≤ 9), ∀ (hd_ : d_ ≤ 1), ∀ (ea_ : w = nI a_), ∀ (eb_ : sl = nI b_), ∀ (ed_ : sd = nI d_), ∀ (i1 : Nat), ∀ (hall : ∀ z, z < i1 → 1 ≤ wdN a_ b_ d_ z ∧ wdN a_ b_ d_ z ≤ 19), ∀ (c39 : ¬ (1 ≤ (wdN a_ b_ d_ i1) ∧ (wdN a_ b_ d_ i1) ≤ 19)), Po (some (.int (nI (lsN a_ b_ d_ i1)))) (fx_up f mo (oO 11 [.int (nI 0), .int sa, .ref la, .ref ma, .ref it, .ref rl, .ref fr, .ref li, .ref wa, .ref ld, .int ac, .ref tp, .int tn, .int cu, .int sr, .int tk, .int va, .int ft, .int fA, .int lt, .ref so, .ref ik, .ref kp, .ref kl, .ref tc, .int tt])) sz)
    (K2 : ∀ (c11 : ¬ ((¬ w < nI 1 ∧ ¬ nI 19 < w) ∧ (¬ sl < nI 1 ∧ ¬ nI 9 < sl) ∧ (¬ sd < nI 0 ∧ ¬ nI 1 < sd))), Po (some (.int (-1000001))) (fx_up f mo (oO 11 [.int (nI 0), .int sa, .ref la, .ref ma, .ref it, .ref rl, .ref fr, .ref li, .ref wa, .ref ld, .int ac, .ref tp, .int tn, .int cu, .int sr, .int tk, .int va, .int ft, .int fA, .int lt, .ref so, .ref ik, .ref kp, .ref kl, .ref tc, .int tt])) sz) : fx_MP G base l yX12_lost cX12_lost 6 (some .int) rm_X12_lost [.ref mo, .int w, .int sl, .int sd] f sz Po := by
  refine fx_ofP (by decide +kernel) (Nat.le_of_ble_eq_true rfl) ?_
  intro p e s m args below meth c C hr hk hnm hH ls hl
  obtain ⟨locs, hlocs⟩ : ∃ L : List Loc, L = [] := ⟨_, rfl⟩
  rw [← hlocs] at hH ⊢
  generalize s.heap = H at hH ⊢
  have hx := C.1
  have hb := C.2.1
  have hl : lv_has ls 6 [(0, .ref mo), (1, .int w), (2, .int sl), (3, .int sd)] := hl
  refine lv_aload_n hx hb dX12_lost_0 rfl (lv_at hl 0 rfl) ?_
  refine lv_iconst (v := nI 0) hx hb dX12_lost_1 (by decide) ?_
  refine fx_putT C hH (k := 0) h_mo ff_X12_54_11 fL_11 fT_11_0 rfl rfl (Nat.le_of_ble_eq_true rfl) dX12_lost_2 (fun H locs hH => ?_)
  have hH : fx_H G base s (fx_up f mo (oO 11 [.int (nI 0), .int sa, .ref la, .ref ma, .ref it, .ref rl, .ref fr, .ref li, .ref wa, .ref ld, .int ac, .ref tp, .int tn, .int cu, .int sr, .int tk, .int va, .int ft, .int fA, .int lt, .ref so, .ref ik, .ref kp, .ref kl, .ref tc, .int tt])) sz H locs := hH
  have h1_mo : (fx_up f mo (oO 11 [.int (nI 0), .int sa, .ref la, .ref ma, .ref it, .ref rl, .ref fr, .ref li, .ref wa, .ref ld, .int ac, .ref tp, .int tn, .int cu, .int sr, .int tk, .int va, .int ft, .int fA, .int lt, .ref so, .ref ik, .ref kp, .ref kl, .ref tc, .int tt])) mo = some (oO 11 [.int (nI 0), .int sa, .ref la, .ref ma, .ref it, .ref rl, .ref fr, .ref li, .ref wa, .ref ld, .int ac, .ref tp, .int tn, .int cu, .int sr, .int tk, .int va, .int ft, .int fA, .int lt, .ref so, .ref ik, .ref kp, .ref kl, .ref tc, .int tt]) := fx_up_s _ _ _
  refine lv_iload_n hx hb dX12_lost_5 rfl (lv_at hl 1 rfl) ?_
  refine lv_iload_n hx hb dX12_lost_6 rfl (lv_at hl 2 rfl) ?_
  refine lv_iload_n hx hb dX12_lost_7 rfl (lv_at hl 3 rfl) ?_
  refine fx_go1 hH (fx_runS C hH hl.1 (As := [.int w, .int sl, .int sd]) (rest := []) (c_X12_isSplinter (G := G) (base := base) (l := l) (f := fx_up f mo (oO 11 [.int (nI 0), .int sa, .ref la, .ref ma, .ref it, .ref rl, .ref fr, .ref li, .ref wa, .ref ld, .int ac, .ref tp, .int tn, .int cu, .int sr, .int tk, .int va, .int ft, .int fA, .int lt, .ref so, .ref ik, .ref kp, .ref kl, .ref tc, .int tt])) (sz := sz) (w := w) (sl := sl) (sd := sd) ) mY_X12_isSplinter ml_X12_232 st_X12_isSplinter rfl ⟨(Nat.le_of_ble_eq_true rfl), (Nat.le_of_ble_eq_true rfl)⟩ rfl (Nat.le_of_ble_eq_true rfl) ⟨(Nat.le_of_ble_eq_true rfl), (Nat.le_of_ble_eq_true rfl)⟩ dX12_lost_8) (fun H locs hH => ?_)
  refine fx_b_ne hx hb (tgt := 17) dX12_lost_11 (by decide) (fun c11 => ?_) (fun c11 => ?_)
  · obtain ⟨a_, b_, d_, ha_, hb_, hd_, rfl, rfl, rfl⟩ := spl3 c11
    · skip
      refine lv_iconst (v := nI 0) hx hb dX12_lost_17 (by decide) ?_
      refine lv_istore (lv' := [(4, .int (nI 0)), (0, .ref mo), (1, .int (nI a_)), (2, .int (nI b_)), (3, .int (nI d_))]) hx hb dX12_lost_18 hl (by decide) rfl (fun ls hl => ?_)
      refine lv_iconst (v := nI 0) hx hb dX12_lost_20 (by decide) ?_
      refine lv_istore (lv' := [(5, .int (nI 0)), (4, .int (nI 0)), (0, .ref mo), (1, .int (nI a_)), (2, .int (nI b_)), (3, .int (nI d_))]) hx hb dX12_lost_21 hl (by decide) rfl (fun ls hl => ?_)
      have loop_23 : ∀ (N_23 : Nat) (i1 : Nat) (hall : ∀ z, z < i1 → 1 ≤ wdN a_ b_ d_ z ∧ wdN a_ b_ d_ z ≤ 19) (hm_23 : 20 - i1 < N_23) (H : Heap) (locs : List Loc) (hH : fx_H G base s (fx_up f mo (oO 11 [.int (nI 0), .int sa, .ref la, .ref ma, .ref it, .ref rl, .ref fr, .ref li, .ref wa, .ref ld, .int ac, .ref tp, .int tn, .int cu, .int sr, .int tk, .int va, .int ft, .int fA, .int lt, .ref so, .ref ik, .ref kp, .ref kl, .ref tc, .int tt])) sz H locs) (ls : Array Slot) (hl : lv_has ls 6 [(0, .ref mo), (1, .int (nI a_)), (2, .int (nI b_)), (3, .int (nI d_)), (4, .int (nI (lsN a_ b_ d_ i1))), (5, .int (nI i1))]), W p l e rm_X12_lost s m args below meth c H locs 0 0 (MQ below (fx_QP G base Po) args s rm_X12_lost.cells rm_X12_lost.slots (fun q => base ≤ q)) (F0 m 23 ls []) := by
        intro N_23
        induction N_23 with
        | zero => intro i1 hall hm_23; exact absurd hm_23 (Nat.not_lt_zero _)
        | succ N_23 ih_23 =>
          intro i1 hall hm_23 H locs hH ls hl
          refine lv_iload_n hx hb dX12_lost_23 rfl (lv_at hl 1 rfl) ?_
          refine lv_iload_n hx hb dX12_lost_24 rfl (lv_at hl 2 rfl) ?_
          refine lv_iload_n hx hb dX12_lost_25 rfl (lv_at hl 3 rfl) ?_
          refine lv_iload hx hb dX12_lost_26 (lv_at hl 5 rfl) ?_
          have hwl := wdN_le (b := b_) (d := d_) (c := i1) ha_.2
          have hi19 : i1 ≤ 19 := Nat.le_of_not_lt fun q9 => by
            have h8 := hall 19 q9
            have h7 := wdN_19 (d := d_) ha_.1 ha_.2 hb_.1
            omega
          refine fx_go1 hH (fx_runS C hH hl.1 (As := [.int (nI a_), .int (nI b_), .int (nI d_), .int (nI i1)]) (rest := []) (c_X12_wide (G := G) (base := base) (l := l) (f := fx_up f mo (oO 11 [.int (nI 0), .int sa, .ref la, .ref ma, .ref it, .ref rl, .ref fr, .ref li, .ref wa, .ref ld, .int ac, .ref tp, .int tn, .int cu, .int sr, .int tk, .int va, .int ft, .int fA, .int lt, .ref so, .ref ik, .ref kp, .ref kl, .ref tc, .int tt])) (sz := sz) (w := nI a_) (sl := nI b_) (sd := nI d_) (n := nI i1) ) mY_X12_wide ml_X12_238 st_X12_wide rfl ⟨(Nat.le_of_ble_eq_true rfl), (Nat.le_of_ble_eq_true rfl)⟩ rfl (Nat.le_of_ble_eq_true rfl) ⟨(Nat.le_of_ble_eq_true rfl), (Nat.le_of_ble_eq_true rfl)⟩ dX12_lost_28) (fun H locs hH => ?_)
          refine fx_ti (y := nI (wdN a_ b_ d_ i1)) (wdN_m (by omega) (by omega) hd_ (by omega)) ?_
          refine lv_i2l (v := lN (wdN a_ b_ d_ i1)) hx hb dX12_lost_31 (nI_l (by omega)) ?_
          refine lv_lconst (v := lN 1) hx hb dX12_lost_32 (by decide) ?_
          refine lv_ldc2 (v := (19)) hx hb C.2.2.2.1 (C.2.2.2.2.1 _ kL_X12_228 rfl args) dX12_lost_33 ?_
          refine fx_tl (y := lN 19) (by decide) ?_
          refine fx_go1 hH (fx_runS C hH hl.1 (As := [.long (lN (wdN a_ b_ d_ i1)), .long (lN 1), .long (lN 19)]) (rest := []) (c_X12_in_n (G := G) (base := base) (l := l) (f := fx_up f mo (oO 11 [.int (nI 0), .int sa, .ref la, .ref ma, .ref it, .ref rl, .ref fr, .ref li, .ref wa, .ref ld, .int ac, .ref tp, .int tn, .int cu, .int sr, .int tk, .int va, .int ft, .int fA, .int lt, .ref so, .ref ik, .ref kp, .ref kl, .ref tc, .int tt])) (sz := sz) (v := wdN a_ b_ d_ i1) (lo := 1) (hi := 19) (by omega) (by omega) (by omega)) mY_X12_in ml_X12_64 st_X12_in rfl ⟨(Nat.le_of_ble_eq_true rfl), (Nat.le_of_ble_eq_true rfl)⟩ rfl (Nat.le_of_ble_eq_true rfl) ⟨(Nat.le_of_ble_eq_true rfl), (Nat.le_of_ble_eq_true rfl)⟩ dX12_lost_36) (fun H locs hH => ?_)
          refine fx_b_eq hx hb (tgt := 64) dX12_lost_39 (by decide) (fun c39 => ?_) (fun c39 => ?_)
          · refine lv_iload hx hb dX12_lost_64 (lv_at hl 4 rfl) ?_
            exact fx_iretP C hr hk hH (K1 c11 a_ b_ d_ ha_ hb_ hd_ rfl rfl rfl i1 hall c39) (Nat.zero_le _) (Nat.zero_le _) dX12_lost_66
          · refine lv_iload hx hb dX12_lost_42 (lv_at hl 4 rfl) ?_
            refine lv_bipush (v := nI 20) hx hb dX12_lost_44 (by decide) ?_
            refine lv_iload_n hx hb dX12_lost_46 rfl (lv_at hl 1 rfl) ?_
            refine lv_iload_n hx hb dX12_lost_47 rfl (lv_at hl 2 rfl) ?_
            refine lv_iload_n hx hb dX12_lost_48 rfl (lv_at hl 3 rfl) ?_
            refine lv_iload hx hb dX12_lost_49 (lv_at hl 5 rfl) ?_
            refine fx_go1 hH (fx_runS C hH hl.1 (As := [.int (nI a_), .int (nI b_), .int (nI d_), .int (nI i1)]) (rest := [.int (nI 20), .int (nI (lsN a_ b_ d_ i1))]) (c_X12_wide (G := G) (base := base) (l := l) (f := fx_up f mo (oO 11 [.int (nI 0), .int sa, .ref la, .ref ma, .ref it, .ref rl, .ref fr, .ref li, .ref wa, .ref ld, .int ac, .ref tp, .int tn, .int cu, .int sr, .int tk, .int va, .int ft, .int fA, .int lt, .ref so, .ref ik, .ref kp, .ref kl, .ref tc, .int tt])) (sz := sz) (w := nI a_) (sl := nI b_) (sd := nI d_) (n := nI i1) ) mY_X12_wide ml_X12_238 st_X12_wide rfl ⟨(Nat.le_of_ble_eq_true rfl), (Nat.le_of_ble_eq_true rfl)⟩ rfl (Nat.le_of_ble_eq_true rfl) ⟨(Nat.le_of_ble_eq_true rfl), (Nat.le_of_ble_eq_true rfl)⟩ dX12_lost_51) (fun H locs hH => ?_)
            refine fx_ti (y := nI (wdN a_ b_ d_ i1)) (wdN_m (by omega) (by omega) hd_ (by omega)) ?_
            refine lv_isub hx hb dX12_lost_54 ?_
            refine fx_ti (y := nI (20 - (wdN a_ b_ d_ i1))) (pk_sub (by omega)) ?_
            refine lv_iadd hx hb dX12_lost_55 ?_
            refine fx_ti (y := nI (lsN a_ b_ d_ i1 + (20 - (wdN a_ b_ d_ i1)))) (nI_add _ _) ?_
            refine lv_istore (lv' := [(4, .int (nI (lsN a_ b_ d_ i1 + (20 - (wdN a_ b_ d_ i1))))), (0, .ref mo), (1, .int (nI a_)), (2, .int (nI b_)), (3, .int (nI d_)), (5, .int (nI i1))]) hx hb dX12_lost_56 hl (by decide) rfl (fun ls hl => ?_)
            refine lv_iinc (v := nI (i1 + 1)) (lv' := [(5, .int (nI (i1 + 1))), (4, .int (nI (lsN a_ b_ d_ i1 + (20 - (wdN a_ b_ d_ i1))))), (0, .ref mo), (1, .int (nI a_)), (2, .int (nI b_)), (3, .int (nI d_))]) hx hb dX12_lost_58 hl (k := 5) rfl (nI_1 _) (by decide) rfl (fun ls hl => ?_)
            refine lv_goto (tgt := 23) hx hb dX12_lost_61 (by decide) ?_
            have hl : lv_has ls 6 [(0, .ref mo), (1, .int (nI a_)), (2, .int (nI b_)), (3, .int (nI d_)), (4, .int (nI (lsN a_ b_ d_ i1 + (20 - (wdN a_ b_ d_ i1))))), (5, .int (nI (i1 + 1)))] := lv_sub hl [2, 3, 4, 5, 1, 0] rfl
            have hl : lv_has ls 6 [(0, .ref mo), (1, .int (nI a_)), (2, .int (nI b_)), (3, .int (nI d_)), (4, .int (nI (lsN a_ b_ d_ (i1 + 1)))), (5, .int (nI (i1 + 1)))] := hl
            exact ih_23 (i1 + 1) (fun z hz => by rcases Nat.lt_succ_iff_lt_or_eq.mp hz with q9 | q9; exact hall z q9; subst q9; exact c39) (by omega) _ _ hH _ hl
      have hl : lv_has ls 6 [(0, .ref mo), (1, .int (nI a_)), (2, .int (nI b_)), (3, .int (nI d_)), (4, .int (nI 0)), (5, .int (nI 0))] := lv_sub hl [2, 3, 4, 5, 1, 0] rfl
      have hl : lv_has ls 6 [(0, .ref mo), (1, .int (nI a_)), (2, .int (nI b_)), (3, .int (nI d_)), (4, .int (nI (lsN a_ b_ d_ 0))), (5, .int (nI 0))] := hl
      exact loop_23 _ 0 (fun z hz => absurd hz (Nat.not_lt_zero _)) (Nat.lt_succ_self _) _ _ hH _ hl
  · refine lv_ldc (v := (-1000001)) hx hb C.2.2.2.1 (C.2.2.2.2.1 _ kI_X12_74 rfl args) dX12_lost_14 ?_
    exact fx_iretP C hr hk hH (K2 c11) (Nat.zero_le _) (Nat.zero_le _) dX12_lost_16
abbrev rm_X12_trace : Room := { frames := 1, cells := 0, slots := 0, locals := 25 }
set_option maxHeartbeats 4000000 in
set_option maxRecDepth 100000 in
theorem c_X12_trace {G : GG} {base : Nat} {l : Launch} {f : Hp} {sz : Nat} {Po : Option Value → Hp → Nat → Prop} {mo : Nat} {i : Int32} {th : Int32} {sa : Int32} {la : Nat} {ma : Nat} {it : Nat} {rl : Nat} {fr : Nat} {li : Nat} {wa : Nat} {ld : Nat} {ac : Int32} {tp : Nat} {tn : Int32} {cu : Int32} {sr : Int32} {tk : Int32} {va : Int32} {ft : Int32} {fA : Int32} {lt : Int32} {so : Nat} {ik : Nat} {kp : Nat} {kl : Nat} {tc : Nat} {tt : Nat} {g : Nat → Int32} (h_mo : f mo = some (oO 11 [.int th, .int sa, .ref la, .ref ma, .ref it, .ref rl, .ref fr, .ref li, .ref wa, .ref ld, .int ac, .ref tp, .int tn, .int cu, .int sr, .int tk, .int va, .int ft, .int fA, .int lt, .ref so, .ref ik, .ref kp, .ref kl, .ref tc, .int (nI tt)])) (h_tc : f tc = some (oI 16 g)) (htt : tt ≤ 16) (K1 : ∀ (c18 : ¬ (¬ i < nI 0 ∧ ¬ ((nI tt) - (nI 1)) < i)), Po (some (.int (-1000000))) (fx_up f mo (oO 11 [.int (nI 0), .int sa, .ref la, .ref ma, .ref it, .ref rl, .ref fr, .ref li, .ref wa, .ref ld, .int ac, .ref tp, .int tn, .int cu, .int sr, .int tk, .int va, .int ft, .int fA, .int lt, .ref so, .ref ik, .ref kp, .ref kl, .ref tc, .int (nI tt)])) sz)
    (K2 : ∀ (c18 : (¬ i < nI 0 ∧ ¬ ((nI tt) - (nI 1)) < i)), ∀ (ix : Nat), ∀ (hix : ix < tt), ∀ (hie : i = nI ix), Po (some (.int (g ix))) (fx_up f mo (oO 11 [.int (nI 0), .int sa, .ref la, .ref ma, .ref it, .ref rl, .ref fr, .ref li, .ref wa, .ref ld, .int ac, .ref tp, .int tn, .int cu, .int sr, .int tk, .int va, .int ft, .int fA, .int lt, .ref so, .ref ik, .ref kp, .ref kl, .ref tc, .int (nI tt)])) sz) : fx_MP G base l yX12_trace cX12_trace 2 (some .int) rm_X12_trace [.ref mo, .int i] f sz Po := by
  refine fx_ofP (by decide +kernel) (Nat.le_of_ble_eq_true rfl) ?_
  intro p e s m args below meth c C hr hk hnm hH ls hl
  obtain ⟨locs, hlocs⟩ : ∃ L : List Loc, L = [] := ⟨_, rfl⟩
  rw [← hlocs] at hH ⊢
  generalize s.heap = H at hH ⊢
  have hx := C.1
  have hb := C.2.1
  have hl : lv_has ls 2 [(0, .ref mo), (1, .int i)] := hl
  refine lv_aload_n hx hb dX12_trace_0 rfl (lv_at hl 0 rfl) ?_
  refine lv_iconst (v := nI 0) hx hb dX12_trace_1 (by decide) ?_
  refine fx_putT C hH (k := 0) h_mo ff_X12_54_11 fL_11 fT_11_0 rfl rfl (Nat.le_of_ble_eq_true rfl) dX12_trace_2 (fun H locs hH => ?_)
  have hH : fx_H G base s (fx_up f mo (oO 11 [.int (nI 0), .int sa, .ref la, .ref ma, .ref it, .ref rl, .ref fr, .ref li, .ref wa, .ref ld, .int ac, .ref tp, .int tn, .int cu, .int sr, .int tk, .int va, .int ft, .int fA, .int lt, .ref so, .ref ik, .ref kp, .ref kl, .ref tc, .int (nI tt)])) sz H locs := hH
  have h1_tc : (fx_up f mo (oO 11 [.int (nI 0), .int sa, .ref la, .ref ma, .ref it, .ref rl, .ref fr, .ref li, .ref wa, .ref ld, .int ac, .ref tp, .int tn, .int cu, .int sr, .int tk, .int va, .int ft, .int fA, .int lt, .ref so, .ref ik, .ref kp, .ref kl, .ref tc, .int (nI tt)])) tc = some (oI 16 g) := (fx_up_n _ _ (fx_ne h_tc h_mo rfl)).trans h_tc
  have h1_mo : (fx_up f mo (oO 11 [.int (nI 0), .int sa, .ref la, .ref ma, .ref it, .ref rl, .ref fr, .ref li, .ref wa, .ref ld, .int ac, .ref tp, .int tn, .int cu, .int sr, .int tk, .int va, .int ft, .int fA, .int lt, .ref so, .ref ik, .ref kp, .ref kl, .ref tc, .int (nI tt)])) mo = some (oO 11 [.int (nI 0), .int sa, .ref la, .ref ma, .ref it, .ref rl, .ref fr, .ref li, .ref wa, .ref ld, .int ac, .ref tp, .int tn, .int cu, .int sr, .int tk, .int va, .int ft, .int fA, .int lt, .ref so, .ref ik, .ref kp, .ref kl, .ref tc, .int (nI tt)]) := fx_up_s _ _ _
  refine lv_iload_n hx hb dX12_trace_5 rfl (lv_at hl 1 rfl) ?_
  refine lv_i2l (v := i.toInt64) hx hb dX12_trace_6 rfl ?_
  refine lv_lconst (v := lN 0) hx hb dX12_trace_7 (by decide) ?_
  refine lv_aload_n hx hb dX12_trace_8 rfl (lv_at hl 0 rfl) ?_
  refine fx_get C hH (k := 25) (v := .int (nI tt)) h1_mo ff_X12_261_11 rfl dX12_trace_9 ?_
  refine lv_iconst (v := nI 1) hx hb dX12_trace_12 (by decide) ?_
  refine lv_isub hx hb dX12_trace_13 ?_
  refine lv_i2l (v := ((nI tt) - (nI 1)).toInt64) hx hb dX12_trace_14 rfl ?_
  refine fx_go1 hH (fx_runS C hH hl.1 (As := [.long i.toInt64, .long (lN 0), .long (((nI tt) - (nI 1)).toInt64)]) (rest := []) (c_X12_in_j (G := G) (base := base) (l := l) (f := fx_up f mo (oO 11 [.int (nI 0), .int sa, .ref la, .ref ma, .ref it, .ref rl, .ref fr, .ref li, .ref wa, .ref ld, .int ac, .ref tp, .int tn, .int cu, .int sr, .int tk, .int va, .int ft, .int fA, .int lt, .ref so, .ref ik, .ref kp, .ref kl, .ref tc, .int (nI tt)])) (sz := sz) (x := i) (y := ((nI tt) - (nI 1))) (lo := 0) (by omega)) mY_X12_in ml_X12_64 st_X12_in rfl ⟨(Nat.le_of_ble_eq_true rfl), (Nat.le_of_ble_eq_true rfl)⟩ rfl (Nat.le_of_ble_eq_true rfl) ⟨(Nat.le_of_ble_eq_true rfl), (Nat.le_of_ble_eq_true rfl)⟩ dX12_trace_15) (fun H locs hH => ?_)
  refine fx_b_eq hx hb (tgt := 30) dX12_trace_18 (by decide) (fun c18 => ?_) (fun c18 => ?_)
  · refine lv_ldc (v := (-1000000)) hx hb C.2.2.2.1 (C.2.2.2.2.1 _ kI_X12_97 rfl args) dX12_trace_30 ?_
    exact fx_iretP C hr hk hH (K1 c18) (Nat.zero_le _) (Nat.zero_le _) dX12_trace_32
  · obtain ⟨ix, hix, rfl⟩ := rngS (by omega) c18
    · skip
      refine lv_aload_n hx hb dX12_trace_21 rfl (lv_at hl 0 rfl) ?_
      refine fx_get C hH (k := 24) (v := .ref tc) h1_mo ff_X12_51_11 rfl dX12_trace_22 ?_
      refine lv_iload_n hx hb dX12_trace_25 rfl (lv_at hl 1 rfl) ?_
      refine fx_ialdN C hH h1_tc (by omega) (by omega) dX12_trace_26 ?_
      refine lv_goto (tgt := 32) hx hb dX12_trace_27 (by decide) ?_
      exact fx_iretP C hr hk hH (K2 c18 ix hix rfl) (Nat.zero_le _) (Nat.zero_le _) dX12_trace_32
abbrev rm_X12_count : Room := { frames := 0, cells := 0, slots := 0, locals := 0 }
set_option maxHeartbeats 4000000 in
set_option maxRecDepth 100000 in
theorem c_X12_count {G : GG} {base : Nat} {l : Launch} {f : Hp} {sz : Nat} {Po : Option Value → Hp → Nat → Prop} {mo : Nat} {wh : Int32} {th : Int32} {sa : Int32} {la : Nat} {ma : Nat} {it : Nat} {rl : Nat} {fr : Nat} {li : Nat} {wa : Nat} {ld : Nat} {ac : Nat} {tp : Nat} {tn : Nat} {cu : Int32} {sr : Int32} {tk : Int32} {va : Int32} {ft : Int32} {fA : Int32} {lt : Int32} {so : Nat} {ik : Nat} {kp : Nat} {kl : Nat} {tc : Nat} {tt : Int32} {gla : Nat → Int32} {rho : Nat → Int32} (h_mo : f mo = some (oO 11 [.int th, .int sa, .ref la, .ref ma, .ref it, .ref rl, .ref fr, .ref li, .ref wa, .ref ld, .int (nI ac), .ref tp, .int (nI tn), .int cu, .int sr, .int tk, .int va, .int ft, .int fA, .int lt, .ref so, .ref ik, .ref kp, .ref kl, .ref tc, .int tt])) (h_la : f la = some (oI 8 gla)) (h_rl : f rl = some (oI 48 rho)) (hne_0 : la ≠ rl) (K1 : ∀ (s8_0 : wh = nI 0), ∀ (i1 : Nat), ∀ (hi1 : i1 ≤ 8), ∀ (c53 : 8 ≤ i1), Po (some (.int (nI (cnL gla i1)))) (fx_up f mo (oO 11 [.int (nI 0), .int sa, .ref la, .ref ma, .ref it, .ref rl, .ref fr, .ref li, .ref wa, .ref ld, .int (nI ac), .ref tp, .int (nI tn), .int cu, .int sr, .int tk, .int va, .int ft, .int fA, .int lt, .ref so, .ref ik, .ref kp, .ref kl, .ref tc, .int tt])) sz)
    (K2 : ∀ (s8_1 : wh = nI 1), Po (some (.int (rho 0))) (fx_up f mo (oO 11 [.int (nI 0), .int sa, .ref la, .ref ma, .ref it, .ref rl, .ref fr, .ref li, .ref wa, .ref ld, .int (nI ac), .ref tp, .int (nI tn), .int cu, .int sr, .int tk, .int va, .int ft, .int fA, .int lt, .ref so, .ref ik, .ref kp, .ref kl, .ref tc, .int tt])) sz)
    (K3 : ∀ (s8_2 : wh = nI 2), Po (some (.int (rho 4))) (fx_up f mo (oO 11 [.int (nI 0), .int sa, .ref la, .ref ma, .ref it, .ref rl, .ref fr, .ref li, .ref wa, .ref ld, .int (nI ac), .ref tp, .int (nI tn), .int cu, .int sr, .int tk, .int va, .int ft, .int fA, .int lt, .ref so, .ref ik, .ref kp, .ref kl, .ref tc, .int tt])) sz)
    (K4 : ∀ (s8_3 : wh = nI 3), Po (some (.int (rho 5))) (fx_up f mo (oO 11 [.int (nI 0), .int sa, .ref la, .ref ma, .ref it, .ref rl, .ref fr, .ref li, .ref wa, .ref ld, .int (nI ac), .ref tp, .int (nI tn), .int cu, .int sr, .int tk, .int va, .int ft, .int fA, .int lt, .ref so, .ref ik, .ref kp, .ref kl, .ref tc, .int tt])) sz)
    (K5 : ∀ (s8_4 : wh = nI 4), Po (some (.int (nI ac))) (fx_up f mo (oO 11 [.int (nI 0), .int sa, .ref la, .ref ma, .ref it, .ref rl, .ref fr, .ref li, .ref wa, .ref ld, .int (nI ac), .ref tp, .int (nI tn), .int cu, .int sr, .int tk, .int va, .int ft, .int fA, .int lt, .ref so, .ref ik, .ref kp, .ref kl, .ref tc, .int tt])) sz)
    (K6 : ∀ (s8_5 : wh = nI 5), Po (some (.int (nI tn))) (fx_up f mo (oO 11 [.int (nI 0), .int sa, .ref la, .ref ma, .ref it, .ref rl, .ref fr, .ref li, .ref wa, .ref ld, .int (nI ac), .ref tp, .int (nI tn), .int cu, .int sr, .int tk, .int va, .int ft, .int fA, .int lt, .ref so, .ref ik, .ref kp, .ref kl, .ref tc, .int tt])) sz)
    (K7 : ∀ (s8_0 : ¬ wh = nI 0), ∀ (s8_1 : ¬ wh = nI 1), ∀ (s8_2 : ¬ wh = nI 2), ∀ (s8_3 : ¬ wh = nI 3), ∀ (s8_4 : ¬ wh = nI 4), ∀ (s8_5 : ¬ wh = nI 5), Po (some (.int (-1000001))) (fx_up f mo (oO 11 [.int (nI 0), .int sa, .ref la, .ref ma, .ref it, .ref rl, .ref fr, .ref li, .ref wa, .ref ld, .int (nI ac), .ref tp, .int (nI tn), .int cu, .int sr, .int tk, .int va, .int ft, .int fA, .int lt, .ref so, .ref ik, .ref kp, .ref kl, .ref tc, .int tt])) sz) : fx_MP G base l yX12_count cX12_count 4 (some .int) rm_X12_count [.ref mo, .int wh] f sz Po := by
  refine fx_ofP (by decide +kernel) (Nat.le_of_ble_eq_true rfl) ?_
  intro p e s m args below meth c C hr hk hnm hH ls hl
  obtain ⟨locs, hlocs⟩ : ∃ L : List Loc, L = [] := ⟨_, rfl⟩
  rw [← hlocs] at hH ⊢
  generalize s.heap = H at hH ⊢
  have hx := C.1
  have hb := C.2.1
  have hl : lv_has ls 4 [(0, .ref mo), (1, .int wh)] := hl
  refine lv_aload_n hx hb dX12_count_0 rfl (lv_at hl 0 rfl) ?_
  refine lv_iconst (v := nI 0) hx hb dX12_count_1 (by decide) ?_
  refine fx_putT C hH (k := 0) h_mo ff_X12_54_11 fL_11 fT_11_0 rfl rfl (Nat.le_of_ble_eq_true rfl) dX12_count_2 (fun H locs hH => ?_)
  have hH : fx_H G base s (fx_up f mo (oO 11 [.int (nI 0), .int sa, .ref la, .ref ma, .ref it, .ref rl, .ref fr, .ref li, .ref wa, .ref ld, .int (nI ac), .ref tp, .int (nI tn), .int cu, .int sr, .int tk, .int va, .int ft, .int fA, .int lt, .ref so, .ref ik, .ref kp, .ref kl, .ref tc, .int tt])) sz H locs := hH
  have h1_la : (fx_up f mo (oO 11 [.int (nI 0), .int sa, .ref la, .ref ma, .ref it, .ref rl, .ref fr, .ref li, .ref wa, .ref ld, .int (nI ac), .ref tp, .int (nI tn), .int cu, .int sr, .int tk, .int va, .int ft, .int fA, .int lt, .ref so, .ref ik, .ref kp, .ref kl, .ref tc, .int tt])) la = some (oI 8 gla) := (fx_up_n _ _ (fx_ne h_la h_mo rfl)).trans h_la
  have h1_rl : (fx_up f mo (oO 11 [.int (nI 0), .int sa, .ref la, .ref ma, .ref it, .ref rl, .ref fr, .ref li, .ref wa, .ref ld, .int (nI ac), .ref tp, .int (nI tn), .int cu, .int sr, .int tk, .int va, .int ft, .int fA, .int lt, .ref so, .ref ik, .ref kp, .ref kl, .ref tc, .int tt])) rl = some (oI 48 rho) := (fx_up_n _ _ (fx_ne h_rl h_mo rfl)).trans h_rl
  have h1_mo : (fx_up f mo (oO 11 [.int (nI 0), .int sa, .ref la, .ref ma, .ref it, .ref rl, .ref fr, .ref li, .ref wa, .ref ld, .int (nI ac), .ref tp, .int (nI tn), .int cu, .int sr, .int tk, .int va, .int ft, .int fA, .int lt, .ref so, .ref ik, .ref kp, .ref kl, .ref tc, .int tt])) mo = some (oO 11 [.int (nI 0), .int sa, .ref la, .ref ma, .ref it, .ref rl, .ref fr, .ref li, .ref wa, .ref ld, .int (nI ac), .ref tp, .int (nI tn), .int cu, .int sr, .int tk, .int va, .int ft, .int fA, .int lt, .ref so, .ref ik, .ref kp, .ref kl, .ref tc, .int tt]) := fx_up_s _ _ _
  refine lv_iconst (v := nI 0) hx hb dX12_count_5 (by decide) ?_
  refine lv_istore_n (lv' := [(2, .int (nI 0)), (0, .ref mo), (1, .int wh)]) hx hb dX12_count_6 rfl hl (by decide) rfl (fun ls hl => ?_)
  refine lv_iload_n hx hb dX12_count_7 rfl (lv_at hl 2 rfl) ?_
  by_cases s8_0 : wh = nI 0
  · refine fx_ti (y := nI 0) s8_0 ?_
    refine lv_tableIn (off := 40) (tgt := 48) hx hb dX12_count_8 (by decide) (by decide) (by decide) (by decide) ?_
    refine lv_iconst (v := nI 0) hx hb dX12_count_48 (by decide) ?_
    refine lv_istore_n (lv' := [(3, .int (nI 0)), (2, .int (nI 0)), (0, .ref mo), (1, .int wh)]) hx hb dX12_count_49 rfl hl (by decide) rfl (fun ls hl => ?_)
    have loop_50 : ∀ (N_50 : Nat) (i1 : Nat) (hi1 : i1 ≤ 8) (hm_50 : 8 - i1 < N_50) (H : Heap) (locs : List Loc) (hH : fx_H G base s (fx_up f mo (oO 11 [.int (nI 0), .int sa, .ref la, .ref ma, .ref it, .ref rl, .ref fr, .ref li, .ref wa, .ref ld, .int (nI ac), .ref tp, .int (nI tn), .int cu, .int sr, .int tk, .int va, .int ft, .int fA, .int lt, .ref so, .ref ik, .ref kp, .ref kl, .ref tc, .int tt])) sz H locs) (ls : Array Slot) (hl : lv_has ls 4 [(0, .ref mo), (1, .int wh), (2, .int (nI (cnL gla i1))), (3, .int (nI i1))]), W p l e rm_X12_count s m args below meth c H locs 0 0 (MQ below (fx_QP G base Po) args s rm_X12_count.cells rm_X12_count.slots (fun q => base ≤ q)) (F0 m 50 ls []) := by
      intro N_50
      induction N_50 with
      | zero => intro i1 hi1 hm_50; exact absurd hm_50 (Nat.not_lt_zero _)
      | succ N_50 ih_50 =>
        intro i1 hi1 hm_50 H locs hH ls hl
        refine lv_iload_n hx hb dX12_count_50 rfl (lv_at hl 3 rfl) ?_
        refine lv_bipush (v := nI 8) hx hb dX12_count_51 (by decide) ?_
        refine fx_N_ge (a := i1) (b := 8) hx hb (by omega) (by omega) (tgt := 79) dX12_count_53 (by decide) (fun c53 => ?_) (fun c53 => ?_)
        · refine lv_iload_n hx hb dX12_count_79 rfl (lv_at hl 2 rfl) ?_
          exact fx_iretP C hr hk hH (K1 s8_0 i1 hi1 c53) (Nat.zero_le _) (Nat.zero_le _) dX12_count_80
        · refine lv_iload_n hx hb dX12_count_56 rfl (lv_at hl 2 rfl) ?_
          refine lv_aload_n hx hb dX12_count_57 rfl (lv_at hl 0 rfl) ?_
          refine fx_get C hH (k := 2) (v := .ref la) h1_mo ff_X12_7_11 rfl dX12_count_58 ?_
          refine lv_iload_n hx hb dX12_count_61 rfl (lv_at hl 3 rfl) ?_
          refine fx_ialdN C hH h1_la (by omega) (by omega) dX12_count_62 ?_
          refine lv_if_lt hx hb (tgt := 70) dX12_count_63 (by decide) (fun c63 => ?_) (fun c63 => ?_)
          · refine lv_iconst (v := nI 0) hx hb dX12_count_70 (by decide) ?_
            refine lv_iadd hx hb dX12_count_71 ?_
            refine fx_ti (y := nI (cnL gla i1 + 0)) (nI_add _ _) ?_
            refine lv_istore_n (lv' := [(2, .int (nI (cnL gla i1 + 0))), (0, .ref mo), (1, .int wh), (3, .int (nI i1))]) hx hb dX12_count_72 rfl hl (by decide) rfl (fun ls hl => ?_)
            refine lv_iinc (v := nI (i1 + 1)) (lv' := [(3, .int (nI (i1 + 1))), (2, .int (nI (cnL gla i1 + 0))), (0, .ref mo), (1, .int wh)]) hx hb dX12_count_73 hl (k := 3) rfl (nI_1 _) (by decide) rfl (fun ls hl => ?_)
            refine lv_goto (tgt := 50) hx hb dX12_count_76 (by decide) ?_
            have hl : lv_has ls 4 [(0, .ref mo), (1, .int wh), (2, .int (nI (cnL gla i1 + 0))), (3, .int (nI (i1 + 1)))] := lv_sub hl [2, 3, 1, 0] rfl
            have hl : lv_has ls 4 [(0, .ref mo), (1, .int wh), (2, .int (nI (cnL gla (i1 + 1)))), (3, .int (nI (i1 + 1)))] := by
              have e_ : cnL gla (i1 + 1) = cnL gla i1 + 0 := by rw [cnL, if_neg (by rw [fa_le]; rw [fa_lt] at c63; omega)]; rfl
              rw [e_]
              exact hl
            exact ih_50 (i1 + 1) (by omega) (by omega) _ _ hH _ hl
          · refine lv_iconst (v := nI 1) hx hb dX12_count_66 (by decide) ?_
            refine lv_goto (tgt := 71) hx hb dX12_count_67 (by decide) ?_
            refine lv_iadd hx hb dX12_count_71 ?_
            refine fx_ti (y := nI (cnL gla i1 + 1)) (nI_add _ _) ?_
            refine lv_istore_n (lv' := [(2, .int (nI (cnL gla i1 + 1))), (0, .ref mo), (1, .int wh), (3, .int (nI i1))]) hx hb dX12_count_72 rfl hl (by decide) rfl (fun ls hl => ?_)
            refine lv_iinc (v := nI (i1 + 1)) (lv' := [(3, .int (nI (i1 + 1))), (2, .int (nI (cnL gla i1 + 1))), (0, .ref mo), (1, .int wh)]) hx hb dX12_count_73 hl (k := 3) rfl (nI_1 _) (by decide) rfl (fun ls hl => ?_)
            refine lv_goto (tgt := 50) hx hb dX12_count_76 (by decide) ?_
            have hl : lv_has ls 4 [(0, .ref mo), (1, .int wh), (2, .int (nI (cnL gla i1 + 1))), (3, .int (nI (i1 + 1)))] := lv_sub hl [2, 3, 1, 0] rfl
            have hl : lv_has ls 4 [(0, .ref mo), (1, .int wh), (2, .int (nI (cnL gla (i1 + 1)))), (3, .int (nI (i1 + 1)))] := by
              have e_ : cnL gla (i1 + 1) = cnL gla i1 + 1 := by rw [cnL, if_pos (by rw [fa_le]; rw [fa_lt] at c63; omega)]
              rw [e_]
              exact hl
            exact ih_50 (i1 + 1) (by omega) (by omega) _ _ hH _ hl
    have hl : lv_has ls 4 [(0, .ref mo), (1, .int wh), (2, .int (nI 0)), (3, .int (nI 0))] := lv_sub hl [2, 3, 1, 0] rfl
    have hl : lv_has ls 4 [(0, .ref mo), (1, .int wh), (2, .int (nI (cnL gla 0))), (3, .int (nI 0))] := hl
    exact loop_50 _ 0 (by omega) (Nat.lt_succ_self _) _ _ hH _ hl
  by_cases s8_1 : wh = nI 1
  · refine fx_ti (y := nI 1) s8_1 ?_
    refine lv_tableIn (off := 73) (tgt := 81) hx hb dX12_count_8 (by decide) (by decide) (by decide) (by decide) ?_
    refine lv_aload_n hx hb dX12_count_81 rfl (lv_at hl 1 rfl) ?_
    refine fx_get C hH (k := 5) (v := .ref rl) h1_mo ff_X12_19_11 rfl dX12_count_82 ?_
    refine lv_iconst (v := nI 0) hx hb dX12_count_85 (by decide) ?_
    refine fx_ialdN C hH h1_rl (by omega) (by omega) dX12_count_86 ?_
    exact fx_iretP C hr hk hH (K2 s8_1) (Nat.zero_le _) (Nat.zero_le _) dX12_count_87
  by_cases s8_2 : wh = nI 2
  · refine fx_ti (y := nI 2) s8_2 ?_
    refine lv_tableIn (off := 80) (tgt := 88) hx hb dX12_count_8 (by decide) (by decide) (by decide) (by decide) ?_
    refine lv_aload_n hx hb dX12_count_88 rfl (lv_at hl 1 rfl) ?_
    refine fx_get C hH (k := 5) (v := .ref rl) h1_mo ff_X12_19_11 rfl dX12_count_89 ?_
    refine lv_iconst (v := nI 4) hx hb dX12_count_92 (by decide) ?_
    refine fx_ialdN C hH h1_rl (by omega) (by omega) dX12_count_93 ?_
    exact fx_iretP C hr hk hH (K3 s8_2) (Nat.zero_le _) (Nat.zero_le _) dX12_count_94
  by_cases s8_3 : wh = nI 3
  · refine fx_ti (y := nI 3) s8_3 ?_
    refine lv_tableIn (off := 87) (tgt := 95) hx hb dX12_count_8 (by decide) (by decide) (by decide) (by decide) ?_
    refine lv_aload_n hx hb dX12_count_95 rfl (lv_at hl 1 rfl) ?_
    refine fx_get C hH (k := 5) (v := .ref rl) h1_mo ff_X12_19_11 rfl dX12_count_96 ?_
    refine lv_iconst (v := nI 5) hx hb dX12_count_99 (by decide) ?_
    refine fx_ialdN C hH h1_rl (by omega) (by omega) dX12_count_100 ?_
    exact fx_iretP C hr hk hH (K4 s8_3) (Nat.zero_le _) (Nat.zero_le _) dX12_count_101
  by_cases s8_4 : wh = nI 4
  · refine fx_ti (y := nI 4) s8_4 ?_
    refine lv_tableIn (off := 94) (tgt := 102) hx hb dX12_count_8 (by decide) (by decide) (by decide) (by decide) ?_
    refine lv_aload_n hx hb dX12_count_102 rfl (lv_at hl 1 rfl) ?_
    refine fx_get C hH (k := 10) (v := .int (nI ac)) h1_mo ff_X12_156_11 rfl dX12_count_103 ?_
    exact fx_iretP C hr hk hH (K5 s8_4) (Nat.zero_le _) (Nat.zero_le _) dX12_count_106
  by_cases s8_5 : wh = nI 5
  · refine fx_ti (y := nI 5) s8_5 ?_
    refine lv_tableIn (off := 99) (tgt := 107) hx hb dX12_count_8 (by decide) (by decide) (by decide) (by decide) ?_
    refine lv_aload_n hx hb dX12_count_107 rfl (lv_at hl 1 rfl) ?_
    refine fx_get C hH (k := 12) (v := .int (nI tn)) h1_mo ff_X12_81_11 rfl dX12_count_108 ?_
    exact fx_iretP C hr hk hH (K6 s8_5) (Nat.zero_le _) (Nat.zero_le _) dX12_count_111
  refine lv_tableOut (tgt := 112) hx hb dX12_count_8 (fx_out6 s8_0 s8_1 s8_2 s8_3 s8_4 s8_5) (by decide) ?_
  refine lv_ldc (v := (-1000001)) hx hb C.2.2.2.1 (C.2.2.2.2.1 _ kI_X12_74 rfl args) dX12_count_112 ?_
  exact fx_iretP C hr hk hH (K7 s8_0 s8_1 s8_2 s8_3 s8_4 s8_5) (Nat.zero_le _) (Nat.zero_le _) dX12_count_114
abbrev rm_X12_nail : Room := { frames := 1, cells := 0, slots := 0, locals := 25 }
set_option maxHeartbeats 4000000 in
set_option maxRecDepth 100000 in
theorem c_X12_nail {G : GG} {base : Nat} {l : Launch} {f : Hp} {sz : Nat} {Po : Option Value → Hp → Nat → Prop} {P : Nat} {mo : Nat} {wh : Int32} {th : Int32} {sa : Int32} {la : Nat} {ma : Nat} {it : Nat} {rl : Nat} {fr : Nat} {li : Nat} {wa : Nat} {ld : Nat} {ac : Int32} {tp : Nat} {tn : Int32} {cu : Int32} {sr : Int32} {tk : Int32} {va : Int32} {ft : Int32} {fA : Int32} {lt : Int32} {so : Nat} {ik : Nat} {kp : Nat} {kl : Nat} {tc : Nat} {tt : Int32} {rho : Nat → Int32} (h_mo : f mo = some (oO 11 [.int th, .int sa, .ref la, .ref ma, .ref it, .ref rl, .ref fr, .ref li, .ref wa, .ref ld, .int ac, .ref tp, .int tn, .int cu, .int sr, .int tk, .int va, .int ft, .int fA, .int lt, .ref so, .ref ik, .ref kp, .ref kl, .ref tc, .int tt])) (h_rl : f rl = some (oI 48 rho)) (hP : rho 0 = nI P) (hP2 : P ≤ 12) (K1 : ∀ (c9 : (0 < P)), ∀ (c26 : ¬ (¬ wh < nI 0 ∧ ¬ nI 5 < wh)), Po (some (.int (-1000001))) (fx_up f mo (oO 11 [.int (nI 0), .int sa, .ref la, .ref ma, .ref it, .ref rl, .ref fr, .ref li, .ref wa, .ref ld, .int ac, .ref tp, .int tn, .int cu, .int sr, .int tk, .int va, .int ft, .int fA, .int lt, .ref so, .ref ik, .ref kp, .ref kl, .ref tc, .int tt])) sz)
    (K2 : ∀ (c9 : (0 < P)), ∀ (c26 : (¬ wh < nI 0 ∧ ¬ nI 5 < wh)), ∀ (wz : Nat), ∀ (hwz : wz ≤ 5), ∀ (ewz : wh = nI wz), Po (some (.int (rho (6 + wz)))) (fx_up f mo (oO 11 [.int (nI 0), .int sa, .ref la, .ref ma, .ref it, .ref rl, .ref fr, .ref li, .ref wa, .ref ld, .int ac, .ref tp, .int tn, .int cu, .int sr, .int tk, .int va, .int ft, .int fA, .int lt, .ref so, .ref ik, .ref kp, .ref kl, .ref tc, .int tt])) sz)
    (K3 : ∀ (c9 : ¬ (0 < P)), Po (some (.int (-1000002))) (fx_up f mo (oO 11 [.int (nI 0), .int sa, .ref la, .ref ma, .ref it, .ref rl, .ref fr, .ref li, .ref wa, .ref ld, .int ac, .ref tp, .int tn, .int cu, .int sr, .int tk, .int va, .int ft, .int fA, .int lt, .ref so, .ref ik, .ref kp, .ref kl, .ref tc, .int tt])) sz) : fx_MP G base l yX12_nail cX12_nail 2 (some .int) rm_X12_nail [.ref mo, .int wh] f sz Po := by
  refine fx_ofP (by decide +kernel) (Nat.le_of_ble_eq_true rfl) ?_
  intro p e s m args below meth c C hr hk hnm hH ls hl
  obtain ⟨locs, hlocs⟩ : ∃ L : List Loc, L = [] := ⟨_, rfl⟩
  rw [← hlocs] at hH ⊢
  generalize s.heap = H at hH ⊢
  have hx := C.1
  have hb := C.2.1
  have hl : lv_has ls 2 [(0, .ref mo), (1, .int wh)] := hl
  refine lv_aload_n hx hb dX12_nail_0 rfl (lv_at hl 0 rfl) ?_
  refine lv_iconst (v := nI 0) hx hb dX12_nail_1 (by decide) ?_
  refine fx_putT C hH (k := 0) h_mo ff_X12_54_11 fL_11 fT_11_0 rfl rfl (Nat.le_of_ble_eq_true rfl) dX12_nail_2 (fun H locs hH => ?_)
  have hH : fx_H G base s (fx_up f mo (oO 11 [.int (nI 0), .int sa, .ref la, .ref ma, .ref it, .ref rl, .ref fr, .ref li, .ref wa, .ref ld, .int ac, .ref tp, .int tn, .int cu, .int sr, .int tk, .int va, .int ft, .int fA, .int lt, .ref so, .ref ik, .ref kp, .ref kl, .ref tc, .int tt])) sz H locs := hH
  have h1_rl : (fx_up f mo (oO 11 [.int (nI 0), .int sa, .ref la, .ref ma, .ref it, .ref rl, .ref fr, .ref li, .ref wa, .ref ld, .int ac, .ref tp, .int tn, .int cu, .int sr, .int tk, .int va, .int ft, .int fA, .int lt, .ref so, .ref ik, .ref kp, .ref kl, .ref tc, .int tt])) rl = some (oI 48 rho) := (fx_up_n _ _ (fx_ne h_rl h_mo rfl)).trans h_rl
  have h1_mo : (fx_up f mo (oO 11 [.int (nI 0), .int sa, .ref la, .ref ma, .ref it, .ref rl, .ref fr, .ref li, .ref wa, .ref ld, .int ac, .ref tp, .int tn, .int cu, .int sr, .int tk, .int va, .int ft, .int fA, .int lt, .ref so, .ref ik, .ref kp, .ref kl, .ref tc, .int tt])) mo = some (oO 11 [.int (nI 0), .int sa, .ref la, .ref ma, .ref it, .ref rl, .ref fr, .ref li, .ref wa, .ref ld, .int ac, .ref tp, .int tn, .int cu, .int sr, .int tk, .int va, .int ft, .int fA, .int lt, .ref so, .ref ik, .ref kp, .ref kl, .ref tc, .int tt]) := fx_up_s _ _ _
  refine lv_aload_n hx hb dX12_nail_5 rfl (lv_at hl 0 rfl) ?_
  refine fx_go1 hH (fx_runV C hH hl.1 (As := []) (rest := []) (c_X12_isThere (G := G) (base := base) (l := l) (f := fx_up f mo (oO 11 [.int (nI 0), .int sa, .ref la, .ref ma, .ref it, .ref rl, .ref fr, .ref li, .ref wa, .ref ld, .int ac, .ref tp, .int tn, .int cu, .int sr, .int tk, .int va, .int ft, .int fA, .int lt, .ref so, .ref ik, .ref kp, .ref kl, .ref tc, .int tt])) (sz := sz) (P := P) (mo := mo) (th := nI 0) (sa := sa) (la := la) (ma := ma) (it := it) (rl := rl) (fr := fr) (li := li) (wa := wa) (ld := ld) (ac := ac) (tp := tp) (tn := tn) (cu := cu) (sr := sr) (tk := tk) (va := va) (ft := ft) (fA := fA) (lt := lt) (so := so) (ik := ik) (kp := kp) (kl := kl) (tc := tc) (tt := tt) (rho := rho) h1_mo h1_rl hP (by omega)) mY_X12_isThere ml_X12_176 im_X12_isThere se_X12_X12_isThere h1_mo rfl rfl ⟨(Nat.le_of_ble_eq_true rfl), (Nat.le_of_ble_eq_true rfl)⟩ rfl (Nat.le_of_ble_eq_true rfl) ⟨(Nat.le_of_ble_eq_true rfl), (Nat.le_of_ble_eq_true rfl)⟩ dX12_nail_6) (fun H locs hH => ?_)
  refine fx_b_ne hx hb (tgt := 17) dX12_nail_9 (by decide) (fun c9 => ?_) (fun c9 => ?_)
  · refine lv_iload_n hx hb dX12_nail_17 rfl (lv_at hl 1 rfl) ?_
    refine lv_i2l (v := wh.toInt64) hx hb dX12_nail_18 rfl ?_
    refine lv_lconst (v := lN 0) hx hb dX12_nail_19 (by decide) ?_
    refine lv_ldc2 (v := (5)) hx hb C.2.2.2.1 (C.2.2.2.2.1 _ kL_X12_197 rfl args) dX12_nail_20 ?_
    refine fx_tl (y := lN 5) (by decide) ?_
    refine fx_go1 hH (fx_runS C hH hl.1 (As := [.long wh.toInt64, .long (lN 0), .long (lN 5)]) (rest := []) (c_X12_in_i (G := G) (base := base) (l := l) (f := fx_up f mo (oO 11 [.int (nI 0), .int sa, .ref la, .ref ma, .ref it, .ref rl, .ref fr, .ref li, .ref wa, .ref ld, .int ac, .ref tp, .int tn, .int cu, .int sr, .int tk, .int va, .int ft, .int fA, .int lt, .ref so, .ref ik, .ref kp, .ref kl, .ref tc, .int tt])) (sz := sz) (x := wh) (lo := 0) (hi := 5) (by omega) (by omega)) mY_X12_in ml_X12_64 st_X12_in rfl ⟨(Nat.le_of_ble_eq_true rfl), (Nat.le_of_ble_eq_true rfl)⟩ rfl (Nat.le_of_ble_eq_true rfl) ⟨(Nat.le_of_ble_eq_true rfl), (Nat.le_of_ble_eq_true rfl)⟩ dX12_nail_23) (fun H locs hH => ?_)
    refine fx_b_eq hx hb (tgt := 41) dX12_nail_26 (by decide) (fun c26 => ?_) (fun c26 => ?_)
    · refine lv_ldc (v := (-1000001)) hx hb C.2.2.2.1 (C.2.2.2.2.1 _ kI_X12_74 rfl args) dX12_nail_41 ?_
      exact fx_iretP C hr hk hH (K1 c9 c26) (Nat.zero_le _) (Nat.zero_le _) dX12_nail_43
    · obtain ⟨wz, hwz, rfl⟩ := rng (N := 5) (by omega) c26.1 c26.2
      · skip
        refine lv_aload_n hx hb dX12_nail_29 rfl (lv_at hl 0 rfl) ?_
        refine fx_get C hH (k := 5) (v := .ref rl) h1_mo ff_X12_19_11 rfl dX12_nail_30 ?_
        refine lv_bipush (v := nI 6) hx hb dX12_nail_33 (by decide) ?_
        refine lv_iload_n hx hb dX12_nail_35 rfl (lv_at hl 1 rfl) ?_
        refine lv_iadd hx hb dX12_nail_36 ?_
        refine fx_ti (y := nI (6 + wz)) (nI_add _ _) ?_
        refine fx_ialdN C hH h1_rl (by omega) (by omega) dX12_nail_37 ?_
        refine lv_goto (tgt := 43) hx hb dX12_nail_38 (by decide) ?_
        exact fx_iretP C hr hk hH (K2 c9 c26 wz hwz rfl) (Nat.zero_le _) (Nat.zero_le _) dX12_nail_43
  · refine lv_ldc (v := (-1000002)) hx hb C.2.2.2.1 (C.2.2.2.2.1 _ kI_X12_172 rfl args) dX12_nail_12 ?_
    refine lv_goto (tgt := 43) hx hb dX12_nail_14 (by decide) ?_
    exact fx_iretP C hr hk hH (K3 c9) (Nat.zero_le _) (Nat.zero_le _) dX12_nail_43
abbrev rm_X12_place : Room := { frames := 2, cells := 0, slots := 0, locals := 46 }
set_option maxHeartbeats 4000000 in
set_option maxRecDepth 100000 in
theorem c_X12_place {G : GG} {base : Nat} {l : Launch} {f : Hp} {sz : Nat} {Po : Option Value → Hp → Nat → Prop} {P : Nat} {mo : Nat} {pp : Int32} {wh : Int32} {th : Int32} {sa : Int32} {la : Nat} {ma : Nat} {it : Nat} {rl : Nat} {fr : Nat} {li : Nat} {wa : Nat} {ld : Nat} {ac : Int32} {tp : Nat} {tn : Int32} {cu : Int32} {sr : Int32} {tk : Int32} {va : Int32} {ft : Int32} {fA : Int32} {lt : Int32} {so : Nat} {ik : Nat} {kp : Nat} {kl : Nat} {tc : Nat} {tt : Int32} {rho : Nat → Int32} (h_mo : f mo = some (oO 11 [.int th, .int sa, .ref la, .ref ma, .ref it, .ref rl, .ref fr, .ref li, .ref wa, .ref ld, .int ac, .ref tp, .int tn, .int cu, .int sr, .int tk, .int va, .int ft, .int fA, .int lt, .ref so, .ref ik, .ref kp, .ref kl, .ref tc, .int tt])) (h_rl : f rl = some (oI 48 rho)) (hP : rho 0 = nI P) (hP2 : P ≤ 12) (K1 : ∀ (c10 : ¬ (¬ pp < nI 0 ∧ ¬ (nI P - nI 1) < pp)), Po (some (.int (-1000001))) (fx_up f mo (oO 11 [.int (nI 0), .int sa, .ref la, .ref ma, .ref it, .ref rl, .ref fr, .ref li, .ref wa, .ref ld, .int ac, .ref tp, .int tn, .int cu, .int sr, .int tk, .int va, .int ft, .int fA, .int lt, .ref so, .ref ik, .ref kp, .ref kl, .ref tc, .int tt])) sz)
    (K2 : ∀ (c10 : (¬ pp < nI 0 ∧ ¬ (nI P - nI 1) < pp)), ∀ (c20 : ¬ (¬ wh < nI 0 ∧ ¬ nI 1 < wh)), Po (some (.int (-1000001))) (fx_up f mo (oO 11 [.int (nI 0), .int sa, .ref la, .ref ma, .ref it, .ref rl, .ref fr, .ref li, .ref wa, .ref ld, .int ac, .ref tp, .int tn, .int cu, .int sr, .int tk, .int va, .int ft, .int fA, .int lt, .ref so, .ref ik, .ref kp, .ref kl, .ref tc, .int tt])) sz)
    (K3 : ∀ (c10 : (¬ pp < nI 0 ∧ ¬ (nI P - nI 1) < pp)), ∀ (c20 : (¬ wh < nI 0 ∧ ¬ nI 1 < wh)), ∀ (px : Nat), ∀ (hpx : px < P), ∀ (hpe : pp = nI px), ∀ (wz : Nat), ∀ (hwz : wz ≤ 1), ∀ (ewz : wh = nI wz), Po (some (.int (rho (12 + (12 * wz) + px)))) (fx_up f mo (oO 11 [.int (nI 0), .int sa, .ref la, .ref ma, .ref it, .ref rl, .ref fr, .ref li, .ref wa, .ref ld, .int ac, .ref tp, .int tn, .int cu, .int sr, .int tk, .int va, .int ft, .int fA, .int lt, .ref so, .ref ik, .ref kp, .ref kl, .ref tc, .int tt])) sz) : fx_MP G base l yX12_place cX12_place 3 (some .int) rm_X12_place [.ref mo, .int pp, .int wh] f sz Po := by
  refine fx_ofP (by decide +kernel) (Nat.le_of_ble_eq_true rfl) ?_
  intro p e s m args below meth c C hr hk hnm hH ls hl
  obtain ⟨locs, hlocs⟩ : ∃ L : List Loc, L = [] := ⟨_, rfl⟩
  rw [← hlocs] at hH ⊢
  generalize s.heap = H at hH ⊢
  have hx := C.1
  have hb := C.2.1
  have hl : lv_has ls 3 [(0, .ref mo), (1, .int pp), (2, .int wh)] := hl
  refine lv_aload_n hx hb dX12_place_0 rfl (lv_at hl 0 rfl) ?_
  refine lv_iconst (v := nI 0) hx hb dX12_place_1 (by decide) ?_
  refine fx_putT C hH (k := 0) h_mo ff_X12_54_11 fL_11 fT_11_0 rfl rfl (Nat.le_of_ble_eq_true rfl) dX12_place_2 (fun H locs hH => ?_)
  have hH : fx_H G base s (fx_up f mo (oO 11 [.int (nI 0), .int sa, .ref la, .ref ma, .ref it, .ref rl, .ref fr, .ref li, .ref wa, .ref ld, .int ac, .ref tp, .int tn, .int cu, .int sr, .int tk, .int va, .int ft, .int fA, .int lt, .ref so, .ref ik, .ref kp, .ref kl, .ref tc, .int tt])) sz H locs := hH
  have h1_rl : (fx_up f mo (oO 11 [.int (nI 0), .int sa, .ref la, .ref ma, .ref it, .ref rl, .ref fr, .ref li, .ref wa, .ref ld, .int ac, .ref tp, .int tn, .int cu, .int sr, .int tk, .int va, .int ft, .int fA, .int lt, .ref so, .ref ik, .ref kp, .ref kl, .ref tc, .int tt])) rl = some (oI 48 rho) := (fx_up_n _ _ (fx_ne h_rl h_mo rfl)).trans h_rl
  have h1_mo : (fx_up f mo (oO 11 [.int (nI 0), .int sa, .ref la, .ref ma, .ref it, .ref rl, .ref fr, .ref li, .ref wa, .ref ld, .int ac, .ref tp, .int tn, .int cu, .int sr, .int tk, .int va, .int ft, .int fA, .int lt, .ref so, .ref ik, .ref kp, .ref kl, .ref tc, .int tt])) mo = some (oO 11 [.int (nI 0), .int sa, .ref la, .ref ma, .ref it, .ref rl, .ref fr, .ref li, .ref wa, .ref ld, .int ac, .ref tp, .int tn, .int cu, .int sr, .int tk, .int va, .int ft, .int fA, .int lt, .ref so, .ref ik, .ref kp, .ref kl, .ref tc, .int tt]) := fx_up_s _ _ _
  refine lv_aload_n hx hb dX12_place_5 rfl (lv_at hl 0 rfl) ?_
  refine lv_iload_n hx hb dX12_place_6 rfl (lv_at hl 1 rfl) ?_
  refine fx_go1 hH (fx_runV C hH hl.1 (As := [.int pp]) (rest := []) (c_X12_isPlace (G := G) (base := base) (l := l) (f := fx_up f mo (oO 11 [.int (nI 0), .int sa, .ref la, .ref ma, .ref it, .ref rl, .ref fr, .ref li, .ref wa, .ref ld, .int ac, .ref tp, .int tn, .int cu, .int sr, .int tk, .int va, .int ft, .int fA, .int lt, .ref so, .ref ik, .ref kp, .ref kl, .ref tc, .int tt])) (sz := sz) (P := P) (mo := mo) (pp := pp) (th := nI 0) (sa := sa) (la := la) (ma := ma) (it := it) (rl := rl) (fr := fr) (li := li) (wa := wa) (ld := ld) (ac := ac) (tp := tp) (tn := tn) (cu := cu) (sr := sr) (tk := tk) (va := va) (ft := ft) (fA := fA) (lt := lt) (so := so) (ik := ik) (kp := kp) (kl := kl) (tc := tc) (tt := tt) (rho := rho) h1_mo h1_rl hP) mY_X12_isPlace ml_X12_194 im_X12_isPlace se_X12_X12_isPlace h1_mo rfl rfl ⟨(Nat.le_of_ble_eq_true rfl), (Nat.le_of_ble_eq_true rfl)⟩ rfl (Nat.le_of_ble_eq_true rfl) ⟨(Nat.le_of_ble_eq_true rfl), (Nat.le_of_ble_eq_true rfl)⟩ dX12_place_7) (fun H locs hH => ?_)
  refine fx_b_eq hx hb (tgt := 40) dX12_place_10 (by decide) (fun c10 => ?_) (fun c10 => ?_)
  · refine lv_ldc (v := (-1000001)) hx hb C.2.2.2.1 (C.2.2.2.2.1 _ kI_X12_74 rfl args) dX12_place_40 ?_
    exact fx_iretP C hr hk hH (K1 c10) (Nat.zero_le _) (Nat.zero_le _) dX12_place_42
  · refine lv_iload_n hx hb dX12_place_13 rfl (lv_at hl 2 rfl) ?_
    refine lv_i2l (v := wh.toInt64) hx hb dX12_place_14 rfl ?_
    refine lv_lconst (v := lN 0) hx hb dX12_place_15 (by decide) ?_
    refine lv_lconst (v := lN 1) hx hb dX12_place_16 (by decide) ?_
    refine fx_go1 hH (fx_runS C hH hl.1 (As := [.long wh.toInt64, .long (lN 0), .long (lN 1)]) (rest := []) (c_X12_in_i (G := G) (base := base) (l := l) (f := fx_up f mo (oO 11 [.int (nI 0), .int sa, .ref la, .ref ma, .ref it, .ref rl, .ref fr, .ref li, .ref wa, .ref ld, .int ac, .ref tp, .int tn, .int cu, .int sr, .int tk, .int va, .int ft, .int fA, .int lt, .ref so, .ref ik, .ref kp, .ref kl, .ref tc, .int tt])) (sz := sz) (x := wh) (lo := 0) (hi := 1) (by omega) (by omega)) mY_X12_in ml_X12_64 st_X12_in rfl ⟨(Nat.le_of_ble_eq_true rfl), (Nat.le_of_ble_eq_true rfl)⟩ rfl (Nat.le_of_ble_eq_true rfl) ⟨(Nat.le_of_ble_eq_true rfl), (Nat.le_of_ble_eq_true rfl)⟩ dX12_place_17) (fun H locs hH => ?_)
    refine fx_b_eq hx hb (tgt := 40) dX12_place_20 (by decide) (fun c20 => ?_) (fun c20 => ?_)
    · refine lv_ldc (v := (-1000001)) hx hb C.2.2.2.1 (C.2.2.2.2.1 _ kI_X12_74 rfl args) dX12_place_40 ?_
      exact fx_iretP C hr hk hH (K2 c10 c20) (Nat.zero_le _) (Nat.zero_le _) dX12_place_42
    · obtain ⟨px, hpx, rfl⟩ := rngS (by omega) c10
      obtain ⟨wz, hwz, rfl⟩ := rng (N := 1) (by omega) c20.1 c20.2
      · skip
        refine lv_aload_n hx hb dX12_place_23 rfl (lv_at hl 0 rfl) ?_
        refine fx_get C hH (k := 5) (v := .ref rl) h1_mo ff_X12_19_11 rfl dX12_place_24 ?_
        refine lv_bipush (v := nI 12) hx hb dX12_place_27 (by decide) ?_
        refine lv_bipush (v := nI 12) hx hb dX12_place_29 (by decide) ?_
        refine lv_iload_n hx hb dX12_place_31 rfl (lv_at hl 2 rfl) ?_
        refine lv_imul hx hb dX12_place_32 ?_
        refine fx_ti (y := nI (12 * wz)) (pk_mul _ _) ?_
        refine lv_iadd hx hb dX12_place_33 ?_
        refine fx_ti (y := nI (12 + (12 * wz))) (nI_add _ _) ?_
        refine lv_iload_n hx hb dX12_place_34 rfl (lv_at hl 1 rfl) ?_
        refine lv_iadd hx hb dX12_place_35 ?_
        refine fx_ti (y := nI (12 + (12 * wz) + px)) (nI_add _ _) ?_
        refine fx_ialdN C hH h1_rl (by omega) (by omega) dX12_place_36 ?_
        refine lv_goto (tgt := 42) hx hb dX12_place_37 (by decide) ?_
        exact fx_iretP C hr hk hH (K3 c10 c20 px hpx rfl wz hwz rfl) (Nat.zero_le _) (Nat.zero_le _) dX12_place_42
