/-! ===== splinters ===== -/
def wdN (a b d c : Nat) : Nat := if d = 0 then a - b * c else if a + b * c < 20 then a + b * c else 20
theorem nI_subI {a b : Nat} (ha : a < 2 ^ 30) (hb : b < 2 ^ 30) : (nI a - nI b).toInt = (a : Int) - b := by
  rw [Int32.toInt_sub, nI_toInt (by omega), nI_toInt (by omega), Int.bmod_def]
  omega
theorem wdN_c {a b d c : Nat} (ha : a ≤ 19) (hb : b ≤ 9) (hd : d ≤ 1) (hc : c ≤ 40) : (if nI d = 0 then (if nI 0 < (nI a - nI b * nI c) then (nI a - nI b * nI c) else nI 0) else (if (nI a + nI b * nI c) < nI 20 then (nI a + nI b * nI c) else nI 20)) = nI (wdN a b d c) := by
  have h1 : b * c ≤ 9 * 40 := Nat.mul_le_mul hb hc
  rw [pk_mul, nI_add]
  unfold wdN
  generalize b * c = t at *
  have hd2 : d = 0 ∨ d = 1 := by omega
  rcases hd2 with rfl | rfl
  · simp only [if_pos (show nI 0 = 0 from rfl)]
    rw [if_pos trivial]
    by_cases h : t < a
    · rw [pk_sub (by omega), if_pos ((nI_ltI (by omega) (by omega)).mpr (by omega))]
    · rw [if_neg, show a - t = 0 by omega]
      rw [fa_lt, nI_subI (by omega) (by omega), nI_toInt (by omega)]
      omega
  · simp only [if_neg (show ¬ nI 1 = 0 by decide)]
    rw [if_neg (show ¬ (1 : Nat) = 0 by decide)]
    by_cases h : a + t < 20
    · rw [if_pos ((nI_ltI (by omega) (by omega)).mpr h), if_pos h]
    · rw [if_neg (fun q => h ((nI_ltI (by omega) (by omega)).mp q)), if_neg h]
theorem wdN_m {a b d c : Nat} (ha : a ≤ 19) (hb : b ≤ 9) (hd : d ≤ 1) (hc : c ≤ 40) : (if 0 ≤ (if nI d = 0 then nI a - nI b * nI c else nI a + nI b * nI c) then (if (if nI d = 0 then nI a - nI b * nI c else nI a + nI b * nI c) ≤ nI 20 then (if nI d = 0 then nI a - nI b * nI c else nI a + nI b * nI c) else nI 20) else nI 0) = nI (wdN a b d c) := by
  have h1 : b * c ≤ 9 * 40 := Nat.mul_le_mul hb hc
  rw [pk_mul, nI_add]
  unfold wdN
  generalize b * c = t at *
  have hd2 : d = 0 ∨ d = 1 := by omega
  rcases hd2 with rfl | rfl
  · simp only [if_pos (show nI 0 = 0 from rfl)]
    rw [if_pos trivial]
    by_cases h : t ≤ a
    · rw [pk_sub h, if_pos (by rw [fa_le, nI_toInt (by omega)]; show (0 : Int) ≤ _; omega), if_pos (by rw [fa_le, nI_toInt (by omega), nI_toInt (by omega)]; omega)]
    · rw [if_neg, show a - t = 0 by omega]
      rw [fa_le, nI_subI (by omega) (by omega)]
      show ¬ (0 : Int) ≤ _
      omega
  · simp only [if_neg (show ¬ nI 1 = 0 by decide)]
    rw [if_neg (show ¬ (1 : Nat) = 0 by decide)]
    rw [if_pos (by rw [fa_le, nI_toInt (by omega)]; show (0 : Int) ≤ _; omega)]
    by_cases h : a + t < 20
    · rw [if_pos (by rw [fa_le, nI_toInt (by omega), nI_toInt (by omega)]; omega), if_pos h]
    · rw [if_neg h]
      by_cases h2 : a + t = 20
      · rw [if_pos (by rw [fa_le, nI_toInt (by omega), nI_toInt (by omega)]; omega), h2]
      · rw [if_neg (by rw [fa_le, nI_toInt (by omega), nI_toInt (by omega)]; omega)]
theorem wdN_le {a b d c : Nat} (ha : a ≤ 19) : wdN a b d c ≤ 20 := by
  unfold wdN
  repeat' split
  all_goals omega
theorem wdN_19 {a b d : Nat} (ha : 1 ≤ a) (ha2 : a ≤ 19) (hb : 1 ≤ b) : wdN a b d 19 = 0 ∨ wdN a b d 19 = 20 := by
  have : 1 * 19 ≤ b * 19 := Nat.mul_le_mul_right _ hb
  unfold wdN
  repeat' split
  all_goals omega
def lsN (a b d : Nat) : Nat → Nat
  | 0 => 0
  | i + 1 => lsN a b d i + (20 - wdN a b d i)
theorem spl3 {w s d : Int32} (h : (¬ w < nI 1 ∧ ¬ nI 19 < w) ∧ (¬ s < nI 1 ∧ ¬ nI 9 < s) ∧ (¬ d < nI 0 ∧ ¬ nI 1 < d)) : ∃ a b e, (1 ≤ a ∧ a ≤ 19) ∧ (1 ≤ b ∧ b ≤ 9) ∧ e ≤ 1 ∧ w = nI a ∧ s = nI b ∧ d = nI e := by
  obtain ⟨a, h1, h2, rfl⟩ := rng1 (by omega) (by omega) h.1
  obtain ⟨b, h3, h4, rfl⟩ := rng1 (by omega) (by omega) h.2.1
  obtain ⟨e, h5, h6, rfl⟩ := rng1 (by omega) (by omega) h.2.2
  exact ⟨a, b, e, ⟨h1, h2⟩, ⟨h3, h4⟩, h6, rfl, rfl, rfl⟩
/-- bits of those for whom it is so -/
def whS (p : Nat → Prop) [DecidablePred p] : Nat → Int32
  | 0 => nI 0
  | k + 1 => if p k then whS p k ||| (nI 1 <<< (nI k &&& 31)) else whS p k
theorem wg_c {q q' : Nat → Int64} {pl h e : Nat} : ∀ {n : Nat}, (∀ i, i < 13 → q i = q' i) → ∀ i, i < 13 → wg q pl h e n i = wg q' pl h e n i
  | 0, hq, i, hi => hq i hi
  | n + 1, hq, i, hi => by
    have ih := wg_c (pl := pl) (h := h) (e := e) (n := n) hq
    rw [wg, wg]
    by_cases hin : i = n
    · subst hin; rw [pk_uLs, pk_uLs, ih i hi]
    · rw [pk_uLn hin, pk_uLn hin, ih i hi]
theorem qG_c {q q' : Nat → Int64} {P : Nat} {wy : Int32} {pt cvf : Nat → Nat} {K wi ag : Nat} (hq : ∀ i, i < 13 → q i = q' i) : ∀ (k i : Nat), i < 13 → qG q P wy pt cvf K wi ag k i = qG q' P wy pt cvf K wi ag k i
  | 0, i, hi => hq i hi
  | k + 1, i, hi => wg_c (qG_c hq k) i hi
theorem lb_c {q q' : Nat → Int64} {x : Int32} : ∀ {i : Nat}, (∀ j, j < i → q j = q' j) → lb q x i = lb q' x i
  | 0, _ => rfl
  | i + 1, h => by rw [lb, lb, lb_c (i := i) (fun j hj => h j (by omega)), h i (by omega)]
theorem nxI_c {K : Nat} {q q' : Nat → Int64} {pl : Nat} {wy : Int32} {lf : Nat} {ta : Int32} {P : Nat} (h : ∀ j, j < P → q j = q' j) : nxI K q pl wy lf ta P = nxI K q' pl wy lf ta P := by
  unfold nxI
  rw [lb_c (x := nI pl) h]
theorem cpJ_c {q q2 : Nat → Int64} : ∀ i, i < 13 → cpJ q q2 i = q i := fun i h => if_pos h
/-- the class goes through told places: all are where the seeker would go -/
abbrev gsP (q : Nat → Int64) (P : Nat) (wy : Int32) (pt cvf : Nat → Nat) (K wi ag n : Nat) (ta : Int32) (w : Nat → Int32) : Prop := ∀ z, z < n - 1 → nxI K (qG q P wy pt cvf K wi ag (z + 1)) (pt z) wy 0 ta P = w (z + 1)
theorem pd_le {wn : Nat → Nat} : ∀ {r i x N : Nat}, i + r ≤ N → pd wn r i x ≤ N
  | 0, i, x, N, h => by rw [pd]; omega
  | r + 1, i, x, N, h => by
    rw [pd]
    split
    · omega
    · exact pd_le (by omega)
abbrev rm_X11_lost : Room := { frames := 2, cells := 0, slots := 0, locals := 44 }
set_option maxHeartbeats 4000000 in
set_option maxRecDepth 100000 in
theorem c_X11_lost {G : GG} {base : Nat} {l : Launch} {f : Hp} {sz : Nat} {Po : Option Value → Hp → Nat → Prop} {x : Nat} {w : Int32} {sl : Int32} {sd : Int32}  (K1 : ∀ (c6 : ((¬ w < nI 1 ∧ ¬ nI 19 < w) ∧ (¬ sl < nI 1 ∧ ¬ nI 9 < sl) ∧ (¬ sd < nI 0 ∧ ¬ nI 1 < sd))), ∀ (a_ : Nat), ∀ (b_ : Nat), ∀ (d_ : Nat), ∀ (ha_ : 1 ≤ a_ ∧ a_ ≤ 19), ∀ (hb_ : 1 ≤ b_ ∧ b_ ≤ 9), ∀ (hd_ : d_ ≤ 1), ∀ (ea_ : w = nI a_), ∀ (eb_ : sl = nI b_), ∀ (ed_ : sd = nI d_), ∀ (i1 : Nat), ∀ (hi1 : i1 ≤ 20), ∀ (hall : ∀ z, z < i1 → 0 < wdN a_ b_ d_ z ∧ wdN a_ b_ d_ z < 20), ∀ (c22 : 20 ≤ i1), Po (some (.int (nI (lsN a_ b_ d_ i1)))) f sz)
    (K2 : ∀ (c6 : ((¬ w < nI 1 ∧ ¬ nI 19 < w) ∧ (¬ sl < nI 1 ∧ ¬ nI 9 < sl) ∧ (¬ sd < nI 0 ∧ ¬ nI 1 < sd))), ∀ (a_ : Nat), ∀ (b_ : Nat), ∀ (d_ : Nat), ∀ (ha_ : 1 ≤ a_ ∧ a_ ≤ 19), ∀ (hb_ : 1 ≤ b_ ∧ b_ ≤ 9), ∀ (hd_ : d_ ≤ 1), ∀ (ea_ : w = nI a_), ∀ (eb_ : sl = nI b_), ∀ (ed_ : sd = nI d_), ∀ (i1 : Nat), ∀ (hi1 : i1 ≤ 20), ∀ (hall : ∀ z, z < i1 → 0 < wdN a_ b_ d_ z ∧ wdN a_ b_ d_ z < 20), ∀ (c22 : i1 < 20), ∀ (c37 : (wdN a_ b_ d_ i1) = 0), Po (some (.int (nI (lsN a_ b_ d_ i1)))) f sz)
    (K3 : ∀ (c6 : ((¬ w < nI 1 ∧ ¬ nI 19 < w) ∧ (¬ sl < nI 1 ∧ ¬ nI 9 < sl) ∧ (¬ sd < nI 0 ∧ ¬ nI 1 < sd))), ∀ (a_ : Nat), ∀ (b_ : Nat), ∀ (d_ : Nat), ∀ (ha_ : 1 ≤ a_ ∧ a_ ≤ 19), ∀ (hb_ : 1 ≤ b_ ∧ b_ ≤ 9), ∀ (hd_ : d_ ≤ 1), ∀ (ea_ : w = nI a_), ∀ (eb_ : sl = nI b_), ∀ (ed_ : sd = nI d_), ∀ (i1 : Nat), ∀ (hi1 : i1 ≤ 20), ∀ (hall : ∀ z, z < i1 → 0 < wdN a_ b_ d_ z ∧ wdN a_ b_ d_ z < 20), ∀ (c22 : i1 < 20), ∀ (c37 : 0 < (wdN a_ b_ d_ i1)), ∀ (c44 : 20 ≤ (wdN a_ b_ d_ i1)), Po (some (.int (nI (lsN a_ b_ d_ i1)))) f sz)
    (K4 : ∀ (c6 : ¬ ((¬ w < nI 1 ∧ ¬ nI 19 < w) ∧ (¬ sl < nI 1 ∧ ¬ nI 9 < sl) ∧ (¬ sd < nI 0 ∧ ¬ nI 1 < sd))), Po (some (.int (-1000001))) f sz) : fx_MP G base l yX11_lost cX11_lost 7 (some .int) rm_X11_lost [.ref x, .int w, .int sl, .int sd] f sz Po := by
  refine fx_ofP (by decide +kernel) (Nat.le_of_ble_eq_true rfl) ?_
  intro p e s m args below meth c C hr hk hnm hH ls hl
  obtain ⟨locs, hlocs⟩ : ∃ L : List Loc, L = [] := ⟨_, rfl⟩
  rw [← hlocs] at hH ⊢
  generalize s.heap = H at hH ⊢
  have hx := C.1
  have hb := C.2.1
  have hl : lv_has ls 7 [(0, .ref x), (1, .int w), (2, .int sl), (3, .int sd)] := hl
  refine lv_iload_n hx hb dX11_lost_0 rfl (lv_at hl 1 rfl) ?_
  refine lv_iload_n hx hb dX11_lost_1 rfl (lv_at hl 2 rfl) ?_
  refine lv_iload_n hx hb dX11_lost_2 rfl (lv_at hl 3 rfl) ?_
  refine fx_go1 hH (fx_runS C hH hl.1 (As := [.int w, .int sl, .int sd]) (rest := []) (c_X11_isSplinter (G := G) (base := base) (l := l) (f := f) (sz := sz) (w := w) (sl := sl) (sd := sd) ) mY_X11_isSplinter ml_X11_248 st_X11_isSplinter rfl ⟨(Nat.le_of_ble_eq_true rfl), (Nat.le_of_ble_eq_true rfl)⟩ rfl (Nat.le_of_ble_eq_true rfl) ⟨(Nat.le_of_ble_eq_true rfl), (Nat.le_of_ble_eq_true rfl)⟩ dX11_lost_3) (fun H locs hH => ?_)
  refine fx_b_ne hx hb (tgt := 12) dX11_lost_6 (by decide) (fun c6 => ?_) (fun c6 => ?_)
  · obtain ⟨a_, b_, d_, ha_, hb_, hd_, rfl, rfl, rfl⟩ := spl3 c6
    · skip
      refine lv_iconst (v := nI 0) hx hb dX11_lost_12 (by decide) ?_
      refine lv_istore (lv' := [(4, .int (nI 0)), (0, .ref x), (1, .int (nI a_)), (2, .int (nI b_)), (3, .int (nI d_))]) hx hb dX11_lost_13 hl (by decide) rfl (fun ls hl => ?_)
      refine lv_iconst (v := nI 0) hx hb dX11_lost_15 (by decide) ?_
      refine lv_istore (lv' := [(5, .int (nI 0)), (4, .int (nI 0)), (0, .ref x), (1, .int (nI a_)), (2, .int (nI b_)), (3, .int (nI d_))]) hx hb dX11_lost_16 hl (by decide) rfl (fun ls hl => ?_)
      have loop_18 : ∀ (N_18 : Nat) (i1 : Nat) (hi1 : i1 ≤ 20) (hall : ∀ z, z < i1 → 0 < wdN a_ b_ d_ z ∧ wdN a_ b_ d_ z < 20) (hm_18 : 20 - i1 < N_18) (H : Heap) (locs : List Loc) (hH : fx_H G base s f sz H locs) (ls : Array Slot) (hl : lv_has ls 7 [(0, .ref x), (1, .int (nI a_)), (2, .int (nI b_)), (3, .int (nI d_)), (4, .int (nI (lsN a_ b_ d_ i1))), (5, .int (nI i1))]), W p l e rm_X11_lost s m args below meth c H locs 0 0 (MQ below (fx_QP G base Po) args s rm_X11_lost.cells rm_X11_lost.slots (fun q => base ≤ q)) (F0 m 18 ls []) := by
        intro N_18
        induction N_18 with
        | zero => intro i1 hi1 hall hm_18; exact absurd hm_18 (Nat.not_lt_zero _)
        | succ N_18 ih_18 =>
          intro i1 hi1 hall hm_18 H locs hH ls hl
          refine lv_iload hx hb dX11_lost_18 (lv_at hl 5 rfl) ?_
          refine lv_bipush (v := nI 20) hx hb dX11_lost_20 (by decide) ?_
          refine fx_N_ge (a := i1) (b := 20) hx hb (by omega) (by omega) (tgt := 66) dX11_lost_22 (by decide) (fun c22 => ?_) (fun c22 => ?_)
          · refine lv_iload hx hb dX11_lost_66 (lv_at hl 4 rfl) ?_
            exact fx_iretP C hr hk hH (K1 c6 a_ b_ d_ ha_ hb_ hd_ rfl rfl rfl i1 hi1 hall c22) (Nat.zero_le _) (Nat.zero_le _) dX11_lost_68
          · refine lv_iload_n hx hb dX11_lost_25 rfl (lv_at hl 1 rfl) ?_
            refine lv_iload_n hx hb dX11_lost_26 rfl (lv_at hl 2 rfl) ?_
            refine lv_iload_n hx hb dX11_lost_27 rfl (lv_at hl 3 rfl) ?_
            refine lv_iload hx hb dX11_lost_28 (lv_at hl 5 rfl) ?_
            refine fx_go1 hH (fx_runS C hH hl.1 (As := [.int (nI a_), .int (nI b_), .int (nI d_), .int (nI i1)]) (rest := []) (c_X11_widthBehind (G := G) (base := base) (l := l) (f := f) (sz := sz) (w := nI a_) (sl := nI b_) (sd := nI d_) (n := nI i1) ) mY_X11_widthBehind ml_X11_251 st_X11_widthBehind rfl ⟨(Nat.le_of_ble_eq_true rfl), (Nat.le_of_ble_eq_true rfl)⟩ rfl (Nat.le_of_ble_eq_true rfl) ⟨(Nat.le_of_ble_eq_true rfl), (Nat.le_of_ble_eq_true rfl)⟩ dX11_lost_30) (fun H locs hH => ?_)
            refine fx_ti (y := nI (wdN a_ b_ d_ i1)) (wdN_c (by omega) (by omega) hd_ (by omega)) ?_
            have hwl := wdN_le (b := b_) (d := d_) (c := i1) ha_.2
            refine lv_istore (lv' := [(6, .int (nI (wdN a_ b_ d_ i1))), (0, .ref x), (1, .int (nI a_)), (2, .int (nI b_)), (3, .int (nI d_)), (4, .int (nI (lsN a_ b_ d_ i1))), (5, .int (nI i1))]) hx hb dX11_lost_33 hl (by decide) rfl (fun ls hl => ?_)
            refine lv_iload hx hb dX11_lost_35 (lv_at hl 0 rfl) ?_
            refine fx_O_le (a := wdN a_ b_ d_ i1) hx hb (by omega) (tgt := 66) dX11_lost_37 (by decide) (fun c37 => ?_) (fun c37 => ?_)
            · refine lv_iload hx hb dX11_lost_66 (lv_at hl 5 rfl) ?_
              exact fx_iretP C hr hk hH (K2 c6 a_ b_ d_ ha_ hb_ hd_ rfl rfl rfl i1 hi1 hall c22 c37) (Nat.zero_le _) (Nat.zero_le _) dX11_lost_68
            · refine lv_iload hx hb dX11_lost_40 (lv_at hl 0 rfl) ?_
              refine lv_bipush (v := nI 20) hx hb dX11_lost_42 (by decide) ?_
              refine fx_N_lt (a := wdN a_ b_ d_ i1) (b := 20) hx hb (by omega) (by omega) (tgt := 50) dX11_lost_44 (by decide) (fun c44 => ?_) (fun c44 => ?_)
              · refine lv_iload hx hb dX11_lost_50 (lv_at hl 5 rfl) ?_
                refine lv_bipush (v := nI 20) hx hb dX11_lost_52 (by decide) ?_
                refine lv_iload hx hb dX11_lost_54 (lv_at hl 0 rfl) ?_
                refine lv_isub hx hb dX11_lost_56 ?_
                refine fx_ti (y := nI (20 - (wdN a_ b_ d_ i1))) (pk_sub (by omega)) ?_
                refine lv_iadd hx hb dX11_lost_57 ?_
                refine fx_ti (y := nI (lsN a_ b_ d_ i1 + (20 - (wdN a_ b_ d_ i1)))) (nI_add _ _) ?_
                refine lv_istore (lv' := [(4, .int (nI (lsN a_ b_ d_ i1 + (20 - (wdN a_ b_ d_ i1))))), (6, .int (nI (wdN a_ b_ d_ i1))), (0, .ref x), (1, .int (nI a_)), (2, .int (nI b_)), (3, .int (nI d_)), (5, .int (nI i1))]) hx hb dX11_lost_58 hl (by decide) rfl (fun ls hl => ?_)
                refine lv_iinc (v := nI (i1 + 1)) (lv' := [(5, .int (nI (i1 + 1))), (4, .int (nI (lsN a_ b_ d_ i1 + (20 - (wdN a_ b_ d_ i1))))), (6, .int (nI (wdN a_ b_ d_ i1))), (0, .ref x), (1, .int (nI a_)), (2, .int (nI b_)), (3, .int (nI d_))]) hx hb dX11_lost_60 hl (k := 6) rfl (nI_1 _) (by decide) rfl (fun ls hl => ?_)
                refine lv_goto (tgt := 18) hx hb dX11_lost_63 (by decide) ?_
                have hl : lv_has ls 7 [(0, .ref x), (1, .int (nI a_)), (2, .int (nI b_)), (3, .int (nI d_)), (4, .int (nI (lsN a_ b_ d_ i1 + (20 - (wdN a_ b_ d_ i1))))), (5, .int (nI (i1 + 1)))] := lv_sub hl [3, 4, 5, 6, 1, 0] rfl
                have hl : lv_has ls 7 [(0, .ref x), (1, .int (nI a_)), (2, .int (nI b_)), (3, .int (nI d_)), (4, .int (nI (lsN a_ b_ d_ (i1 + 1)))), (5, .int (nI (i1 + 1)))] := hl
                exact ih_18 (i1 + 1) (by omega) (fun z hz => by rcases Nat.lt_succ_iff_lt_or_eq.mp hz with q9 | q9; exact hall z q9; subst q9; exact ⟨by omega, c44⟩) (by omega) _ _ hH _ hl
              · refine lv_goto (tgt := 66) hx hb dX11_lost_47 (by decide) ?_
                refine lv_iload hx hb dX11_lost_66 (lv_at hl 5 rfl) ?_
                exact fx_iretP C hr hk hH (K3 c6 a_ b_ d_ ha_ hb_ hd_ rfl rfl rfl i1 hi1 hall c22 c37 c44) (Nat.zero_le _) (Nat.zero_le _) dX11_lost_68
      have hl : lv_has ls 7 [(0, .ref x), (1, .int (nI a_)), (2, .int (nI b_)), (3, .int (nI d_)), (4, .int (nI 0)), (5, .int (nI 0))] := lv_sub hl [2, 3, 4, 5, 1, 0] rfl
      have hl : lv_has ls 7 [(0, .ref x), (1, .int (nI a_)), (2, .int (nI b_)), (3, .int (nI d_)), (4, .int (nI (lsN a_ b_ d_ 0))), (5, .int (nI 0))] := hl
      exact loop_18 _ 0 (by omega) (fun z hz => absurd hz (Nat.not_lt_zero _)) (Nat.lt_succ_self _) _ _ hH _ hl
  · refine lv_ldc (v := (-1000001)) hx hb C.2.2.2.1 (C.2.2.2.2.1 _ kI_X11_60 rfl args) dX11_lost_9 ?_
    exact fx_iretP C hr hk hH (K4 c6) (Nat.zero_le _) (Nat.zero_le _) dX11_lost_11
abbrev rm_X11_whose : Room := { frames := 5, cells := 0, slots := 0, locals := 111 }
set_option maxHeartbeats 4000000 in
set_option maxRecDepth 100000 in
theorem c_X11_whose_n {G : GG} {base : Nat} {l : Launch} {f : Hp} {sz : Nat} {Po : Option Value → Hp → Nat → Prop} {x : Nat} {r : Int32} {i : Int32} {n : Int32} {ra : Nat} {tp : Nat} {tc : Nat} {ro : Nat} {tr : Nat} {ia : Nat} {aa : Nat} {oa : Int32} {ak : Int32} {fa : Int32} {fi : Int32} {k : Nat} {w : Nat} {pl : Nat} {wy : Int32} {se : Int32} {to : Nat} {lf : Nat} {ta : Int32} {wt : Nat} {ch : Nat} {sk : Nat} {P : Nat} {st : Nat} {ov : Int32} {mi : Nat} {ri : Nat} {tl : Nat} (h_x : f x = some (oO 10 [.ref ra, .ref tp, .ref tc, .ref ro, .ref tr, .ref ia, .ref aa, .int oa, .int ak, .int fa, .int fi])) (h_ro : f ro = some (oO 4 [.ref k, .ref w, .int (nI pl), .int wy, .int se, .int (nI to), .int (nI lf), .int ta])) (h_w : f w = some (oO 2 [.ref wt, .ref ch, .ref sk, .int (nI P), .int (nI st), .int ov, .int (nI mi), .int (nI ri), .int (nI tl)])) (hr0 : ¬ (¬ r < nI 0 ∧ ¬ nI 7 < r)) (hP : P ≤ 12) (K1 : ∀ (c4 : ¬ (P = 0)), Po (some (.int (-1000001))) f sz)
    (K2 : ∀ (c4 : (P = 0)), Po (some (.int (-1000002))) f sz) : fx_MP G base l yX11_whose cX11_whose 7 (some .int) rm_X11_whose [.ref x, .int r, .int i, .int n] f sz Po := by
  refine fx_ofP (by decide +kernel) (Nat.le_of_ble_eq_true rfl) ?_
  intro p e s m args below meth c C hr hk hnm hH ls hl
  obtain ⟨locs, hlocs⟩ : ∃ L : List Loc, L = [] := ⟨_, rfl⟩
  rw [← hlocs] at hH ⊢
  generalize s.heap = H at hH ⊢
  have hx := C.1
  have hb := C.2.1
  have hl : lv_has ls 7 [(0, .ref x), (1, .int r), (2, .int i), (3, .int n)] := hl
  refine lv_aload_n hx hb dX11_whose_0 rfl (lv_at hl 0 rfl) ?_
  refine fx_go1 hH (fx_runV C hH hl.1 (As := []) (rest := []) (c_X11_noRoll (G := G) (base := base) (l := l) (f := f) (sz := sz) (x := x) (ra := ra) (tp := tp) (tc := tc) (ro := ro) (tr := tr) (ia := ia) (aa := aa) (oa := oa) (ak := ak) (fa := fa) (fi := fi) (k := k) (w := w) (pl := nI pl) (wy := wy) (se := se) (to := nI to) (lf := nI lf) (ta := ta) (wt := wt) (ch := ch) (sk := sk) (P := P) (st := nI st) (ov := ov) (mi := nI mi) (ri := nI ri) (tl := tl) h_x h_ro h_w (by omega)) mY_X11_noRoll ml_X11_159 im_X11_noRoll se_X11_X11_noRoll h_x rfl rfl ⟨(Nat.le_of_ble_eq_true rfl), (Nat.le_of_ble_eq_true rfl)⟩ rfl (Nat.le_of_ble_eq_true rfl) ⟨(Nat.le_of_ble_eq_true rfl), (Nat.le_of_ble_eq_true rfl)⟩ dX11_whose_1) (fun H locs hH => ?_)
  refine fx_b_eq hx hb (tgt := 10) dX11_whose_4 (by decide) (fun c4 => ?_) (fun c4 => ?_)
  · refine lv_aload_n hx hb dX11_whose_10 rfl (lv_at hl 0 rfl) ?_
    refine lv_iload_n hx hb dX11_whose_11 rfl (lv_at hl 1 rfl) ?_
    refine fx_go1 hH (fx_runV C hH hl.1 (As := [.int r]) (rest := []) (c_X11_rowAt_n (G := G) (base := base) (l := l) (f := f) (sz := sz) (x := x) (r := r) (ra := ra) (tp := tp) (tc := tc) (ro := ro) (tr := tr) (ia := ia) (aa := aa) (oa := oa) (ak := ak) (fa := fa) (fi := fi) h_x hr0) mY_X11_rowAt ml_X11_52 im_X11_rowAt se_X11_X11_rowAt h_x rfl rfl ⟨(Nat.le_of_ble_eq_true rfl), (Nat.le_of_ble_eq_true rfl)⟩ rfl (Nat.le_of_ble_eq_true rfl) ⟨(Nat.le_of_ble_eq_true rfl), (Nat.le_of_ble_eq_true rfl)⟩ dX11_whose_12) (fun H locs hH => ?_)
    refine lv_astoreN (lv' := [(4, .null), (0, .ref x), (1, .int r), (2, .int i), (3, .int n)]) hx hb dX11_whose_15 hl (by decide) rfl (fun ls hl => ?_)
    refine lv_aloadN hx hb dX11_whose_17 (lv_at hl 0 rfl) ?_
    refine lv_ifnullN (tgt := 32) hx hb dX11_whose_19 (by decide) ?_
    refine lv_ldc (v := (-1000001)) hx hb C.2.2.2.1 (C.2.2.2.2.1 _ kI_X11_60 rfl args) dX11_whose_32 ?_
    exact fx_iretP C hr hk hH (K1 c4) (Nat.zero_le _) (Nat.zero_le _) dX11_whose_34
  · refine lv_ldc (v := (-1000002)) hx hb C.2.2.2.1 (C.2.2.2.2.1 _ kI_X11_133 rfl args) dX11_whose_7 ?_
    exact fx_iretP C hr hk hH (K2 c4) (Nat.zero_le _) (Nat.zero_le _) dX11_whose_9
set_option maxHeartbeats 4000000 in
set_option maxRecDepth 100000 in
theorem c_X11_whose_k {G : GG} {base : Nat} {l : Launch} {f : Hp} {sz : Nat} {Po : Option Value → Hp → Nat → Prop} {os : Nat → Nat} {Ks : Nat → Nat} {wis : Nat → Nat} {ags : Nat → Nat} {cvf : Nat → Nat} {x : Nat} {kk : Nat} {i : Int32} {n : Int32} {ra : Nat} {tp : Nat} {tc : Nat} {ro : Nat} {tr : Nat} {ia : Nat} {aa : Nat} {oa : Int32} {ak : Int32} {fa : Int32} {fi : Int32} {k : Nat} {w : Nat} {pl : Nat} {wy : Int32} {se : Int32} {to : Nat} {lf : Nat} {ta : Int32} {q : Nat → Int64} {wt : Nat} {ch : Nat} {sk : Nat} {P : Nat} {st : Nat} {ov : Int32} {mi : Nat} {ri : Nat} {tl : Nat} {gc : Nat → Int32} {gs : Nat → Option Nat} {k2 : Nat} {w2 : Nat} {pl2 : Int32} {wy2 : Int32} {se2 : Int32} {to2 : Int32} {lf2 : Int32} {ta2 : Int32} {q2 : Nat → Int64} {gr : Nat → Option Nat} {rr : Nat} {ri_ : Nat} {ms : Int32} {la : Int32} {sn : Nat} {g : Nat → Int32} (h_x : f x = some (oO 10 [.ref ra, .ref tp, .ref tc, .ref ro, .ref tr, .ref ia, .ref aa, .int oa, .int ak, .int fa, .int fi])) (h_ro : f ro = some (oO 4 [.ref k, .ref w, .int (nI pl), .int wy, .int se, .int (nI to), .int (nI lf), .int ta])) (h_k : f k = some (oJ 13 q)) (h_w : f w = some (oO 2 [.ref wt, .ref ch, .ref sk, .int (nI P), .int (nI st), .int ov, .int (nI mi), .int (nI ri), .int (nI tl)])) (h_ch : f ch = some (oI 12 gc)) (h_sk : f sk = some (oR 5 4 gs)) (h_tr : f tr = some (oO 4 [.ref k2, .ref w2, .int pl2, .int wy2, .int se2, .int to2, .int lf2, .int ta2])) (h_k2 : f k2 = some (oJ 13 q2)) (h_ra : f ra = some (oR 4 8 gr)) (h_rr : f rr = some (oO 6 [.ref ri_, .int ms, .int la, .int (nI sn)])) (h_ri_ : f ri_ = some (oI 40 g)) (hne_0 : ro ≠ tr) (hne_1 : k ≠ k2) (hne_2 : ch ≠ ri_) (hkk : kk < 8) (hg : gr kk = some rr) (hsn : sn ≤ 40) (hP : P = 0 ∨ 4 ≤ P ∧ P ≤ 12) (htl : tl ≤ 4) (hgs : ∀ z, z < tl → gs z = some (os z)) (hos : ∀ z, z < tl → f (os z) = some (skC (Ks z) (nI z) (nI (wis z)) (nI (ags z)))) (hsk : ∀ z, z < tl → (1 ≤ Ks z ∧ Ks z ≤ 5) ∧ wis z ≤ 10 ∧ ags z ≤ 10) (hcf : ∀ z, z < P → gc z = nI (cvf z) ∧ cvf z ≤ 10) (K1 : ∀ (c4 : ¬ (P = 0)), ∀ (c29 : (¬ n < (nI 1) ∧ ¬ (nI 6) < n)), ∀ (c40 : ms = (0 : Int32)), ∀ (c56 : (¬ i < 0 ∧ ¬ n < 0 ∧ ¬ (nI sn).toInt64 < i.toInt64 + n.toInt64)), ∀ (ix : Nat), ∀ (nn : Nat), ∀ (hix : ix + nn ≤ sn), ∀ (hn1 : 1 ≤ nn ∧ nn ≤ 6), ∀ (hie : i = nI ix), ∀ (hne : n = nI nn), ∀ (c84 : (∀ j, j < nn → ¬ g (ix + j) < nI 0 ∧ ¬ nI (P - 1) < g (ix + j))), ∀ (i1 : Nat), ∀ (w2_ : Nat), ∀ (pl2_ : Int32), ∀ (wy2_ : Int32), ∀ (se2_ : Int32), ∀ (to2_ : Int32), ∀ (lf2_ : Int32), ∀ (ta2_ : Int32), ∀ (q2_ : Nat → Int64), ∀ (hi1 : i1 ≤ tl), ∀ (c108 : tl ≤ i1), Po (some (.int (whS (fun k_ => gsP q P wy (fun z => (g (ix + z)).toNatClampNeg) cvf (Ks k_) (wis k_) (ags k_) nn ta (fun z => g (ix + z))) i1))) (fx_up (fx_up (fx_up f tr (oO 4 [.ref k2, .ref w2_, .int pl2_, .int wy2_, .int se2_, .int to2_, .int lf2_, .int ta2_])) k2 (oJ 13 q2_)) x (oO 10 [.ref ra, .ref tp, .ref tc, .ref ro, .ref tr, .ref ia, .ref aa, .int oa, .int ak, .int fa, .int (nI 0)])) sz)
    (K2 : ∀ (c4 : ¬ (P = 0)), ∀ (c29 : (¬ n < (nI 1) ∧ ¬ (nI 6) < n)), ∀ (c40 : ms = (0 : Int32)), ∀ (c56 : (¬ i < 0 ∧ ¬ n < 0 ∧ ¬ (nI sn).toInt64 < i.toInt64 + n.toInt64)), ∀ (ix : Nat), ∀ (nn : Nat), ∀ (hix : ix + nn ≤ sn), ∀ (hn1 : 1 ≤ nn ∧ nn ≤ 6), ∀ (hie : i = nI ix), ∀ (hne : n = nI nn), ∀ (c84 : ¬ (∀ j, j < nn → ¬ g (ix + j) < nI 0 ∧ ¬ nI (P - 1) < g (ix + j))), Po (some (.int (-1000001))) f sz)
    (K3 : ∀ (c4 : ¬ (P = 0)), ∀ (c29 : (¬ n < (nI 1) ∧ ¬ (nI 6) < n)), ∀ (c40 : ms = (0 : Int32)), ∀ (c56 : ¬ (¬ i < 0 ∧ ¬ n < 0 ∧ ¬ (nI sn).toInt64 < i.toInt64 + n.toInt64)), Po (some (.int ((-1000010) - (nI 2)))) (fx_up f x (oO 10 [.ref ra, .ref tp, .ref tc, .ref ro, .ref tr, .ref ia, .ref aa, .int oa, .int ak, .int fa, .int (nI 2)])) sz)
    (K4 : ∀ (c4 : ¬ (P = 0)), ∀ (c29 : (¬ n < (nI 1) ∧ ¬ (nI 6) < n)), ∀ (c40 : ¬ ms = (0 : Int32)), Po (some (.int ((-1000010) - (nI 1)))) (fx_up f x (oO 10 [.ref ra, .ref tp, .ref tc, .ref ro, .ref tr, .ref ia, .ref aa, .int oa, .int ak, .int fa, .int (nI 1)])) sz)
    (K5 : ∀ (c4 : ¬ (P = 0)), ∀ (c29 : ¬ (¬ n < (nI 1) ∧ ¬ (nI 6) < n)), Po (some (.int (-1000001))) f sz)
    (K6 : ∀ (c4 : (P = 0)), Po (some (.int (-1000002))) f sz) : fx_MP G base l yX11_whose cX11_whose 7 (some .int) rm_X11_whose [.ref x, .int (nI kk), .int i, .int n] f sz Po := by
  refine fx_ofP (by decide +kernel) (Nat.le_of_ble_eq_true rfl) ?_
  intro p e s m args below meth c C hr hk hnm hH ls hl
  obtain ⟨locs, hlocs⟩ : ∃ L : List Loc, L = [] := ⟨_, rfl⟩
  rw [← hlocs] at hH ⊢
  generalize s.heap = H at hH ⊢
  have hx := C.1
  have hb := C.2.1
  have hl : lv_has ls 7 [(0, .ref x), (1, .int (nI kk)), (2, .int i), (3, .int n)] := hl
  refine lv_aload_n hx hb dX11_whose_0 rfl (lv_at hl 0 rfl) ?_
  refine fx_go1 hH (fx_runV C hH hl.1 (As := []) (rest := []) (c_X11_noRoll (G := G) (base := base) (l := l) (f := f) (sz := sz) (x := x) (ra := ra) (tp := tp) (tc := tc) (ro := ro) (tr := tr) (ia := ia) (aa := aa) (oa := oa) (ak := ak) (fa := fa) (fi := fi) (k := k) (w := w) (pl := nI pl) (wy := wy) (se := se) (to := nI to) (lf := nI lf) (ta := ta) (wt := wt) (ch := ch) (sk := sk) (P := P) (st := nI st) (ov := ov) (mi := nI mi) (ri := nI ri) (tl := tl) h_x h_ro h_w (by omega)) mY_X11_noRoll ml_X11_159 im_X11_noRoll se_X11_X11_noRoll h_x rfl rfl ⟨(Nat.le_of_ble_eq_true rfl), (Nat.le_of_ble_eq_true rfl)⟩ rfl (Nat.le_of_ble_eq_true rfl) ⟨(Nat.le_of_ble_eq_true rfl), (Nat.le_of_ble_eq_true rfl)⟩ dX11_whose_1) (fun H locs hH => ?_)
  refine fx_b_eq hx hb (tgt := 10) dX11_whose_4 (by decide) (fun c4 => ?_) (fun c4 => ?_)
  · refine lv_aload_n hx hb dX11_whose_10 rfl (lv_at hl 0 rfl) ?_
    refine lv_iload_n hx hb dX11_whose_11 rfl (lv_at hl 1 rfl) ?_
    refine fx_go1 hH (fx_runV C hH hl.1 (As := [.int (nI kk)]) (rest := []) (c_X11_rowAt_k (G := G) (base := base) (l := l) (f := f) (sz := sz) (rr := rr) (x := x) (kk := kk) (ra := ra) (tp := tp) (tc := tc) (ro := ro) (tr := tr) (ia := ia) (aa := aa) (oa := oa) (ak := ak) (fa := fa) (fi := fi) (gr := gr) h_x h_ra (by omega) hg) mY_X11_rowAt ml_X11_52 im_X11_rowAt se_X11_X11_rowAt h_x rfl rfl ⟨(Nat.le_of_ble_eq_true rfl), (Nat.le_of_ble_eq_true rfl)⟩ rfl (Nat.le_of_ble_eq_true rfl) ⟨(Nat.le_of_ble_eq_true rfl), (Nat.le_of_ble_eq_true rfl)⟩ dX11_whose_12) (fun H locs hH => ?_)
    refine lv_astore (lv' := [(4, .ref rr), (0, .ref x), (1, .int (nI kk)), (2, .int i), (3, .int n)]) hx hb dX11_whose_15 hl (by decide) rfl (fun ls hl => ?_)
    refine lv_aload hx hb dX11_whose_17 (lv_at hl 0 rfl) ?_
    refine lv_ifnull hx hb dX11_whose_19 ?_
    refine lv_iload_n hx hb dX11_whose_22 rfl (lv_at hl 4 rfl) ?_
    refine lv_iconst (v := nI 1) hx hb dX11_whose_23 (by decide) ?_
    refine lv_bipush (v := nI 6) hx hb dX11_whose_24 (by decide) ?_
    refine fx_go1 hH (fx_runS C hH hl.1 (As := [.int n, .int (nI 1), .int (nI 6)]) (rest := []) (c_X11_within (G := G) (base := base) (l := l) (f := f) (sz := sz) (n := n) (lo := nI 1) (hi := nI 6) ) mY_X11_within ml_X11_56 st_X11_within rfl ⟨(Nat.le_of_ble_eq_true rfl), (Nat.le_of_ble_eq_true rfl)⟩ rfl (Nat.le_of_ble_eq_true rfl) ⟨(Nat.le_of_ble_eq_true rfl), (Nat.le_of_ble_eq_true rfl)⟩ dX11_whose_26) (fun H locs hH => ?_)
    refine fx_b_ne hx hb (tgt := 35) dX11_whose_29 (by decide) (fun c29 => ?_) (fun c29 => ?_)
    · refine lv_aload hx hb dX11_whose_35 (lv_at hl 0 rfl) ?_
      refine fx_get C hH (k := 1) (v := .int ms) h_rr ff_X11_72_6 rfl dX11_whose_37 ?_
      refine lv_if_eq hx hb (tgt := 49) dX11_whose_40 (by decide) (fun c40 => ?_) (fun c40 => ?_)
      · refine lv_aload hx hb dX11_whose_49 (lv_at hl 0 rfl) ?_
        refine lv_iload_n hx hb dX11_whose_51 rfl (lv_at hl 3 rfl) ?_
        refine lv_iload_n hx hb dX11_whose_52 rfl (lv_at hl 4 rfl) ?_
        refine fx_go1 hH (fx_runV C hH hl.1 (As := [.int i, .int n]) (rest := []) (c_X6_holds (G := G) (base := base) (l := l) (f := f) (sz := sz) (r := rr) (i := i) (n := n) (it := ri_) (mi := ms) (la := la) (si := nI sn) h_rr) mY_X6_holds ml_X11_76 im_X6_holds se_X6_X6_holds h_rr rfl rfl ⟨(Nat.le_of_ble_eq_true rfl), (Nat.le_of_ble_eq_true rfl)⟩ rfl (Nat.le_of_ble_eq_true rfl) ⟨(Nat.le_of_ble_eq_true rfl), (Nat.le_of_ble_eq_true rfl)⟩ dX11_whose_53) (fun H locs hH => ?_)
        refine fx_b_ne hx hb (tgt := 65) dX11_whose_56 (by decide) (fun c56 => ?_) (fun c56 => ?_)
        · obtain ⟨ix, nn, hix, rfl, rfl⟩ := hld (by omega) c56
          have hn1 : 1 ≤ nn ∧ nn ≤ 6 := ⟨Nat.le_of_not_lt fun q9 => c29.1 ((nI_ltI (by omega) (by omega)).mpr q9), Nat.le_of_not_lt fun q9 => c29.2 ((nI_ltI (by omega) (by omega)).mpr q9)⟩
          have hP := hP.resolve_left c4
          · skip
            refine lv_aload hx hb dX11_whose_65 (lv_at hl 0 rfl) ?_
            refine lv_iload_n hx hb dX11_whose_67 rfl (lv_at hl 3 rfl) ?_
            refine lv_iload_n hx hb dX11_whose_68 rfl (lv_at hl 4 rfl) ?_
            refine lv_aload_n hx hb dX11_whose_69 rfl (lv_at hl 1 rfl) ?_
            refine fx_get C hH (k := 3) (v := .ref ro) h_x ff_X11_44_10 rfl dX11_whose_70 ?_
            refine fx_get C hH (k := 1) (v := .ref w) h_ro ff_X11_197_4 rfl dX11_whose_73 ?_
            refine fx_get C hH (k := 3) (v := .int (nI P)) h_w ff_X11_127_2 rfl dX11_whose_76 ?_
            refine lv_iconst (v := nI 1) hx hb dX11_whose_79 (by decide) ?_
            refine lv_isub hx hb dX11_whose_80 ?_
            refine fx_ti (y := nI (P - 1)) (pk_sub (by omega)) ?_
            refine fx_go1 hH (fx_runV C hH hl.1 (As := [.int (nI ix), .int (nI nn), .int (nI (P - 1))]) (rest := []) (c_X6_areUpTo (G := G) (base := base) (l := l) (f := f) (sz := sz) (r := rr) (i := ix) (n := nn) (mo := P - 1) (it := ri_) (mi := ms) (la := la) (si := nI sn) (g := g) h_rr h_ri_ (by omega)) mY_X6_areUpTo ml_X11_255 im_X6_areUpTo se_X6_X6_areUpTo h_rr rfl rfl ⟨(Nat.le_of_ble_eq_true rfl), (Nat.le_of_ble_eq_true rfl)⟩ rfl (Nat.le_of_ble_eq_true rfl) ⟨(Nat.le_of_ble_eq_true rfl), (Nat.le_of_ble_eq_true rfl)⟩ dX11_whose_81) (fun H locs hH => ?_)
            refine fx_b_ne hx hb (tgt := 90) dX11_whose_84 (by decide) (fun c84 => ?_) (fun c84 => ?_)
            · have hpt : ∀ z, z < nn → g (ix + z) = nI ((fun z => (g (ix + z)).toNatClampNeg) z) ∧ (fun z => (g (ix + z)).toNatClampNeg) z < P := fun z hz => by
                obtain ⟨kz, h8, h9⟩ := rng (N := P - 1) (by omega) (c84 z hz).1 (c84 z hz).2
                show g (ix + z) = nI ((g (ix + z)).toNatClampNeg) ∧ (g (ix + z)).toNatClampNeg < P
                rw [h9, nI_clamp (by omega)]; exact ⟨rfl, by omega⟩
              refine lv_iconst (v := nI 0) hx hb dX11_whose_90 (by decide) ?_
              refine lv_istore (lv' := [(5, .int (nI 0)), (4, .ref rr), (0, .ref x), (1, .int (nI kk)), (2, .int (nI ix)), (3, .int (nI nn))]) hx hb dX11_whose_91 hl (by decide) rfl (fun ls hl => ?_)
              refine lv_iconst (v := nI 0) hx hb dX11_whose_93 (by decide) ?_
              refine lv_istore (lv' := [(6, .int (nI 0)), (5, .int (nI 0)), (4, .ref rr), (0, .ref x), (1, .int (nI kk)), (2, .int (nI ix)), (3, .int (nI nn))]) hx hb dX11_whose_94 hl (by decide) rfl (fun ls hl => ?_)
              have loop_96 : ∀ (N_96 : Nat) (i1 : Nat) (w2_ : Nat) (pl2_ : Int32) (wy2_ : Int32) (se2_ : Int32) (to2_ : Int32) (lf2_ : Int32) (ta2_ : Int32) (q2_ : Nat → Int64) (hi1 : i1 ≤ tl) (hm_96 : tl - i1 < N_96) (H : Heap) (locs : List Loc) (hH : fx_H G base s (fx_up (fx_up f tr (oO 4 [.ref k2, .ref w2_, .int pl2_, .int wy2_, .int se2_, .int to2_, .int lf2_, .int ta2_])) k2 (oJ 13 q2_)) sz H locs) (ls : Array Slot) (hl : lv_has ls 7 [(0, .ref x), (1, .int (nI kk)), (2, .int (nI ix)), (3, .int (nI nn)), (4, .ref rr), (5, .int (whS (fun k_ => gsP q P wy (fun z => (g (ix + z)).toNatClampNeg) cvf (Ks k_) (wis k_) (ags k_) nn ta (fun z => g (ix + z))) i1)), (6, .int (nI i1))]), W p l e rm_X11_whose s m args below meth c H locs 0 0 (MQ below (fx_QP G base Po) args s rm_X11_whose.cells rm_X11_whose.slots (fun q => base ≤ q)) (F0 m 96 ls []) := by
                intro N_96
                induction N_96 with
                | zero => intro i1 w2_ pl2_ wy2_ se2_ to2_ lf2_ ta2_ q2_ hi1 hm_96; exact absurd hm_96 (Nat.not_lt_zero _)
                | succ N_96 ih_96 =>
                  intro i1 w2_ pl2_ wy2_ se2_ to2_ lf2_ ta2_ q2_ hi1 hm_96 H locs hH ls hl
                  have h1_x : (fx_up (fx_up f tr (oO 4 [.ref k2, .ref w2_, .int pl2_, .int wy2_, .int se2_, .int to2_, .int lf2_, .int ta2_])) k2 (oJ 13 q2_)) x = some (oO 10 [.ref ra, .ref tp, .ref tc, .ref ro, .ref tr, .ref ia, .ref aa, .int oa, .int ak, .int fa, .int fi]) := (fx_up_n _ _ (fx_ne h_x h_k2 rfl)).trans ((fx_up_n _ _ (fx_ne h_x h_tr rfl)).trans (h_x))
                  have h1_ro : (fx_up (fx_up f tr (oO 4 [.ref k2, .ref w2_, .int pl2_, .int wy2_, .int se2_, .int to2_, .int lf2_, .int ta2_])) k2 (oJ 13 q2_)) ro = some (oO 4 [.ref k, .ref w, .int (nI pl), .int wy, .int se, .int (nI to), .int (nI lf), .int ta]) := (fx_up_n _ _ (fx_ne h_ro h_k2 rfl)).trans ((fx_up_n _ _ hne_0).trans (h_ro))
                  have h1_k : (fx_up (fx_up f tr (oO 4 [.ref k2, .ref w2_, .int pl2_, .int wy2_, .int se2_, .int to2_, .int lf2_, .int ta2_])) k2 (oJ 13 q2_)) k = some (oJ 13 q) := (fx_up_n _ _ hne_1).trans ((fx_up_n _ _ (fx_ne h_k h_tr rfl)).trans (h_k))
                  have h1_w : (fx_up (fx_up f tr (oO 4 [.ref k2, .ref w2_, .int pl2_, .int wy2_, .int se2_, .int to2_, .int lf2_, .int ta2_])) k2 (oJ 13 q2_)) w = some (oO 2 [.ref wt, .ref ch, .ref sk, .int (nI P), .int (nI st), .int ov, .int (nI mi), .int (nI ri), .int (nI tl)]) := (fx_up_n _ _ (fx_ne h_w h_k2 rfl)).trans ((fx_up_n _ _ (fx_ne h_w h_tr rfl)).trans (h_w))
                  have h1_ch : (fx_up (fx_up f tr (oO 4 [.ref k2, .ref w2_, .int pl2_, .int wy2_, .int se2_, .int to2_, .int lf2_, .int ta2_])) k2 (oJ 13 q2_)) ch = some (oI 12 gc) := (fx_up_n _ _ (fx_ne h_ch h_k2 rfl)).trans ((fx_up_n _ _ (fx_ne h_ch h_tr rfl)).trans (h_ch))
                  have h1_sk : (fx_up (fx_up f tr (oO 4 [.ref k2, .ref w2_, .int pl2_, .int wy2_, .int se2_, .int to2_, .int lf2_, .int ta2_])) k2 (oJ 13 q2_)) sk = some (oR 5 4 gs) := (fx_up_n _ _ (fx_ne h_sk h_k2 rfl)).trans ((fx_up_n _ _ (fx_ne h_sk h_tr rfl)).trans (h_sk))
                  have h1_tr : (fx_up (fx_up f tr (oO 4 [.ref k2, .ref w2_, .int pl2_, .int wy2_, .int se2_, .int to2_, .int lf2_, .int ta2_])) k2 (oJ 13 q2_)) tr = some (oO 4 [.ref k2, .ref w2_, .int pl2_, .int wy2_, .int se2_, .int to2_, .int lf2_, .int ta2_]) := (fx_up_n _ _ (fx_ne h_tr h_k2 rfl)).trans (fx_up_s _ _ _)
                  have h1_k2 : (fx_up (fx_up f tr (oO 4 [.ref k2, .ref w2_, .int pl2_, .int wy2_, .int se2_, .int to2_, .int lf2_, .int ta2_])) k2 (oJ 13 q2_)) k2 = some (oJ 13 q2_) := fx_up_s _ _ _
                  have h1_ra : (fx_up (fx_up f tr (oO 4 [.ref k2, .ref w2_, .int pl2_, .int wy2_, .int se2_, .int to2_, .int lf2_, .int ta2_])) k2 (oJ 13 q2_)) ra = some (oR 4 8 gr) := (fx_up_n _ _ (fx_ne h_ra h_k2 rfl)).trans ((fx_up_n _ _ (fx_ne h_ra h_tr rfl)).trans (h_ra))
                  have h1_rr : (fx_up (fx_up f tr (oO 4 [.ref k2, .ref w2_, .int pl2_, .int wy2_, .int se2_, .int to2_, .int lf2_, .int ta2_])) k2 (oJ 13 q2_)) rr = some (oO 6 [.ref ri_, .int ms, .int la, .int (nI sn)]) := (fx_up_n _ _ (fx_ne h_rr h_k2 rfl)).trans ((fx_up_n _ _ (fx_ne h_rr h_tr rfl)).trans (h_rr))
                  have h1_ri_ : (fx_up (fx_up f tr (oO 4 [.ref k2, .ref w2_, .int pl2_, .int wy2_, .int se2_, .int to2_, .int lf2_, .int ta2_])) k2 (oJ 13 q2_)) ri_ = some (oI 40 g) := (fx_up_n _ _ (fx_ne h_ri_ h_k2 rfl)).trans ((fx_up_n _ _ (fx_ne h_ri_ h_tr rfl)).trans (h_ri_))
                  refine lv_iload hx hb dX11_whose_96 (lv_at hl 6 rfl) ?_
                  refine lv_aload_n hx hb dX11_whose_98 rfl (lv_at hl 0 rfl) ?_
                  refine fx_get C hH (k := 3) (v := .ref ro) h1_x ff_X11_44_10 rfl dX11_whose_99 ?_
                  refine fx_get C hH (k := 1) (v := .ref w) h1_ro ff_X11_197_4 rfl dX11_whose_102 ?_
                  refine fx_get C hH (k := 8) (v := .int (nI tl)) h1_w ff_X11_258_2 rfl dX11_whose_105 ?_
                  refine fx_N_ge (a := i1) (b := tl) hx hb (by omega) (by omega) (tgt := 143) dX11_whose_108 (by decide) (fun c108 => ?_) (fun c108 => ?_)
                  · refine lv_aload_n hx hb dX11_whose_143 rfl (lv_at hl 0 rfl) ?_
                    refine lv_iload hx hb dX11_whose_144 (lv_at hl 5 rfl) ?_
                    refine fx_go1 hH (fx_runV C hH hl.1 (As := [.int (whS (fun k_ => gsP q P wy (fun z => (g (ix + z)).toNatClampNeg) cvf (Ks k_) (wis k_) (ags k_) nn ta (fun z => g (ix + z))) i1)]) (rest := []) (c_X11_unfound (G := G) (base := base) (l := l) (f := fx_up (fx_up f tr (oO 4 [.ref k2, .ref w2_, .int pl2_, .int wy2_, .int se2_, .int to2_, .int lf2_, .int ta2_])) k2 (oJ 13 q2_)) (sz := sz) (x := x) (nn := whS (fun k_ => gsP q P wy (fun z => (g (ix + z)).toNatClampNeg) cvf (Ks k_) (wis k_) (ags k_) nn ta (fun z => g (ix + z))) i1) (ra := ra) (tp := tp) (tc := tc) (ro := ro) (tr := tr) (ia := ia) (aa := aa) (oa := oa) (ak := ak) (fa := fa) (fi := fi) h1_x) mY_X11_unfound ml_X11_69 im_X11_unfound se_X11_X11_unfound h1_x rfl rfl ⟨(Nat.le_of_ble_eq_true rfl), (Nat.le_of_ble_eq_true rfl)⟩ rfl (Nat.le_of_ble_eq_true rfl) ⟨(Nat.le_of_ble_eq_true rfl), (Nat.le_of_ble_eq_true rfl)⟩ dX11_whose_146) (fun H locs hH => ?_)
                    have hH : fx_H G base s (fx_up (fx_up (fx_up f tr (oO 4 [.ref k2, .ref w2_, .int pl2_, .int wy2_, .int se2_, .int to2_, .int lf2_, .int ta2_])) k2 (oJ 13 q2_)) x (oO 10 [.ref ra, .ref tp, .ref tc, .ref ro, .ref tr, .ref ia, .ref aa, .int oa, .int ak, .int fa, .int (nI 0)])) sz H locs := hH
                    have h2_ro : (fx_up (fx_up (fx_up f tr (oO 4 [.ref k2, .ref w2_, .int pl2_, .int wy2_, .int se2_, .int to2_, .int lf2_, .int ta2_])) k2 (oJ 13 q2_)) x (oO 10 [.ref ra, .ref tp, .ref tc, .ref ro, .ref tr, .ref ia, .ref aa, .int oa, .int ak, .int fa, .int (nI 0)])) ro = some (oO 4 [.ref k, .ref w, .int (nI pl), .int wy, .int se, .int (nI to), .int (nI lf), .int ta]) := (fx_up_n _ _ (fx_ne h1_ro h1_x rfl)).trans h1_ro
                    have h2_k : (fx_up (fx_up (fx_up f tr (oO 4 [.ref k2, .ref w2_, .int pl2_, .int wy2_, .int se2_, .int to2_, .int lf2_, .int ta2_])) k2 (oJ 13 q2_)) x (oO 10 [.ref ra, .ref tp, .ref tc, .ref ro, .ref tr, .ref ia, .ref aa, .int oa, .int ak, .int fa, .int (nI 0)])) k = some (oJ 13 q) := (fx_up_n _ _ (fx_ne h1_k h1_x rfl)).trans h1_k
                    have h2_w : (fx_up (fx_up (fx_up f tr (oO 4 [.ref k2, .ref w2_, .int pl2_, .int wy2_, .int se2_, .int to2_, .int lf2_, .int ta2_])) k2 (oJ 13 q2_)) x (oO 10 [.ref ra, .ref tp, .ref tc, .ref ro, .ref tr, .ref ia, .ref aa, .int oa, .int ak, .int fa, .int (nI 0)])) w = some (oO 2 [.ref wt, .ref ch, .ref sk, .int (nI P), .int (nI st), .int ov, .int (nI mi), .int (nI ri), .int (nI tl)]) := (fx_up_n _ _ (fx_ne h1_w h1_x rfl)).trans h1_w
                    have h2_ch : (fx_up (fx_up (fx_up f tr (oO 4 [.ref k2, .ref w2_, .int pl2_, .int wy2_, .int se2_, .int to2_, .int lf2_, .int ta2_])) k2 (oJ 13 q2_)) x (oO 10 [.ref ra, .ref tp, .ref tc, .ref ro, .ref tr, .ref ia, .ref aa, .int oa, .int ak, .int fa, .int (nI 0)])) ch = some (oI 12 gc) := (fx_up_n _ _ (fx_ne h1_ch h1_x rfl)).trans h1_ch
                    have h2_sk : (fx_up (fx_up (fx_up f tr (oO 4 [.ref k2, .ref w2_, .int pl2_, .int wy2_, .int se2_, .int to2_, .int lf2_, .int ta2_])) k2 (oJ 13 q2_)) x (oO 10 [.ref ra, .ref tp, .ref tc, .ref ro, .ref tr, .ref ia, .ref aa, .int oa, .int ak, .int fa, .int (nI 0)])) sk = some (oR 5 4 gs) := (fx_up_n _ _ (fx_ne h1_sk h1_x rfl)).trans h1_sk
                    have h2_tr : (fx_up (fx_up (fx_up f tr (oO 4 [.ref k2, .ref w2_, .int pl2_, .int wy2_, .int se2_, .int to2_, .int lf2_, .int ta2_])) k2 (oJ 13 q2_)) x (oO 10 [.ref ra, .ref tp, .ref tc, .ref ro, .ref tr, .ref ia, .ref aa, .int oa, .int ak, .int fa, .int (nI 0)])) tr = some (oO 4 [.ref k2, .ref w2_, .int pl2_, .int wy2_, .int se2_, .int to2_, .int lf2_, .int ta2_]) := (fx_up_n _ _ (fx_ne h1_tr h1_x rfl)).trans h1_tr
                    have h2_k2 : (fx_up (fx_up (fx_up f tr (oO 4 [.ref k2, .ref w2_, .int pl2_, .int wy2_, .int se2_, .int to2_, .int lf2_, .int ta2_])) k2 (oJ 13 q2_)) x (oO 10 [.ref ra, .ref tp, .ref tc, .ref ro, .ref tr, .ref ia, .ref aa, .int oa, .int ak, .int fa, .int (nI 0)])) k2 = some (oJ 13 q2_) := (fx_up_n _ _ (fx_ne h1_k2 h1_x rfl)).trans h1_k2
                    have h2_ra : (fx_up (fx_up (fx_up f tr (oO 4 [.ref k2, .ref w2_, .int pl2_, .int wy2_, .int se2_, .int to2_, .int lf2_, .int ta2_])) k2 (oJ 13 q2_)) x (oO 10 [.ref ra, .ref tp, .ref tc, .ref ro, .ref tr, .ref ia, .ref aa, .int oa, .int ak, .int fa, .int (nI 0)])) ra = some (oR 4 8 gr) := (fx_up_n _ _ (fx_ne h1_ra h1_x rfl)).trans h1_ra
                    have h2_rr : (fx_up (fx_up (fx_up f tr (oO 4 [.ref k2, .ref w2_, .int pl2_, .int wy2_, .int se2_, .int to2_, .int lf2_, .int ta2_])) k2 (oJ 13 q2_)) x (oO 10 [.ref ra, .ref tp, .ref tc, .ref ro, .ref tr, .ref ia, .ref aa, .int oa, .int ak, .int fa, .int (nI 0)])) rr = some (oO 6 [.ref ri_, .int ms, .int la, .int (nI sn)]) := (fx_up_n _ _ (fx_ne h1_rr h1_x rfl)).trans h1_rr
                    have h2_ri_ : (fx_up (fx_up (fx_up f tr (oO 4 [.ref k2, .ref w2_, .int pl2_, .int wy2_, .int se2_, .int to2_, .int lf2_, .int ta2_])) k2 (oJ 13 q2_)) x (oO 10 [.ref ra, .ref tp, .ref tc, .ref ro, .ref tr, .ref ia, .ref aa, .int oa, .int ak, .int fa, .int (nI 0)])) ri_ = some (oI 40 g) := (fx_up_n _ _ (fx_ne h1_ri_ h1_x rfl)).trans h1_ri_
                    have h2_x : (fx_up (fx_up (fx_up f tr (oO 4 [.ref k2, .ref w2_, .int pl2_, .int wy2_, .int se2_, .int to2_, .int lf2_, .int ta2_])) k2 (oJ 13 q2_)) x (oO 10 [.ref ra, .ref tp, .ref tc, .ref ro, .ref tr, .ref ia, .ref aa, .int oa, .int ak, .int fa, .int (nI 0)])) x = some (oO 10 [.ref ra, .ref tp, .ref tc, .ref ro, .ref tr, .ref ia, .ref aa, .int oa, .int ak, .int fa, .int (nI 0)]) := fx_up_s _ _ _
                    have hH : fx_H G base s (fx_up (fx_up (fx_up f tr (oO 4 [.ref k2, .ref w2_, .int pl2_, .int wy2_, .int se2_, .int to2_, .int lf2_, .int ta2_])) k2 (oJ 13 q2_)) x (oO 10 [.ref ra, .ref tp, .ref tc, .ref ro, .ref tr, .ref ia, .ref aa, .int oa, .int ak, .int fa, .int (nI 0)])) sz H locs := hH
                    exact fx_iretP C hr hk hH (K1 c4 c29 c40 c56 ix nn hix hn1 rfl rfl c84 i1 w2_ pl2_ wy2_ se2_ to2_ lf2_ ta2_ q2_ hi1 c108) (Nat.zero_le _) (Nat.zero_le _) dX11_whose_149
                  · refine lv_aload_n hx hb dX11_whose_111 rfl (lv_at hl 0 rfl) ?_
                    refine lv_aload_n hx hb dX11_whose_112 rfl (lv_at hl 0 rfl) ?_
                    refine lv_iload hx hb dX11_whose_113 (lv_at hl 6 rfl) ?_
                    have hoi : (fx_up (fx_up f tr (oO 4 [.ref k2, .ref w2_, .int pl2_, .int wy2_, .int se2_, .int to2_, .int lf2_, .int ta2_])) k2 (oJ 13 q2_)) (os i1) = some (skC (Ks i1) (nI i1) (nI (wis i1)) (nI (ags i1))) := (fx_up_n _ _ (fx_neK (hos i1 (by omega)) h_k2 rfl)).trans ((fx_up_n _ _ (fx_neK (hos i1 (by omega)) h_tr rfl)).trans (hos i1 (by omega)))
                    have hsk3 := hsk i1 (by omega)
                    refine fx_go1 hH (fx_runV C hH hl.1 (As := [.int (nI i1)]) (rest := [.ref x]) (c_X11_seekerAt_k (G := G) (base := base) (l := l) (f := fx_up (fx_up f tr (oO 4 [.ref k2, .ref w2_, .int pl2_, .int wy2_, .int se2_, .int to2_, .int lf2_, .int ta2_])) k2 (oJ 13 q2_)) (sz := sz) (o := os i1) (x := x) (j := i1) (ra := ra) (tp := tp) (tc := tc) (ro := ro) (tr := tr) (ia := ia) (aa := aa) (oa := oa) (ak := ak) (fa := fa) (fi := fi) (k := k) (w := w) (pl := nI pl) (wy := wy) (se := se) (to := nI to) (lf := nI lf) (ta := ta) (wt := wt) (ch := ch) (sk := sk) (P := P) (st := nI st) (ov := ov) (mi := nI mi) (ri := nI ri) (tl := tl) (gs := gs) h1_x h1_ro h1_w h1_sk (by omega) (by omega) (hgs i1 (by omega))) mY_X11_seekerAt ml_X11_141 im_X11_seekerAt se_X11_X11_seekerAt h1_x rfl rfl ⟨(Nat.le_of_ble_eq_true rfl), (Nat.le_of_ble_eq_true rfl)⟩ rfl (Nat.le_of_ble_eq_true rfl) ⟨(Nat.le_of_ble_eq_true rfl), (Nat.le_of_ble_eq_true rfl)⟩ dX11_whose_115) (fun H locs hH => ?_)
                    refine lv_aload hx hb dX11_whose_118 (lv_at hl 4 rfl) ?_
                    refine lv_iload_n hx hb dX11_whose_120 rfl (lv_at hl 2 rfl) ?_
                    refine lv_iload_n hx hb dX11_whose_121 rfl (lv_at hl 3 rfl) ?_
                    have hH0 := hH
                    refine fx_afterP hH (fx_runVP C hH hl.1 (As := [.ref (os i1), .ref rr, .int (nI ix), .int (nI nn)]) (rest := []) (c_X11_goesSo (G := G) (base := base) (l := l) (f := fx_up (fx_up f tr (oO 4 [.ref k2, .ref w2_, .int pl2_, .int wy2_, .int se2_, .int to2_, .int lf2_, .int ta2_])) k2 (oJ 13 q2_)) (sz := sz) (pt := (fun z => (g (ix + z)).toNatClampNeg)) (cvf := cvf) (x := x) (o := (os i1)) (tw := rr) (fr := ix) (n := nn) (ra := ra) (tp := tp) (tc := tc) (ro := ro) (tr := tr) (ia := ia) (aa := aa) (oa := oa) (ak := ak) (fa := fa) (fi := fi) (k := k) (w := w) (pl := pl) (wy := wy) (se := se) (to := nI to) (lf := nI lf) (ta := ta) (k2 := k2) (w2 := w2_) (pl2 := pl2_) (wy2 := wy2_) (se2 := se2_) (to2 := to2_) (lf2 := lf2_) (ta2 := ta2_) (q := q) (q2 := q2_) (wt := wt) (ch := ch) (sk := sk) (P := P) (st := st) (ov := ov) (mi := nI mi) (ri := nI ri) (tl := nI tl) (gc := gc) (K := (Ks i1)) (nn := nI i1) (wi := (wis i1)) (ag := (ags i1)) (it2 := ri_) (mi2 := ms) (la2 := la) (si2 := nI sn) (git := g) h1_x h1_ro h1_tr h1_k h1_k2 h1_w h1_ch hoi h1_rr h1_ri_ hne_0 hne_1 hne_2 (by omega) (by omega) (by omega) (by omega) (by omega) (by omega) hpt hcf) mY_X11_goesSo ml_X11_261 im_X11_goesSo se_X11_X11_goesSo h1_x rfl rfl ⟨(Nat.le_of_ble_eq_true rfl), (Nat.le_of_ble_eq_true rfl)⟩ rfl (Nat.le_of_ble_eq_true rfl) ⟨(Nat.le_of_ble_eq_true rfl), (Nat.le_of_ble_eq_true rfl)⟩ dX11_whose_122) (fun v_ f_ sz_ H locs hPo hH => ?_)
                    obtain ⟨pl__3, se__3, to__3, lf__3, q__3, hv_, hf_, hs_⟩ := hPo
                    subst v_
                    subst f_
                    subst sz_
                    show W _ _ _ _ _ _ _ _ _ _ _ _ _ _ _ (F0 m 125 ls (.int (bI (∀ z, z < nn - 1 → nxI (Ks i1) (qG (cpJ q q2_) P wy (fun z => (g (ix + z)).toNatClampNeg) cvf (Ks i1) (wis i1) (ags i1) (z + 1)) ((fun z => (g (ix + z)).toNatClampNeg) z) wy 0 ta P = g (ix + z + 1))) :: []))
                    have hH : fx_H G base s (fx_up (fx_up (fx_up (fx_up f tr (oO 4 [.ref k2, .ref w2_, .int pl2_, .int wy2_, .int se2_, .int to2_, .int lf2_, .int ta2_])) k2 (oJ 13 q2_)) tr (oO 4 [.ref k2, .ref w, .int pl__3, .int wy, .int se__3, .int to__3, .int lf__3, .int ta])) k2 (oJ 13 q__3)) sz H locs := hH
                    have heq4 : fx_up (fx_up (fx_up f tr (oO 4 [.ref k2, .ref w2_, .int pl2_, .int wy2_, .int se2_, .int to2_, .int lf2_, .int ta2_])) k2 (oJ 13 q2_)) tr (oO 4 [.ref k2, .ref w, .int pl__3, .int wy, .int se__3, .int to__3, .int lf__3, .int ta]) = fx_up (fx_up f tr (oO 4 [.ref k2, .ref w, .int pl__3, .int wy, .int se__3, .int to__3, .int lf__3, .int ta])) k2 (oJ 13 q2_) := by rw [fx_up_c _ _ _ (fx_ne h1_k2 h1_tr rfl), fx_up_up]
                    rw [heq4] at hH
                    have h4_x : (fx_up (fx_up f tr (oO 4 [.ref k2, .ref w, .int pl__3, .int wy, .int se__3, .int to__3, .int lf__3, .int ta])) k2 (oJ 13 q2_)) x = some (oO 10 [.ref ra, .ref tp, .ref tc, .ref ro, .ref tr, .ref ia, .ref aa, .int oa, .int ak, .int fa, .int fi]) := (congrFun heq4 x).symm.trans ((fx_up_n _ _ (fx_ne h1_x h1_tr rfl)).trans h1_x)
                    have h4_ro : (fx_up (fx_up f tr (oO 4 [.ref k2, .ref w, .int pl__3, .int wy, .int se__3, .int to__3, .int lf__3, .int ta])) k2 (oJ 13 q2_)) ro = some (oO 4 [.ref k, .ref w, .int (nI pl), .int wy, .int se, .int (nI to), .int (nI lf), .int ta]) := (congrFun heq4 ro).symm.trans ((fx_up_n _ _ hne_0).trans h1_ro)
                    have h4_k : (fx_up (fx_up f tr (oO 4 [.ref k2, .ref w, .int pl__3, .int wy, .int se__3, .int to__3, .int lf__3, .int ta])) k2 (oJ 13 q2_)) k = some (oJ 13 q) := (congrFun heq4 k).symm.trans ((fx_up_n _ _ (fx_ne h1_k h1_tr rfl)).trans h1_k)
                    have h4_w : (fx_up (fx_up f tr (oO 4 [.ref k2, .ref w, .int pl__3, .int wy, .int se__3, .int to__3, .int lf__3, .int ta])) k2 (oJ 13 q2_)) w = some (oO 2 [.ref wt, .ref ch, .ref sk, .int (nI P), .int (nI st), .int ov, .int (nI mi), .int (nI ri), .int (nI tl)]) := (congrFun heq4 w).symm.trans ((fx_up_n _ _ (fx_ne h1_w h1_tr rfl)).trans h1_w)
                    have h4_ch : (fx_up (fx_up f tr (oO 4 [.ref k2, .ref w, .int pl__3, .int wy, .int se__3, .int to__3, .int lf__3, .int ta])) k2 (oJ 13 q2_)) ch = some (oI 12 gc) := (congrFun heq4 ch).symm.trans ((fx_up_n _ _ (fx_ne h1_ch h1_tr rfl)).trans h1_ch)
                    have h4_sk : (fx_up (fx_up f tr (oO 4 [.ref k2, .ref w, .int pl__3, .int wy, .int se__3, .int to__3, .int lf__3, .int ta])) k2 (oJ 13 q2_)) sk = some (oR 5 4 gs) := (congrFun heq4 sk).symm.trans ((fx_up_n _ _ (fx_ne h1_sk h1_tr rfl)).trans h1_sk)
                    have h4_k2 : (fx_up (fx_up f tr (oO 4 [.ref k2, .ref w, .int pl__3, .int wy, .int se__3, .int to__3, .int lf__3, .int ta])) k2 (oJ 13 q2_)) k2 = some (oJ 13 q2_) := (congrFun heq4 k2).symm.trans ((fx_up_n _ _ (fx_ne h1_k2 h1_tr rfl)).trans h1_k2)
                    have h4_ra : (fx_up (fx_up f tr (oO 4 [.ref k2, .ref w, .int pl__3, .int wy, .int se__3, .int to__3, .int lf__3, .int ta])) k2 (oJ 13 q2_)) ra = some (oR 4 8 gr) := (congrFun heq4 ra).symm.trans ((fx_up_n _ _ (fx_ne h1_ra h1_tr rfl)).trans h1_ra)
                    have h4_rr : (fx_up (fx_up f tr (oO 4 [.ref k2, .ref w, .int pl__3, .int wy, .int se__3, .int to__3, .int lf__3, .int ta])) k2 (oJ 13 q2_)) rr = some (oO 6 [.ref ri_, .int ms, .int la, .int (nI sn)]) := (congrFun heq4 rr).symm.trans ((fx_up_n _ _ (fx_ne h1_rr h1_tr rfl)).trans h1_rr)
                    have h4_ri_ : (fx_up (fx_up f tr (oO 4 [.ref k2, .ref w, .int pl__3, .int wy, .int se__3, .int to__3, .int lf__3, .int ta])) k2 (oJ 13 q2_)) ri_ = some (oI 40 g) := (congrFun heq4 ri_).symm.trans ((fx_up_n _ _ (fx_ne h1_ri_ h1_tr rfl)).trans h1_ri_)
                    have h4_os_i1 : (fx_up (fx_up f tr (oO 4 [.ref k2, .ref w, .int pl__3, .int wy, .int se__3, .int to__3, .int lf__3, .int ta])) k2 (oJ 13 q2_)) (os i1) = some (skC (Ks i1) (nI i1) (nI (wis i1)) (nI (ags i1))) := (congrFun heq4 (os i1)).symm.trans ((fx_up_n _ _ (fx_neK hoi h1_tr rfl)).trans hoi)
                    have h4_tr : (fx_up (fx_up f tr (oO 4 [.ref k2, .ref w, .int pl__3, .int wy, .int se__3, .int to__3, .int lf__3, .int ta])) k2 (oJ 13 q2_)) tr = some (oO 4 [.ref k2, .ref w, .int pl__3, .int wy, .int se__3, .int to__3, .int lf__3, .int ta]) := (congrFun heq4 tr).symm.trans (fx_up_s _ _ _)
                    have heq5 : fx_up (fx_up (fx_up f tr (oO 4 [.ref k2, .ref w, .int pl__3, .int wy, .int se__3, .int to__3, .int lf__3, .int ta])) k2 (oJ 13 q2_)) k2 (oJ 13 q__3) = fx_up (fx_up f tr (oO 4 [.ref k2, .ref w, .int pl__3, .int wy, .int se__3, .int to__3, .int lf__3, .int ta])) k2 (oJ 13 q__3) := by rw [fx_up_up]
                    rw [heq5] at hH
                    have h5_x : (fx_up (fx_up f tr (oO 4 [.ref k2, .ref w, .int pl__3, .int wy, .int se__3, .int to__3, .int lf__3, .int ta])) k2 (oJ 13 q__3)) x = some (oO 10 [.ref ra, .ref tp, .ref tc, .ref ro, .ref tr, .ref ia, .ref aa, .int oa, .int ak, .int fa, .int fi]) := (congrFun heq5 x).symm.trans ((fx_up_n _ _ (fx_ne h4_x h4_k2 rfl)).trans h4_x)
                    have h5_ro : (fx_up (fx_up f tr (oO 4 [.ref k2, .ref w, .int pl__3, .int wy, .int se__3, .int to__3, .int lf__3, .int ta])) k2 (oJ 13 q__3)) ro = some (oO 4 [.ref k, .ref w, .int (nI pl), .int wy, .int se, .int (nI to), .int (nI lf), .int ta]) := (congrFun heq5 ro).symm.trans ((fx_up_n _ _ (fx_ne h4_ro h4_k2 rfl)).trans h4_ro)
                    have h5_k : (fx_up (fx_up f tr (oO 4 [.ref k2, .ref w, .int pl__3, .int wy, .int se__3, .int to__3, .int lf__3, .int ta])) k2 (oJ 13 q__3)) k = some (oJ 13 q) := (congrFun heq5 k).symm.trans ((fx_up_n _ _ hne_1).trans h4_k)
                    have h5_w : (fx_up (fx_up f tr (oO 4 [.ref k2, .ref w, .int pl__3, .int wy, .int se__3, .int to__3, .int lf__3, .int ta])) k2 (oJ 13 q__3)) w = some (oO 2 [.ref wt, .ref ch, .ref sk, .int (nI P), .int (nI st), .int ov, .int (nI mi), .int (nI ri), .int (nI tl)]) := (congrFun heq5 w).symm.trans ((fx_up_n _ _ (fx_ne h4_w h4_k2 rfl)).trans h4_w)
                    have h5_ch : (fx_up (fx_up f tr (oO 4 [.ref k2, .ref w, .int pl__3, .int wy, .int se__3, .int to__3, .int lf__3, .int ta])) k2 (oJ 13 q__3)) ch = some (oI 12 gc) := (congrFun heq5 ch).symm.trans ((fx_up_n _ _ (fx_ne h4_ch h4_k2 rfl)).trans h4_ch)
                    have h5_sk : (fx_up (fx_up f tr (oO 4 [.ref k2, .ref w, .int pl__3, .int wy, .int se__3, .int to__3, .int lf__3, .int ta])) k2 (oJ 13 q__3)) sk = some (oR 5 4 gs) := (congrFun heq5 sk).symm.trans ((fx_up_n _ _ (fx_ne h4_sk h4_k2 rfl)).trans h4_sk)
                    have h5_ra : (fx_up (fx_up f tr (oO 4 [.ref k2, .ref w, .int pl__3, .int wy, .int se__3, .int to__3, .int lf__3, .int ta])) k2 (oJ 13 q__3)) ra = some (oR 4 8 gr) := (congrFun heq5 ra).symm.trans ((fx_up_n _ _ (fx_ne h4_ra h4_k2 rfl)).trans h4_ra)
                    have h5_rr : (fx_up (fx_up f tr (oO 4 [.ref k2, .ref w, .int pl__3, .int wy, .int se__3, .int to__3, .int lf__3, .int ta])) k2 (oJ 13 q__3)) rr = some (oO 6 [.ref ri_, .int ms, .int la, .int (nI sn)]) := (congrFun heq5 rr).symm.trans ((fx_up_n _ _ (fx_ne h4_rr h4_k2 rfl)).trans h4_rr)
                    have h5_ri_ : (fx_up (fx_up f tr (oO 4 [.ref k2, .ref w, .int pl__3, .int wy, .int se__3, .int to__3, .int lf__3, .int ta])) k2 (oJ 13 q__3)) ri_ = some (oI 40 g) := (congrFun heq5 ri_).symm.trans ((fx_up_n _ _ (fx_ne h4_ri_ h4_k2 rfl)).trans h4_ri_)
                    have h5_os_i1 : (fx_up (fx_up f tr (oO 4 [.ref k2, .ref w, .int pl__3, .int wy, .int se__3, .int to__3, .int lf__3, .int ta])) k2 (oJ 13 q__3)) (os i1) = some (skC (Ks i1) (nI i1) (nI (wis i1)) (nI (ags i1))) := (congrFun heq5 (os i1)).symm.trans ((fx_up_n _ _ (fx_neK h4_os_i1 h4_k2 rfl)).trans h4_os_i1)
                    have h5_tr : (fx_up (fx_up f tr (oO 4 [.ref k2, .ref w, .int pl__3, .int wy, .int se__3, .int to__3, .int lf__3, .int ta])) k2 (oJ 13 q__3)) tr = some (oO 4 [.ref k2, .ref w, .int pl__3, .int wy, .int se__3, .int to__3, .int lf__3, .int ta]) := (congrFun heq5 tr).symm.trans ((fx_up_n _ _ (fx_ne h4_tr h4_k2 rfl)).trans h4_tr)
                    have h5_k2 : (fx_up (fx_up f tr (oO 4 [.ref k2, .ref w, .int pl__3, .int wy, .int se__3, .int to__3, .int lf__3, .int ta])) k2 (oJ 13 q__3)) k2 = some (oJ 13 q__3) := (congrFun heq5 k2).symm.trans (fx_up_s _ _ _)
                    have hH : fx_H G base s (fx_up (fx_up f tr (oO 4 [.ref k2, .ref w, .int pl__3, .int wy, .int se__3, .int to__3, .int lf__3, .int ta])) k2 (oJ 13 q__3)) sz H locs := hH
                    refine fx_ti (y := bI (gsP q P wy (fun z => (g (ix + z)).toNatClampNeg) cvf (Ks i1) (wis i1) (ags i1) nn ta (fun z => g (ix + z)))) (bI_c ⟨fun h9 z hz => (nxI_c (fun j hj => qG_c cpJ_c (z + 1) j (by omega))).symm.trans (h9 z hz), fun h9 z hz => (nxI_c (fun j hj => qG_c cpJ_c (z + 1) j (by omega))).trans (h9 z hz)⟩) ?_
                    refine fx_b_eq hx hb (tgt := 137) dX11_whose_125 (by decide) (fun c125 => ?_) (fun c125 => ?_)
                    · refine lv_iinc (v := nI (i1 + 1)) (lv' := [(6, .int (nI (i1 + 1))), (0, .ref x), (1, .int (nI kk)), (2, .int (nI ix)), (3, .int (nI nn)), (4, .ref rr), (5, .int (whS (fun k_ => gsP q P wy (fun z => (g (ix + z)).toNatClampNeg) cvf (Ks k_) (wis k_) (ags k_) nn ta (fun z => g (ix + z))) i1))]) hx hb dX11_whose_137 hl (k := 6) rfl (nI_1 _) (by decide) rfl (fun ls hl => ?_)
                      refine lv_goto (tgt := 96) hx hb dX11_whose_140 (by decide) ?_
                      have hl : lv_has ls 7 [(0, .ref x), (1, .int (nI kk)), (2, .int (nI ix)), (3, .int (nI nn)), (4, .ref rr), (5, .int (whS (fun k_ => gsP q P wy (fun z => (g (ix + z)).toNatClampNeg) cvf (Ks k_) (wis k_) (ags k_) nn ta (fun z => g (ix + z))) i1)), (6, .int (nI (i1 + 1)))] := lv_sub hl [1, 2, 3, 4, 5, 6, 0] rfl
                      have hl : lv_has ls 7 [(0, .ref x), (1, .int (nI kk)), (2, .int (nI ix)), (3, .int (nI nn)), (4, .ref rr), (5, .int (whS (fun k_ => gsP q P wy (fun z => (g (ix + z)).toNatClampNeg) cvf (Ks k_) (wis k_) (ags k_) nn ta (fun z => g (ix + z))) (i1 + 1))), (6, .int (nI (i1 + 1)))] := by
                        have e_ : whS (fun k_ => gsP q P wy (fun z => (g (ix + z)).toNatClampNeg) cvf (Ks k_) (wis k_) (ags k_) nn ta (fun z => g (ix + z))) (i1 + 1) = whS (fun k_ => gsP q P wy (fun z => (g (ix + z)).toNatClampNeg) cvf (Ks k_) (wis k_) (ags k_) nn ta (fun z => g (ix + z))) i1 := by rw [whS, if_neg c125]
                        rw [e_]
                        exact hl
                      exact ih_96 (i1 + 1) w pl__3 wy se__3 to__3 lf__3 ta q__3 (by omega) (by omega) _ _ hH _ hl
                    · refine lv_iload hx hb dX11_whose_128 (lv_at hl 5 rfl) ?_
                      refine lv_iconst (v := nI 1) hx hb dX11_whose_130 (by decide) ?_
                      refine lv_iload hx hb dX11_whose_131 (lv_at hl 6 rfl) ?_
                      refine lv_ishl hx hb dX11_whose_133 ?_
                      refine lv_ior hx hb dX11_whose_134 ?_
                      refine lv_istore (lv' := [(5, .int ((whS (fun k_ => gsP q P wy (fun z => (g (ix + z)).toNatClampNeg) cvf (Ks k_) (wis k_) (ags k_) nn ta (fun z => g (ix + z))) i1) ||| ((nI 1) <<< ((nI i1) &&& 31)))), (0, .ref x), (1, .int (nI kk)), (2, .int (nI ix)), (3, .int (nI nn)), (4, .ref rr), (6, .int (nI i1))]) hx hb dX11_whose_135 hl (by decide) rfl (fun ls hl => ?_)
                      refine lv_iinc (v := nI (i1 + 1)) (lv' := [(6, .int (nI (i1 + 1))), (5, .int ((whS (fun k_ => gsP q P wy (fun z => (g (ix + z)).toNatClampNeg) cvf (Ks k_) (wis k_) (ags k_) nn ta (fun z => g (ix + z))) i1) ||| ((nI 1) <<< ((nI i1) &&& 31)))), (0, .ref x), (1, .int (nI kk)), (2, .int (nI ix)), (3, .int (nI nn)), (4, .ref rr)]) hx hb dX11_whose_137 hl (k := 6) rfl (nI_1 _) (by decide) rfl (fun ls hl => ?_)
                      refine lv_goto (tgt := 96) hx hb dX11_whose_140 (by decide) ?_
                      have hl : lv_has ls 7 [(0, .ref x), (1, .int (nI kk)), (2, .int (nI ix)), (3, .int (nI nn)), (4, .ref rr), (5, .int ((whS (fun k_ => gsP q P wy (fun z => (g (ix + z)).toNatClampNeg) cvf (Ks k_) (wis k_) (ags k_) nn ta (fun z => g (ix + z))) i1) ||| ((nI 1) <<< ((nI i1) &&& 31)))), (6, .int (nI (i1 + 1)))] := lv_sub hl [2, 3, 4, 5, 6, 1, 0] rfl
                      have hl : lv_has ls 7 [(0, .ref x), (1, .int (nI kk)), (2, .int (nI ix)), (3, .int (nI nn)), (4, .ref rr), (5, .int (whS (fun k_ => gsP q P wy (fun z => (g (ix + z)).toNatClampNeg) cvf (Ks k_) (wis k_) (ags k_) nn ta (fun z => g (ix + z))) (i1 + 1))), (6, .int (nI (i1 + 1)))] := by
                        have e_ : whS (fun k_ => gsP q P wy (fun z => (g (ix + z)).toNatClampNeg) cvf (Ks k_) (wis k_) (ags k_) nn ta (fun z => g (ix + z))) (i1 + 1) = whS (fun k_ => gsP q P wy (fun z => (g (ix + z)).toNatClampNeg) cvf (Ks k_) (wis k_) (ags k_) nn ta (fun z => g (ix + z))) i1 ||| (nI 1 <<< (nI i1 &&& 31)) := by rw [whS, if_pos c125]
                        rw [e_]
                        exact hl
                      exact ih_96 (i1 + 1) w pl__3 wy se__3 to__3 lf__3 ta q__3 (by omega) (by omega) _ _ hH _ hl
              have hl : lv_has ls 7 [(0, .ref x), (1, .int (nI kk)), (2, .int (nI ix)), (3, .int (nI nn)), (4, .ref rr), (5, .int (nI 0)), (6, .int (nI 0))] := lv_sub hl [3, 4, 5, 6, 2, 1, 0] rfl
              have hl : lv_has ls 7 [(0, .ref x), (1, .int (nI kk)), (2, .int (nI ix)), (3, .int (nI nn)), (4, .ref rr), (5, .int (whS (fun k_ => gsP q P wy (fun z => (g (ix + z)).toNatClampNeg) cvf (Ks k_) (wis k_) (ags k_) nn ta (fun z => g (ix + z))) 0)), (6, .int (nI 0))] := hl
              have hH : fx_H G base s (fx_up (fx_up f tr (oO 4 [.ref k2, .ref w2, .int pl2, .int wy2, .int se2, .int to2, .int lf2, .int ta2])) k2 (oJ 13 q2)) sz H locs := (by rw [fx_up_id (show f tr = some (oO 4 [.ref k2, .ref w2, .int pl2, .int wy2, .int se2, .int to2, .int lf2, .int ta2]) from h_tr), fx_up_id (show f k2 = some (oJ 13 q2) from h_k2)]; exact hH)
              exact loop_96 _ 0 w2 pl2 wy2 se2 to2 lf2 ta2 q2 (by omega) (Nat.lt_succ_self _) _ _ hH _ hl
            · refine lv_ldc (v := (-1000001)) hx hb C.2.2.2.1 (C.2.2.2.2.1 _ kI_X11_60 rfl args) dX11_whose_87 ?_
              exact fx_iretP C hr hk hH (K2 c4 c29 c40 c56 ix nn hix hn1 rfl rfl c84) (Nat.zero_le _) (Nat.zero_le _) dX11_whose_89
        · refine lv_aload_n hx hb dX11_whose_59 rfl (lv_at hl 1 rfl) ?_
          refine lv_iconst (v := nI 2) hx hb dX11_whose_60 (by decide) ?_
          refine fx_go1 hH (fx_runV C hH hl.1 (As := [.int (nI 2)]) (rest := []) (c_X11_finding (G := G) (base := base) (l := l) (f := f) (sz := sz) (x := x) (nn := nI 2) (ra := ra) (tp := tp) (tc := tc) (ro := ro) (tr := tr) (ia := ia) (aa := aa) (oa := oa) (ak := ak) (fa := fa) (fi := fi) h_x) mY_X11_finding ml_X11_61 im_X11_finding se_X11_X11_finding h_x rfl rfl ⟨(Nat.le_of_ble_eq_true rfl), (Nat.le_of_ble_eq_true rfl)⟩ rfl (Nat.le_of_ble_eq_true rfl) ⟨(Nat.le_of_ble_eq_true rfl), (Nat.le_of_ble_eq_true rfl)⟩ dX11_whose_61) (fun H locs hH => ?_)
          have hH : fx_H G base s (fx_up f x (oO 10 [.ref ra, .ref tp, .ref tc, .ref ro, .ref tr, .ref ia, .ref aa, .int oa, .int ak, .int fa, .int (nI 2)])) sz H locs := hH
          have h6_ro : (fx_up f x (oO 10 [.ref ra, .ref tp, .ref tc, .ref ro, .ref tr, .ref ia, .ref aa, .int oa, .int ak, .int fa, .int (nI 2)])) ro = some (oO 4 [.ref k, .ref w, .int (nI pl), .int wy, .int se, .int (nI to), .int (nI lf), .int ta]) := (fx_up_n _ _ (fx_ne h_ro h_x rfl)).trans h_ro
          have h6_k : (fx_up f x (oO 10 [.ref ra, .ref tp, .ref tc, .ref ro, .ref tr, .ref ia, .ref aa, .int oa, .int ak, .int fa, .int (nI 2)])) k = some (oJ 13 q) := (fx_up_n _ _ (fx_ne h_k h_x rfl)).trans h_k
          have h6_w : (fx_up f x (oO 10 [.ref ra, .ref tp, .ref tc, .ref ro, .ref tr, .ref ia, .ref aa, .int oa, .int ak, .int fa, .int (nI 2)])) w = some (oO 2 [.ref wt, .ref ch, .ref sk, .int (nI P), .int (nI st), .int ov, .int (nI mi), .int (nI ri), .int (nI tl)]) := (fx_up_n _ _ (fx_ne h_w h_x rfl)).trans h_w
          have h6_ch : (fx_up f x (oO 10 [.ref ra, .ref tp, .ref tc, .ref ro, .ref tr, .ref ia, .ref aa, .int oa, .int ak, .int fa, .int (nI 2)])) ch = some (oI 12 gc) := (fx_up_n _ _ (fx_ne h_ch h_x rfl)).trans h_ch
          have h6_sk : (fx_up f x (oO 10 [.ref ra, .ref tp, .ref tc, .ref ro, .ref tr, .ref ia, .ref aa, .int oa, .int ak, .int fa, .int (nI 2)])) sk = some (oR 5 4 gs) := (fx_up_n _ _ (fx_ne h_sk h_x rfl)).trans h_sk
          have h6_tr : (fx_up f x (oO 10 [.ref ra, .ref tp, .ref tc, .ref ro, .ref tr, .ref ia, .ref aa, .int oa, .int ak, .int fa, .int (nI 2)])) tr = some (oO 4 [.ref k2, .ref w2, .int pl2, .int wy2, .int se2, .int to2, .int lf2, .int ta2]) := (fx_up_n _ _ (fx_ne h_tr h_x rfl)).trans h_tr
          have h6_k2 : (fx_up f x (oO 10 [.ref ra, .ref tp, .ref tc, .ref ro, .ref tr, .ref ia, .ref aa, .int oa, .int ak, .int fa, .int (nI 2)])) k2 = some (oJ 13 q2) := (fx_up_n _ _ (fx_ne h_k2 h_x rfl)).trans h_k2
          have h6_ra : (fx_up f x (oO 10 [.ref ra, .ref tp, .ref tc, .ref ro, .ref tr, .ref ia, .ref aa, .int oa, .int ak, .int fa, .int (nI 2)])) ra = some (oR 4 8 gr) := (fx_up_n _ _ (fx_ne h_ra h_x rfl)).trans h_ra
          have h6_rr : (fx_up f x (oO 10 [.ref ra, .ref tp, .ref tc, .ref ro, .ref tr, .ref ia, .ref aa, .int oa, .int ak, .int fa, .int (nI 2)])) rr = some (oO 6 [.ref ri_, .int ms, .int la, .int (nI sn)]) := (fx_up_n _ _ (fx_ne h_rr h_x rfl)).trans h_rr
          have h6_ri_ : (fx_up f x (oO 10 [.ref ra, .ref tp, .ref tc, .ref ro, .ref tr, .ref ia, .ref aa, .int oa, .int ak, .int fa, .int (nI 2)])) ri_ = some (oI 40 g) := (fx_up_n _ _ (fx_ne h_ri_ h_x rfl)).trans h_ri_
          have h6_x : (fx_up f x (oO 10 [.ref ra, .ref tp, .ref tc, .ref ro, .ref tr, .ref ia, .ref aa, .int oa, .int ak, .int fa, .int (nI 2)])) x = some (oO 10 [.ref ra, .ref tp, .ref tc, .ref ro, .ref tr, .ref ia, .ref aa, .int oa, .int ak, .int fa, .int (nI 2)]) := fx_up_s _ _ _
          have hH : fx_H G base s (fx_up f x (oO 10 [.ref ra, .ref tp, .ref tc, .ref ro, .ref tr, .ref ia, .ref aa, .int oa, .int ak, .int fa, .int (nI 2)])) sz H locs := hH
          exact fx_iretP C hr hk hH (K3 c4 c29 c40 c56) (Nat.zero_le _) (Nat.zero_le _) dX11_whose_64
      · refine lv_aload_n hx hb dX11_whose_43 rfl (lv_at hl 1 rfl) ?_
        refine lv_iconst (v := nI 1) hx hb dX11_whose_44 (by decide) ?_
        refine fx_go1 hH (fx_runV C hH hl.1 (As := [.int (nI 1)]) (rest := []) (c_X11_finding (G := G) (base := base) (l := l) (f := f) (sz := sz) (x := x) (nn := nI 1) (ra := ra) (tp := tp) (tc := tc) (ro := ro) (tr := tr) (ia := ia) (aa := aa) (oa := oa) (ak := ak) (fa := fa) (fi := fi) h_x) mY_X11_finding ml_X11_61 im_X11_finding se_X11_X11_finding h_x rfl rfl ⟨(Nat.le_of_ble_eq_true rfl), (Nat.le_of_ble_eq_true rfl)⟩ rfl (Nat.le_of_ble_eq_true rfl) ⟨(Nat.le_of_ble_eq_true rfl), (Nat.le_of_ble_eq_true rfl)⟩ dX11_whose_45) (fun H locs hH => ?_)
        have hH : fx_H G base s (fx_up f x (oO 10 [.ref ra, .ref tp, .ref tc, .ref ro, .ref tr, .ref ia, .ref aa, .int oa, .int ak, .int fa, .int (nI 1)])) sz H locs := hH
        have h7_ro : (fx_up f x (oO 10 [.ref ra, .ref tp, .ref tc, .ref ro, .ref tr, .ref ia, .ref aa, .int oa, .int ak, .int fa, .int (nI 1)])) ro = some (oO 4 [.ref k, .ref w, .int (nI pl), .int wy, .int se, .int (nI to), .int (nI lf), .int ta]) := (fx_up_n _ _ (fx_ne h_ro h_x rfl)).trans h_ro
        have h7_k : (fx_up f x (oO 10 [.ref ra, .ref tp, .ref tc, .ref ro, .ref tr, .ref ia, .ref aa, .int oa, .int ak, .int fa, .int (nI 1)])) k = some (oJ 13 q) := (fx_up_n _ _ (fx_ne h_k h_x rfl)).trans h_k
        have h7_w : (fx_up f x (oO 10 [.ref ra, .ref tp, .ref tc, .ref ro, .ref tr, .ref ia, .ref aa, .int oa, .int ak, .int fa, .int (nI 1)])) w = some (oO 2 [.ref wt, .ref ch, .ref sk, .int (nI P), .int (nI st), .int ov, .int (nI mi), .int (nI ri), .int (nI tl)]) := (fx_up_n _ _ (fx_ne h_w h_x rfl)).trans h_w
        have h7_ch : (fx_up f x (oO 10 [.ref ra, .ref tp, .ref tc, .ref ro, .ref tr, .ref ia, .ref aa, .int oa, .int ak, .int fa, .int (nI 1)])) ch = some (oI 12 gc) := (fx_up_n _ _ (fx_ne h_ch h_x rfl)).trans h_ch
        have h7_sk : (fx_up f x (oO 10 [.ref ra, .ref tp, .ref tc, .ref ro, .ref tr, .ref ia, .ref aa, .int oa, .int ak, .int fa, .int (nI 1)])) sk = some (oR 5 4 gs) := (fx_up_n _ _ (fx_ne h_sk h_x rfl)).trans h_sk
        have h7_tr : (fx_up f x (oO 10 [.ref ra, .ref tp, .ref tc, .ref ro, .ref tr, .ref ia, .ref aa, .int oa, .int ak, .int fa, .int (nI 1)])) tr = some (oO 4 [.ref k2, .ref w2, .int pl2, .int wy2, .int se2, .int to2, .int lf2, .int ta2]) := (fx_up_n _ _ (fx_ne h_tr h_x rfl)).trans h_tr
        have h7_k2 : (fx_up f x (oO 10 [.ref ra, .ref tp, .ref tc, .ref ro, .ref tr, .ref ia, .ref aa, .int oa, .int ak, .int fa, .int (nI 1)])) k2 = some (oJ 13 q2) := (fx_up_n _ _ (fx_ne h_k2 h_x rfl)).trans h_k2
        have h7_ra : (fx_up f x (oO 10 [.ref ra, .ref tp, .ref tc, .ref ro, .ref tr, .ref ia, .ref aa, .int oa, .int ak, .int fa, .int (nI 1)])) ra = some (oR 4 8 gr) := (fx_up_n _ _ (fx_ne h_ra h_x rfl)).trans h_ra
        have h7_rr : (fx_up f x (oO 10 [.ref ra, .ref tp, .ref tc, .ref ro, .ref tr, .ref ia, .ref aa, .int oa, .int ak, .int fa, .int (nI 1)])) rr = some (oO 6 [.ref ri_, .int ms, .int la, .int (nI sn)]) := (fx_up_n _ _ (fx_ne h_rr h_x rfl)).trans h_rr
        have h7_ri_ : (fx_up f x (oO 10 [.ref ra, .ref tp, .ref tc, .ref ro, .ref tr, .ref ia, .ref aa, .int oa, .int ak, .int fa, .int (nI 1)])) ri_ = some (oI 40 g) := (fx_up_n _ _ (fx_ne h_ri_ h_x rfl)).trans h_ri_
        have h7_x : (fx_up f x (oO 10 [.ref ra, .ref tp, .ref tc, .ref ro, .ref tr, .ref ia, .ref aa, .int oa, .int ak, .int fa, .int (nI 1)])) x = some (oO 10 [.ref ra, .ref tp, .ref tc, .ref ro, .ref tr, .ref ia, .ref aa, .int oa, .int ak, .int fa, .int (nI 1)]) := fx_up_s _ _ _
        have hH : fx_H G base s (fx_up f x (oO 10 [.ref ra, .ref tp, .ref tc, .ref ro, .ref tr, .ref ia, .ref aa, .int oa, .int ak, .int fa, .int (nI 1)])) sz H locs := hH
        exact fx_iretP C hr hk hH (K4 c4 c29 c40) (Nat.zero_le _) (Nat.zero_le _) dX11_whose_48
    · refine lv_ldc (v := (-1000001)) hx hb C.2.2.2.1 (C.2.2.2.2.1 _ kI_X11_60 rfl args) dX11_whose_32 ?_
      exact fx_iretP C hr hk hH (K5 c4 c29) (Nat.zero_le _) (Nat.zero_le _) dX11_whose_34
  · refine lv_ldc (v := (-1000002)) hx hb C.2.2.2.1 (C.2.2.2.2.1 _ kI_X11_133 rfl args) dX11_whose_7 ?_
    exact fx_iretP C hr hk hH (K6 c4) (Nat.zero_le _) (Nat.zero_le _) dX11_whose_9
abbrev rm_X11_rule : Room := { frames := 5, cells := 0, slots := 0, locals := 111 }
set_option maxHeartbeats 4000000 in
set_option maxRecDepth 100000 in
theorem c_X11_rule_nn {G : GG} {base : Nat} {l : Launch} {f : Hp} {sz : Nat} {Po : Option Value → Hp → Nat → Prop} {x : Nat} {sx : Int32} {r : Int32} {n : Int32} {m_ : Int32} {wh : Int32} {ra : Nat} {tp : Nat} {tc : Nat} {ro : Nat} {tr : Nat} {ia : Nat} {aa : Nat} {oa : Int32} {ak : Int32} {fa : Int32} {fi : Int32} {k : Nat} {w : Nat} {pl : Nat} {wy : Int32} {se : Int32} {to : Nat} {lf : Nat} {ta : Int32} {wt : Nat} {ch : Nat} {sk : Nat} {P : Nat} {st : Nat} {ov : Int32} {mi : Nat} {ri : Nat} {tl : Nat} (h_x : f x = some (oO 10 [.ref ra, .ref tp, .ref tc, .ref ro, .ref tr, .ref ia, .ref aa, .int oa, .int ak, .int fa, .int fi])) (h_ro : f ro = some (oO 4 [.ref k, .ref w, .int (nI pl), .int wy, .int se, .int (nI to), .int (nI lf), .int ta])) (h_w : f w = some (oO 2 [.ref wt, .ref ch, .ref sk, .int (nI P), .int (nI st), .int ov, .int (nI mi), .int (nI ri), .int (nI tl)])) (hs0 : ¬ (¬ sx < nI 0 ∧ ¬ (nI tl - nI 1) < sx)) (hr0 : ¬ (¬ r < nI 0 ∧ ¬ nI 7 < r)) (K1 : Po (some (.long (-1000001))) f sz) : fx_MP G base l yX11_rule cX11_rule 10 (some .long) rm_X11_rule [.ref x, .int sx, .int r, .int n, .int m_, .int wh] f sz Po := by
  refine fx_ofP (by decide +kernel) (Nat.le_of_ble_eq_true rfl) ?_
  intro p e s m args below meth c C hr hk hnm hH ls hl
  obtain ⟨locs, hlocs⟩ : ∃ L : List Loc, L = [] := ⟨_, rfl⟩
  rw [← hlocs] at hH ⊢
  generalize s.heap = H at hH ⊢
  have hx := C.1
  have hb := C.2.1
  have hl : lv_has ls 10 [(0, .ref x), (1, .int sx), (2, .int r), (3, .int n), (4, .int m_), (5, .int wh)] := hl
  refine lv_aload_n hx hb dX11_rule_0 rfl (lv_at hl 0 rfl) ?_
  refine lv_iload_n hx hb dX11_rule_1 rfl (lv_at hl 1 rfl) ?_
  refine fx_go1 hH (fx_runV C hH hl.1 (As := [.int sx]) (rest := []) (c_X11_seekerAt_n (G := G) (base := base) (l := l) (f := f) (sz := sz) (x := x) (sx := sx) (ra := ra) (tp := tp) (tc := tc) (ro := ro) (tr := tr) (ia := ia) (aa := aa) (oa := oa) (ak := ak) (fa := fa) (fi := fi) (k := k) (w := w) (pl := nI pl) (wy := wy) (se := se) (to := nI to) (lf := nI lf) (ta := ta) (wt := wt) (ch := ch) (sk := sk) (P := P) (st := nI st) (ov := ov) (mi := nI mi) (ri := nI ri) (tl := tl) h_x h_ro h_w hs0) mY_X11_seekerAt ml_X11_141 im_X11_seekerAt se_X11_X11_seekerAt h_x rfl rfl ⟨(Nat.le_of_ble_eq_true rfl), (Nat.le_of_ble_eq_true rfl)⟩ rfl (Nat.le_of_ble_eq_true rfl) ⟨(Nat.le_of_ble_eq_true rfl), (Nat.le_of_ble_eq_true rfl)⟩ dX11_rule_2) (fun H locs hH => ?_)
  refine lv_astoreN (lv' := [(6, .null), (0, .ref x), (1, .int sx), (2, .int r), (3, .int n), (4, .int m_), (5, .int wh)]) hx hb dX11_rule_5 hl (by decide) rfl (fun ls hl => ?_)
  refine lv_aload_n hx hb dX11_rule_7 rfl (lv_at hl 1 rfl) ?_
  refine lv_iload_n hx hb dX11_rule_8 rfl (lv_at hl 3 rfl) ?_
  refine fx_go1 hH (fx_runV C hH hl.1 (As := [.int r]) (rest := []) (c_X11_rowAt_n (G := G) (base := base) (l := l) (f := f) (sz := sz) (x := x) (r := r) (ra := ra) (tp := tp) (tc := tc) (ro := ro) (tr := tr) (ia := ia) (aa := aa) (oa := oa) (ak := ak) (fa := fa) (fi := fi) h_x hr0) mY_X11_rowAt ml_X11_52 im_X11_rowAt se_X11_X11_rowAt h_x rfl rfl ⟨(Nat.le_of_ble_eq_true rfl), (Nat.le_of_ble_eq_true rfl)⟩ rfl (Nat.le_of_ble_eq_true rfl) ⟨(Nat.le_of_ble_eq_true rfl), (Nat.le_of_ble_eq_true rfl)⟩ dX11_rule_9) (fun H locs hH => ?_)
  refine lv_astoreN (lv' := [(7, .null), (6, .null), (0, .ref x), (1, .int sx), (2, .int r), (3, .int n), (4, .int m_), (5, .int wh)]) hx hb dX11_rule_12 hl (by decide) rfl (fun ls hl => ?_)
  refine lv_aloadN hx hb dX11_rule_14 (lv_at hl 1 rfl) ?_
  refine lv_ifnullN (tgt := 55) hx hb dX11_rule_16 (by decide) ?_
  refine lv_ldc2 (v := (-1000001)) hx hb C.2.2.2.1 (C.2.2.2.2.1 _ kL_X11_219 rfl args) dX11_rule_55 ?_
  exact fx_lretP C hr hk hH (K1 ) (Nat.zero_le _) (Nat.zero_le _) dX11_rule_58
set_option maxHeartbeats 4000000 in
set_option maxRecDepth 100000 in
theorem c_X11_rule_nk {G : GG} {base : Nat} {l : Launch} {f : Hp} {sz : Nat} {Po : Option Value → Hp → Nat → Prop} {x : Nat} {sx : Int32} {kk : Nat} {n : Int32} {m_ : Int32} {wh : Int32} {ra : Nat} {tp : Nat} {tc : Nat} {ro : Nat} {tr : Nat} {ia : Nat} {aa : Nat} {oa : Int32} {ak : Int32} {fa : Int32} {fi : Int32} {k : Nat} {w : Nat} {pl : Nat} {wy : Int32} {se : Int32} {to : Nat} {lf : Nat} {ta : Int32} {wt : Nat} {ch : Nat} {sk : Nat} {P : Nat} {st : Nat} {ov : Int32} {mi : Nat} {ri : Nat} {tl : Nat} {gr : Nat → Option Nat} {rr : Nat} {ri_ : Nat} {ms : Int32} {la : Int32} {sn : Nat} {g : Nat → Int32} (h_x : f x = some (oO 10 [.ref ra, .ref tp, .ref tc, .ref ro, .ref tr, .ref ia, .ref aa, .int oa, .int ak, .int fa, .int fi])) (h_ro : f ro = some (oO 4 [.ref k, .ref w, .int (nI pl), .int wy, .int se, .int (nI to), .int (nI lf), .int ta])) (h_w : f w = some (oO 2 [.ref wt, .ref ch, .ref sk, .int (nI P), .int (nI st), .int ov, .int (nI mi), .int (nI ri), .int (nI tl)])) (h_ra : f ra = some (oR 4 8 gr)) (h_rr : f rr = some (oO 6 [.ref ri_, .int ms, .int la, .int (nI sn)])) (h_ri_ : f ri_ = some (oI 40 g)) (hs0 : ¬ (¬ sx < nI 0 ∧ ¬ (nI tl - nI 1) < sx)) (hkk : kk < 8) (hg : gr kk = some rr) (hsn : sn ≤ 40) (K1 : Po (some (.long (-1000001))) f sz) : fx_MP G base l yX11_rule cX11_rule 10 (some .long) rm_X11_rule [.ref x, .int sx, .int (nI kk), .int n, .int m_, .int wh] f sz Po := by
  refine fx_ofP (by decide +kernel) (Nat.le_of_ble_eq_true rfl) ?_
  intro p e s m args below meth c C hr hk hnm hH ls hl
  obtain ⟨locs, hlocs⟩ : ∃ L : List Loc, L = [] := ⟨_, rfl⟩
  rw [← hlocs] at hH ⊢
  generalize s.heap = H at hH ⊢
  have hx := C.1
  have hb := C.2.1
  have hl : lv_has ls 10 [(0, .ref x), (1, .int sx), (2, .int (nI kk)), (3, .int n), (4, .int m_), (5, .int wh)] := hl
  refine lv_aload_n hx hb dX11_rule_0 rfl (lv_at hl 0 rfl) ?_
  refine lv_iload_n hx hb dX11_rule_1 rfl (lv_at hl 1 rfl) ?_
  refine fx_go1 hH (fx_runV C hH hl.1 (As := [.int sx]) (rest := []) (c_X11_seekerAt_n (G := G) (base := base) (l := l) (f := f) (sz := sz) (x := x) (sx := sx) (ra := ra) (tp := tp) (tc := tc) (ro := ro) (tr := tr) (ia := ia) (aa := aa) (oa := oa) (ak := ak) (fa := fa) (fi := fi) (k := k) (w := w) (pl := nI pl) (wy := wy) (se := se) (to := nI to) (lf := nI lf) (ta := ta) (wt := wt) (ch := ch) (sk := sk) (P := P) (st := nI st) (ov := ov) (mi := nI mi) (ri := nI ri) (tl := tl) h_x h_ro h_w hs0) mY_X11_seekerAt ml_X11_141 im_X11_seekerAt se_X11_X11_seekerAt h_x rfl rfl ⟨(Nat.le_of_ble_eq_true rfl), (Nat.le_of_ble_eq_true rfl)⟩ rfl (Nat.le_of_ble_eq_true rfl) ⟨(Nat.le_of_ble_eq_true rfl), (Nat.le_of_ble_eq_true rfl)⟩ dX11_rule_2) (fun H locs hH => ?_)
  refine lv_astoreN (lv' := [(6, .null), (0, .ref x), (1, .int sx), (2, .int (nI kk)), (3, .int n), (4, .int m_), (5, .int wh)]) hx hb dX11_rule_5 hl (by decide) rfl (fun ls hl => ?_)
  refine lv_aload_n hx hb dX11_rule_7 rfl (lv_at hl 1 rfl) ?_
  refine lv_iload_n hx hb dX11_rule_8 rfl (lv_at hl 3 rfl) ?_
  refine fx_go1 hH (fx_runV C hH hl.1 (As := [.int (nI kk)]) (rest := []) (c_X11_rowAt_k (G := G) (base := base) (l := l) (f := f) (sz := sz) (rr := rr) (x := x) (kk := kk) (ra := ra) (tp := tp) (tc := tc) (ro := ro) (tr := tr) (ia := ia) (aa := aa) (oa := oa) (ak := ak) (fa := fa) (fi := fi) (gr := gr) h_x h_ra (by omega) hg) mY_X11_rowAt ml_X11_52 im_X11_rowAt se_X11_X11_rowAt h_x rfl rfl ⟨(Nat.le_of_ble_eq_true rfl), (Nat.le_of_ble_eq_true rfl)⟩ rfl (Nat.le_of_ble_eq_true rfl) ⟨(Nat.le_of_ble_eq_true rfl), (Nat.le_of_ble_eq_true rfl)⟩ dX11_rule_9) (fun H locs hH => ?_)
  refine lv_astore (lv' := [(7, .ref rr), (6, .null), (0, .ref x), (1, .int sx), (2, .int (nI kk)), (3, .int n), (4, .int m_), (5, .int wh)]) hx hb dX11_rule_12 hl (by decide) rfl (fun ls hl => ?_)
  refine lv_aloadN hx hb dX11_rule_14 (lv_at hl 1 rfl) ?_
  refine lv_ifnullN (tgt := 55) hx hb dX11_rule_16 (by decide) ?_
  refine lv_ldc2 (v := (-1000001)) hx hb C.2.2.2.1 (C.2.2.2.2.1 _ kL_X11_219 rfl args) dX11_rule_55 ?_
  exact fx_lretP C hr hk hH (K1 ) (Nat.zero_le _) (Nat.zero_le _) dX11_rule_58
set_option maxHeartbeats 4000000 in
set_option maxRecDepth 100000 in
theorem c_X11_rule_kn {G : GG} {base : Nat} {l : Launch} {f : Hp} {sz : Nat} {Po : Option Value → Hp → Nat → Prop} {x : Nat} {j : Nat} {r : Int32} {n : Int32} {m_ : Int32} {wh : Int32} {ra : Nat} {tp : Nat} {tc : Nat} {ro : Nat} {tr : Nat} {ia : Nat} {aa : Nat} {oa : Int32} {ak : Int32} {fa : Int32} {fi : Int32} {k : Nat} {w : Nat} {pl : Nat} {wy : Int32} {se : Int32} {to : Nat} {lf : Nat} {ta : Int32} {wt : Nat} {ch : Nat} {sk : Nat} {P : Nat} {st : Nat} {ov : Int32} {mi : Nat} {ri : Nat} {tl : Nat} {gs : Nat → Option Nat} {o : Nat} {K : Nat} {nn : Int32} {wi : Nat} {ag : Nat} (h_x : f x = some (oO 10 [.ref ra, .ref tp, .ref tc, .ref ro, .ref tr, .ref ia, .ref aa, .int oa, .int ak, .int fa, .int fi])) (h_ro : f ro = some (oO 4 [.ref k, .ref w, .int (nI pl), .int wy, .int se, .int (nI to), .int (nI lf), .int ta])) (h_w : f w = some (oO 2 [.ref wt, .ref ch, .ref sk, .int (nI P), .int (nI st), .int ov, .int (nI mi), .int (nI ri), .int (nI tl)])) (h_sk : f sk = some (oR 5 4 gs)) (h_o : f o = some (skC K nn (nI wi) (nI ag))) (hj : j < tl) (htl : tl ≤ 4) (hgo : gs j = some o) (hK : 1 ≤ K ∧ K ≤ 5) (hwi : wi ≤ 10) (hag : ag ≤ 10) (hP : 4 ≤ P ∧ P ≤ 12) (hr0 : ¬ (¬ r < nI 0 ∧ ¬ nI 7 < r)) (K1 : Po (some (.long (-1000001))) f sz) : fx_MP G base l yX11_rule cX11_rule 10 (some .long) rm_X11_rule [.ref x, .int (nI j), .int r, .int n, .int m_, .int wh] f sz Po := by
  refine fx_ofP (by decide +kernel) (Nat.le_of_ble_eq_true rfl) ?_
  intro p e s m args below meth c C hr hk hnm hH ls hl
  obtain ⟨locs, hlocs⟩ : ∃ L : List Loc, L = [] := ⟨_, rfl⟩
  rw [← hlocs] at hH ⊢
  generalize s.heap = H at hH ⊢
  have hx := C.1
  have hb := C.2.1
  have hl : lv_has ls 10 [(0, .ref x), (1, .int (nI j)), (2, .int r), (3, .int n), (4, .int m_), (5, .int wh)] := hl
  refine lv_aload_n hx hb dX11_rule_0 rfl (lv_at hl 0 rfl) ?_
  refine lv_iload_n hx hb dX11_rule_1 rfl (lv_at hl 1 rfl) ?_
  refine fx_go1 hH (fx_runV C hH hl.1 (As := [.int (nI j)]) (rest := []) (c_X11_seekerAt_k (G := G) (base := base) (l := l) (f := f) (sz := sz) (o := o) (x := x) (j := j) (ra := ra) (tp := tp) (tc := tc) (ro := ro) (tr := tr) (ia := ia) (aa := aa) (oa := oa) (ak := ak) (fa := fa) (fi := fi) (k := k) (w := w) (pl := nI pl) (wy := wy) (se := se) (to := nI to) (lf := nI lf) (ta := ta) (wt := wt) (ch := ch) (sk := sk) (P := P) (st := nI st) (ov := ov) (mi := nI mi) (ri := nI ri) (tl := tl) (gs := gs) h_x h_ro h_w h_sk (by omega) (by omega) hgo) mY_X11_seekerAt ml_X11_141 im_X11_seekerAt se_X11_X11_seekerAt h_x rfl rfl ⟨(Nat.le_of_ble_eq_true rfl), (Nat.le_of_ble_eq_true rfl)⟩ rfl (Nat.le_of_ble_eq_true rfl) ⟨(Nat.le_of_ble_eq_true rfl), (Nat.le_of_ble_eq_true rfl)⟩ dX11_rule_2) (fun H locs hH => ?_)
  refine lv_astore (lv' := [(6, .ref o), (0, .ref x), (1, .int (nI j)), (2, .int r), (3, .int n), (4, .int m_), (5, .int wh)]) hx hb dX11_rule_5 hl (by decide) rfl (fun ls hl => ?_)
  refine lv_aload_n hx hb dX11_rule_7 rfl (lv_at hl 1 rfl) ?_
  refine lv_iload_n hx hb dX11_rule_8 rfl (lv_at hl 3 rfl) ?_
  refine fx_go1 hH (fx_runV C hH hl.1 (As := [.int r]) (rest := []) (c_X11_rowAt_n (G := G) (base := base) (l := l) (f := f) (sz := sz) (x := x) (r := r) (ra := ra) (tp := tp) (tc := tc) (ro := ro) (tr := tr) (ia := ia) (aa := aa) (oa := oa) (ak := ak) (fa := fa) (fi := fi) h_x hr0) mY_X11_rowAt ml_X11_52 im_X11_rowAt se_X11_X11_rowAt h_x rfl rfl ⟨(Nat.le_of_ble_eq_true rfl), (Nat.le_of_ble_eq_true rfl)⟩ rfl (Nat.le_of_ble_eq_true rfl) ⟨(Nat.le_of_ble_eq_true rfl), (Nat.le_of_ble_eq_true rfl)⟩ dX11_rule_9) (fun H locs hH => ?_)
  refine lv_astoreN (lv' := [(7, .null), (6, .ref o), (0, .ref x), (1, .int (nI j)), (2, .int r), (3, .int n), (4, .int m_), (5, .int wh)]) hx hb dX11_rule_12 hl (by decide) rfl (fun ls hl => ?_)
  refine lv_aload hx hb dX11_rule_14 (lv_at hl 1 rfl) ?_
  refine lv_ifnull hx hb dX11_rule_16 ?_
  refine lv_aloadN hx hb dX11_rule_19 (lv_at hl 0 rfl) ?_
  refine lv_ifnullN (tgt := 55) hx hb dX11_rule_21 (by decide) ?_
  refine lv_ldc2 (v := (-1000001)) hx hb C.2.2.2.1 (C.2.2.2.2.1 _ kL_X11_219 rfl args) dX11_rule_55 ?_
  exact fx_lretP C hr hk hH (K1 ) (Nat.zero_le _) (Nat.zero_le _) dX11_rule_58
set_option maxHeartbeats 4000000 in
set_option maxRecDepth 100000 in
theorem c_X11_rule_kk {G : GG} {base : Nat} {l : Launch} {f : Hp} {sz : Nat} {Po : Option Value → Hp → Nat → Prop} {v : Nat → Nat} {tw : (Nat → Nat) → Nat → Nat → Nat} {x : Nat} {j : Nat} {kk : Nat} {n : Int32} {m_ : Int32} {wh : Int32} {ra : Nat} {tp : Nat} {tc : Nat} {ro : Nat} {tr : Nat} {ia : Nat} {aa : Nat} {oa : Int32} {ak : Int32} {fa : Int32} {fi : Int32} {k : Nat} {w : Nat} {pl : Nat} {wy : Int32} {se : Int32} {to : Nat} {lf : Nat} {ta : Int32} {wt : Nat} {ch : Nat} {sk : Nat} {P : Nat} {st : Nat} {ov : Int32} {mi : Nat} {ri : Nat} {tl : Nat} {gs : Nat → Option Nat} {o : Nat} {K : Nat} {nn : Int32} {wi : Nat} {ag : Nat} {q : Nat → Int64} {k2 : Nat} {w2 : Nat} {pl2 : Int32} {wy2 : Int32} {se2 : Int32} {to2 : Int32} {lf2 : Int32} {ta2 : Int32} {q2 : Nat → Int64} {gr : Nat → Option Nat} {rr : Nat} {ri_ : Nat} {ms : Int32} {la : Int32} {sn : Nat} {g : Nat → Int32} (h_x : f x = some (oO 10 [.ref ra, .ref tp, .ref tc, .ref ro, .ref tr, .ref ia, .ref aa, .int oa, .int ak, .int fa, .int fi])) (h_ro : f ro = some (oO 4 [.ref k, .ref w, .int (nI pl), .int wy, .int se, .int (nI to), .int (nI lf), .int ta])) (h_w : f w = some (oO 2 [.ref wt, .ref ch, .ref sk, .int (nI P), .int (nI st), .int ov, .int (nI mi), .int (nI ri), .int (nI tl)])) (h_sk : f sk = some (oR 5 4 gs)) (h_o : f o = some (skC K nn (nI wi) (nI ag))) (h_k : f k = some (oJ 13 q)) (h_tr : f tr = some (oO 4 [.ref k2, .ref w2, .int pl2, .int wy2, .int se2, .int to2, .int lf2, .int ta2])) (h_k2 : f k2 = some (oJ 13 q2)) (h_ra : f ra = some (oR 4 8 gr)) (h_rr : f rr = some (oO 6 [.ref ri_, .int ms, .int la, .int (nI sn)])) (h_ri_ : f ri_ = some (oI 40 g)) (hne_0 : ro ≠ tr) (hne_1 : k ≠ k2) (hj : j < tl) (htl : tl ≤ 4) (hgo : gs j = some o) (hK : 1 ≤ K ∧ K ≤ 5) (hwi : wi ≤ 10) (hag : ag ≤ 10) (hP : 4 ≤ P ∧ P ≤ 12) (hkk : kk < 8) (hg : gr kk = some rr) (hsn : sn ≤ 40) (hv : ∀ i, i ≤ P → q i = lN (v i)) (hs1 : 0 < sN v (P + 1)) (hs2 : sN v (P + 1) ≤ 117 * 10 ^ 10) (hpl : pl < P) (hwy2 : wy = nI 1 ∨ wy = -1) (htw : ∀ wd nz mz, mz ≤ 6 → sJ (qW (cpJ q q2) P pl wy wd nz K wi ag mz) (P + 1) = lN (tw wd nz mz) ∧ tw wd nz mz ≤ sN v (P + 1) * 10 ^ mz) (K1 : ∀ (c31 : ¬ (¬ n < (nI 1) ∧ ¬ (nI 8) < n)), Po (some (.long (-1000001))) f sz)
    (K2 : ∀ (c31 : (¬ n < (nI 1) ∧ ¬ (nI 8) < n)), ∀ (c42 : ¬ (¬ m_ < (nI 1) ∧ ¬ (nI 6) < m_)), Po (some (.long (-1000001))) f sz)
    (K3 : ∀ (c31 : (¬ n < (nI 1) ∧ ¬ (nI 8) < n)), ∀ (c42 : (¬ m_ < (nI 1) ∧ ¬ (nI 6) < m_)), ∀ (c52 : (¬ wh < (nI 0) ∧ ¬ (nI 2) < wh)), ∀ (c64 : ms = (0 : Int32)), ∀ (c81 : (¬ (nI 0) < 0 ∧ ¬ n < 0 ∧ ¬ (nI sn).toInt64 < (nI 0).toInt64 + n.toInt64)), ∀ (nz : Nat), ∀ (hnz : 1 ≤ nz ∧ nz ≤ 8), ∀ (mz : Nat), ∀ (hmz : 1 ≤ mz ∧ mz ≤ 6), ∀ (wz : Nat), ∀ (hwz : wz ≤ 2), ∀ (hns : nz ≤ sn), ∀ (enz : n = nI nz), ∀ (emz : m_ = nI mz), ∀ (ewz : wh = nI wz), ∀ (c99 : (∀ j, j < nz → ¬ g (0 + j) < nI 0 ∧ ¬ nI 3 < g (0 + j))), ∀ (c125 : ¬ wz = 2), Po (some (.long (lN ((if wz = 0 then (((sN v (P + 1)) * (10 ^ mz)) - (tw (fun z => (g z).toNatClampNeg) nz mz)) else ((sN v (P + 1)) * (10 ^ mz))) / Nat.gcd (((sN v (P + 1)) * (10 ^ mz)) - (tw (fun z => (g z).toNatClampNeg) nz mz)) ((sN v (P + 1)) * (10 ^ mz)))))) (fx_up (fx_up (fx_up f x (oO 10 [.ref ra, .ref tp, .ref tc, .ref ro, .ref tr, .ref ia, .ref aa, .int oa, .int ak, .int fa, .int (nI 0)])) tr (oO 4 [.ref k2, .ref w, .int (nI ((nwS P pl wy (fun z => (g z).toNatClampNeg) nz (mz - 1)).1)), .int ((nwS P pl wy (fun z => (g z).toNatClampNeg) nz (mz - 1)).2), .int (scS st ov se (fun z => (g z).toNatClampNeg) nz mz), .int (nI to), .int (nI lf), .int ta])) k2 (oJ 13 (qW (cpJ q q2) P pl wy (fun z => (g z).toNatClampNeg) nz K wi ag mz))) sz)
    (K4 : ∀ (c31 : (¬ n < (nI 1) ∧ ¬ (nI 8) < n)), ∀ (c42 : (¬ m_ < (nI 1) ∧ ¬ (nI 6) < m_)), ∀ (c52 : (¬ wh < (nI 0) ∧ ¬ (nI 2) < wh)), ∀ (c64 : ms = (0 : Int32)), ∀ (c81 : (¬ (nI 0) < 0 ∧ ¬ n < 0 ∧ ¬ (nI sn).toInt64 < (nI 0).toInt64 + n.toInt64)), ∀ (nz : Nat), ∀ (hnz : 1 ≤ nz ∧ nz ≤ 8), ∀ (mz : Nat), ∀ (hmz : 1 ≤ mz ∧ mz ≤ 6), ∀ (wz : Nat), ∀ (hwz : wz ≤ 2), ∀ (hns : nz ≤ sn), ∀ (enz : n = nI nz), ∀ (emz : m_ = nI mz), ∀ (ewz : wh = nI wz), ∀ (c99 : (∀ j, j < nz → ¬ g (0 + j) < nI 0 ∧ ¬ nI 3 < g (0 + j))), ∀ (c125 : wz = 2), Po (some (.long (((scS st ov se (fun z => (g z).toNatClampNeg) nz mz) - se).toInt64))) (fx_up (fx_up (fx_up f x (oO 10 [.ref ra, .ref tp, .ref tc, .ref ro, .ref tr, .ref ia, .ref aa, .int oa, .int ak, .int fa, .int (nI 0)])) tr (oO 4 [.ref k2, .ref w, .int (nI ((nwS P pl wy (fun z => (g z).toNatClampNeg) nz (mz - 1)).1)), .int ((nwS P pl wy (fun z => (g z).toNatClampNeg) nz (mz - 1)).2), .int (scS st ov se (fun z => (g z).toNatClampNeg) nz mz), .int (nI to), .int (nI lf), .int ta])) k2 (oJ 13 (qW (cpJ q q2) P pl wy (fun z => (g z).toNatClampNeg) nz K wi ag mz))) sz)
    (K5 : ∀ (c31 : (¬ n < (nI 1) ∧ ¬ (nI 8) < n)), ∀ (c42 : (¬ m_ < (nI 1) ∧ ¬ (nI 6) < m_)), ∀ (c52 : (¬ wh < (nI 0) ∧ ¬ (nI 2) < wh)), ∀ (c64 : ms = (0 : Int32)), ∀ (c81 : (¬ (nI 0) < 0 ∧ ¬ n < 0 ∧ ¬ (nI sn).toInt64 < (nI 0).toInt64 + n.toInt64)), ∀ (nz : Nat), ∀ (hnz : 1 ≤ nz ∧ nz ≤ 8), ∀ (mz : Nat), ∀ (hmz : 1 ≤ mz ∧ mz ≤ 6), ∀ (wz : Nat), ∀ (hwz : wz ≤ 2), ∀ (hns : nz ≤ sn), ∀ (enz : n = nI nz), ∀ (emz : m_ = nI mz), ∀ (ewz : wh = nI wz), ∀ (c99 : ¬ (∀ j, j < nz → ¬ g (0 + j) < nI 0 ∧ ¬ nI 3 < g (0 + j))), Po (some (.long (-1000001))) f sz)
    (K6 : ∀ (c31 : (¬ n < (nI 1) ∧ ¬ (nI 8) < n)), ∀ (c42 : (¬ m_ < (nI 1) ∧ ¬ (nI 6) < m_)), ∀ (c52 : (¬ wh < (nI 0) ∧ ¬ (nI 2) < wh)), ∀ (c64 : ms = (0 : Int32)), ∀ (c81 : ¬ (¬ (nI 0) < 0 ∧ ¬ n < 0 ∧ ¬ (nI sn).toInt64 < (nI 0).toInt64 + n.toInt64)), Po (some (.long (((-1000010) - (nI 2)).toInt64))) (fx_up f x (oO 10 [.ref ra, .ref tp, .ref tc, .ref ro, .ref tr, .ref ia, .ref aa, .int oa, .int ak, .int fa, .int (nI 2)])) sz)
    (K7 : ∀ (c31 : (¬ n < (nI 1) ∧ ¬ (nI 8) < n)), ∀ (c42 : (¬ m_ < (nI 1) ∧ ¬ (nI 6) < m_)), ∀ (c52 : (¬ wh < (nI 0) ∧ ¬ (nI 2) < wh)), ∀ (c64 : ¬ ms = (0 : Int32)), Po (some (.long (((-1000010) - (nI 1)).toInt64))) (fx_up f x (oO 10 [.ref ra, .ref tp, .ref tc, .ref ro, .ref tr, .ref ia, .ref aa, .int oa, .int ak, .int fa, .int (nI 1)])) sz)
    (K8 : ∀ (c31 : (¬ n < (nI 1) ∧ ¬ (nI 8) < n)), ∀ (c42 : (¬ m_ < (nI 1) ∧ ¬ (nI 6) < m_)), ∀ (c52 : ¬ (¬ wh < (nI 0) ∧ ¬ (nI 2) < wh)), Po (some (.long (-1000001))) f sz) : fx_MP G base l yX11_rule cX11_rule 10 (some .long) rm_X11_rule [.ref x, .int (nI j), .int (nI kk), .int n, .int m_, .int wh] f sz Po := by
  refine fx_ofP (by decide +kernel) (Nat.le_of_ble_eq_true rfl) ?_
  intro p e s m args below meth c C hr hk hnm hH ls hl
  obtain ⟨locs, hlocs⟩ : ∃ L : List Loc, L = [] := ⟨_, rfl⟩
  rw [← hlocs] at hH ⊢
  generalize s.heap = H at hH ⊢
  have hx := C.1
  have hb := C.2.1
  have hl : lv_has ls 10 [(0, .ref x), (1, .int (nI j)), (2, .int (nI kk)), (3, .int n), (4, .int m_), (5, .int wh)] := hl
  refine lv_aload_n hx hb dX11_rule_0 rfl (lv_at hl 0 rfl) ?_
  refine lv_iload_n hx hb dX11_rule_1 rfl (lv_at hl 1 rfl) ?_
  refine fx_go1 hH (fx_runV C hH hl.1 (As := [.int (nI j)]) (rest := []) (c_X11_seekerAt_k (G := G) (base := base) (l := l) (f := f) (sz := sz) (o := o) (x := x) (j := j) (ra := ra) (tp := tp) (tc := tc) (ro := ro) (tr := tr) (ia := ia) (aa := aa) (oa := oa) (ak := ak) (fa := fa) (fi := fi) (k := k) (w := w) (pl := nI pl) (wy := wy) (se := se) (to := nI to) (lf := nI lf) (ta := ta) (wt := wt) (ch := ch) (sk := sk) (P := P) (st := nI st) (ov := ov) (mi := nI mi) (ri := nI ri) (tl := tl) (gs := gs) h_x h_ro h_w h_sk (by omega) (by omega) hgo) mY_X11_seekerAt ml_X11_141 im_X11_seekerAt se_X11_X11_seekerAt h_x rfl rfl ⟨(Nat.le_of_ble_eq_true rfl), (Nat.le_of_ble_eq_true rfl)⟩ rfl (Nat.le_of_ble_eq_true rfl) ⟨(Nat.le_of_ble_eq_true rfl), (Nat.le_of_ble_eq_true rfl)⟩ dX11_rule_2) (fun H locs hH => ?_)
  refine lv_astore (lv' := [(6, .ref o), (0, .ref x), (1, .int (nI j)), (2, .int (nI kk)), (3, .int n), (4, .int m_), (5, .int wh)]) hx hb dX11_rule_5 hl (by decide) rfl (fun ls hl => ?_)
  refine lv_aload_n hx hb dX11_rule_7 rfl (lv_at hl 1 rfl) ?_
  refine lv_iload_n hx hb dX11_rule_8 rfl (lv_at hl 3 rfl) ?_
  refine fx_go1 hH (fx_runV C hH hl.1 (As := [.int (nI kk)]) (rest := []) (c_X11_rowAt_k (G := G) (base := base) (l := l) (f := f) (sz := sz) (rr := rr) (x := x) (kk := kk) (ra := ra) (tp := tp) (tc := tc) (ro := ro) (tr := tr) (ia := ia) (aa := aa) (oa := oa) (ak := ak) (fa := fa) (fi := fi) (gr := gr) h_x h_ra (by omega) hg) mY_X11_rowAt ml_X11_52 im_X11_rowAt se_X11_X11_rowAt h_x rfl rfl ⟨(Nat.le_of_ble_eq_true rfl), (Nat.le_of_ble_eq_true rfl)⟩ rfl (Nat.le_of_ble_eq_true rfl) ⟨(Nat.le_of_ble_eq_true rfl), (Nat.le_of_ble_eq_true rfl)⟩ dX11_rule_9) (fun H locs hH => ?_)
  refine lv_astore (lv' := [(7, .ref rr), (6, .ref o), (0, .ref x), (1, .int (nI j)), (2, .int (nI kk)), (3, .int n), (4, .int m_), (5, .int wh)]) hx hb dX11_rule_12 hl (by decide) rfl (fun ls hl => ?_)
  refine lv_aload hx hb dX11_rule_14 (lv_at hl 1 rfl) ?_
  refine lv_ifnull hx hb dX11_rule_16 ?_
  refine lv_aload hx hb dX11_rule_19 (lv_at hl 0 rfl) ?_
  refine lv_ifnull hx hb dX11_rule_21 ?_
  refine lv_iload_n hx hb dX11_rule_24 rfl (lv_at hl 5 rfl) ?_
  refine lv_iconst (v := nI 1) hx hb dX11_rule_25 (by decide) ?_
  refine lv_bipush (v := nI 8) hx hb dX11_rule_26 (by decide) ?_
  refine fx_go1 hH (fx_runS C hH hl.1 (As := [.int n, .int (nI 1), .int (nI 8)]) (rest := []) (c_X11_within (G := G) (base := base) (l := l) (f := f) (sz := sz) (n := n) (lo := nI 1) (hi := nI 8) ) mY_X11_within ml_X11_56 st_X11_within rfl ⟨(Nat.le_of_ble_eq_true rfl), (Nat.le_of_ble_eq_true rfl)⟩ rfl (Nat.le_of_ble_eq_true rfl) ⟨(Nat.le_of_ble_eq_true rfl), (Nat.le_of_ble_eq_true rfl)⟩ dX11_rule_28) (fun H locs hH => ?_)
  refine fx_b_eq hx hb (tgt := 55) dX11_rule_31 (by decide) (fun c31 => ?_) (fun c31 => ?_)
  · refine lv_ldc2 (v := (-1000001)) hx hb C.2.2.2.1 (C.2.2.2.2.1 _ kL_X11_219 rfl args) dX11_rule_55 ?_
    exact fx_lretP C hr hk hH (K1 c31) (Nat.zero_le _) (Nat.zero_le _) dX11_rule_58
  · refine lv_iload hx hb dX11_rule_34 (lv_at hl 6 rfl) ?_
    refine lv_iconst (v := nI 1) hx hb dX11_rule_36 (by decide) ?_
    refine lv_bipush (v := nI 6) hx hb dX11_rule_37 (by decide) ?_
    refine fx_go1 hH (fx_runS C hH hl.1 (As := [.int m_, .int (nI 1), .int (nI 6)]) (rest := []) (c_X11_within (G := G) (base := base) (l := l) (f := f) (sz := sz) (n := m_) (lo := nI 1) (hi := nI 6) ) mY_X11_within ml_X11_56 st_X11_within rfl ⟨(Nat.le_of_ble_eq_true rfl), (Nat.le_of_ble_eq_true rfl)⟩ rfl (Nat.le_of_ble_eq_true rfl) ⟨(Nat.le_of_ble_eq_true rfl), (Nat.le_of_ble_eq_true rfl)⟩ dX11_rule_39) (fun H locs hH => ?_)
    refine fx_b_eq hx hb (tgt := 55) dX11_rule_42 (by decide) (fun c42 => ?_) (fun c42 => ?_)
    · refine lv_ldc2 (v := (-1000001)) hx hb C.2.2.2.1 (C.2.2.2.2.1 _ kL_X11_219 rfl args) dX11_rule_55 ?_
      exact fx_lretP C hr hk hH (K2 c31 c42) (Nat.zero_le _) (Nat.zero_le _) dX11_rule_58
    · refine lv_iload hx hb dX11_rule_45 (lv_at hl 7 rfl) ?_
      refine lv_iconst (v := nI 0) hx hb dX11_rule_47 (by decide) ?_
      refine lv_iconst (v := nI 2) hx hb dX11_rule_48 (by decide) ?_
      refine fx_go1 hH (fx_runS C hH hl.1 (As := [.int wh, .int (nI 0), .int (nI 2)]) (rest := []) (c_X11_within (G := G) (base := base) (l := l) (f := f) (sz := sz) (n := wh) (lo := nI 0) (hi := nI 2) ) mY_X11_within ml_X11_56 st_X11_within rfl ⟨(Nat.le_of_ble_eq_true rfl), (Nat.le_of_ble_eq_true rfl)⟩ rfl (Nat.le_of_ble_eq_true rfl) ⟨(Nat.le_of_ble_eq_true rfl), (Nat.le_of_ble_eq_true rfl)⟩ dX11_rule_49) (fun H locs hH => ?_)
      refine fx_b_ne hx hb (tgt := 59) dX11_rule_52 (by decide) (fun c52 => ?_) (fun c52 => ?_)
      · refine lv_aload hx hb dX11_rule_59 (lv_at hl 0 rfl) ?_
        refine fx_get C hH (k := 1) (v := .int ms) h_rr ff_X11_72_6 rfl dX11_rule_61 ?_
        refine lv_if_eq hx hb (tgt := 74) dX11_rule_64 (by decide) (fun c64 => ?_) (fun c64 => ?_)
        · refine lv_aload hx hb dX11_rule_74 (lv_at hl 0 rfl) ?_
          refine lv_iconst (v := nI 0) hx hb dX11_rule_76 (by decide) ?_
          refine lv_iload_n hx hb dX11_rule_77 rfl (lv_at hl 5 rfl) ?_
          refine fx_go1 hH (fx_runV C hH hl.1 (As := [.int (nI 0), .int n]) (rest := []) (c_X6_holds (G := G) (base := base) (l := l) (f := f) (sz := sz) (r := rr) (i := nI 0) (n := n) (it := ri_) (mi := ms) (la := la) (si := nI sn) h_rr) mY_X6_holds ml_X11_76 im_X6_holds se_X6_X6_holds h_rr rfl rfl ⟨(Nat.le_of_ble_eq_true rfl), (Nat.le_of_ble_eq_true rfl)⟩ rfl (Nat.le_of_ble_eq_true rfl) ⟨(Nat.le_of_ble_eq_true rfl), (Nat.le_of_ble_eq_true rfl)⟩ dX11_rule_78) (fun H locs hH => ?_)
          refine fx_b_ne hx hb (tgt := 91) dX11_rule_81 (by decide) (fun c81 => ?_) (fun c81 => ?_)
          · obtain ⟨nz, hnz1, hnz2, rfl⟩ := rng1 (M := 1) (N := 8) (by omega) (by omega) c31
            obtain ⟨mz, hmz1, hmz2, rfl⟩ := rng1 (M := 1) (N := 6) (by omega) (by omega) c42
            obtain ⟨wz, hwz, rfl⟩ := rng (N := 2) (by omega) c52.1 c52.2
            have hns : nz ≤ sn := by
              obtain ⟨a9, b9, h9, e9, e8⟩ := hld (by omega) c81
              have := congrArg Int32.toInt e8
              rw [nI_toInt (by omega), nI_toInt (by omega)] at this
              omega
            have hnz : 1 ≤ nz ∧ nz ≤ 8 := ⟨hnz1, hnz2⟩
            have hmz : 1 ≤ mz ∧ mz ≤ 6 := ⟨hmz1, hmz2⟩
            · skip
              refine lv_aload hx hb dX11_rule_91 (lv_at hl 0 rfl) ?_
              refine lv_iconst (v := nI 0) hx hb dX11_rule_93 (by decide) ?_
              refine lv_iload_n hx hb dX11_rule_94 rfl (lv_at hl 5 rfl) ?_
              refine lv_iconst (v := nI 3) hx hb dX11_rule_95 (by decide) ?_
              refine fx_go1 hH (fx_runV C hH hl.1 (As := [.int (nI 0), .int (nI nz), .int (nI 3)]) (rest := []) (c_X6_areUpTo (G := G) (base := base) (l := l) (f := f) (sz := sz) (r := rr) (i := 0) (n := nz) (mo := 3) (it := ri_) (mi := ms) (la := la) (si := nI sn) (g := g) h_rr h_ri_ (by omega)) mY_X6_areUpTo ml_X11_255 im_X6_areUpTo se_X6_X6_areUpTo h_rr rfl rfl ⟨(Nat.le_of_ble_eq_true rfl), (Nat.le_of_ble_eq_true rfl)⟩ rfl (Nat.le_of_ble_eq_true rfl) ⟨(Nat.le_of_ble_eq_true rfl), (Nat.le_of_ble_eq_true rfl)⟩ dX11_rule_96) (fun H locs hH => ?_)
              refine fx_b_ne hx hb (tgt := 106) dX11_rule_99 (by decide) (fun c99 => ?_) (fun c99 => ?_)
              · refine lv_aload_n hx hb dX11_rule_106 rfl (lv_at hl 2 rfl) ?_
                refine lv_iconst (v := nI 0) hx hb dX11_rule_107 (by decide) ?_
                refine fx_putT C hH (k := 10) h_x ff_X11_265_10 fL_10 fT_10_10 rfl rfl (Nat.le_of_ble_eq_true rfl) dX11_rule_108 (fun H locs hH => ?_)
                have hH : fx_H G base s (fx_up f x (oO 10 [.ref ra, .ref tp, .ref tc, .ref ro, .ref tr, .ref ia, .ref aa, .int oa, .int ak, .int fa, .int (nI 0)])) sz H locs := hH
                have h1_ro : (fx_up f x (oO 10 [.ref ra, .ref tp, .ref tc, .ref ro, .ref tr, .ref ia, .ref aa, .int oa, .int ak, .int fa, .int (nI 0)])) ro = some (oO 4 [.ref k, .ref w, .int (nI pl), .int wy, .int se, .int (nI to), .int (nI lf), .int ta]) := (fx_up_n _ _ (fx_ne h_ro h_x rfl)).trans h_ro
                have h1_w : (fx_up f x (oO 10 [.ref ra, .ref tp, .ref tc, .ref ro, .ref tr, .ref ia, .ref aa, .int oa, .int ak, .int fa, .int (nI 0)])) w = some (oO 2 [.ref wt, .ref ch, .ref sk, .int (nI P), .int (nI st), .int ov, .int (nI mi), .int (nI ri), .int (nI tl)]) := (fx_up_n _ _ (fx_ne h_w h_x rfl)).trans h_w
                have h1_sk : (fx_up f x (oO 10 [.ref ra, .ref tp, .ref tc, .ref ro, .ref tr, .ref ia, .ref aa, .int oa, .int ak, .int fa, .int (nI 0)])) sk = some (oR 5 4 gs) := (fx_up_n _ _ (fx_ne h_sk h_x rfl)).trans h_sk
                have h1_o : (fx_up f x (oO 10 [.ref ra, .ref tp, .ref tc, .ref ro, .ref tr, .ref ia, .ref aa, .int oa, .int ak, .int fa, .int (nI 0)])) o = some (skC K nn (nI wi) (nI ag)) := (fx_up_n _ _ (fx_neK h_o h_x rfl)).trans h_o
                have h1_k : (fx_up f x (oO 10 [.ref ra, .ref tp, .ref tc, .ref ro, .ref tr, .ref ia, .ref aa, .int oa, .int ak, .int fa, .int (nI 0)])) k = some (oJ 13 q) := (fx_up_n _ _ (fx_ne h_k h_x rfl)).trans h_k
                have h1_tr : (fx_up f x (oO 10 [.ref ra, .ref tp, .ref tc, .ref ro, .ref tr, .ref ia, .ref aa, .int oa, .int ak, .int fa, .int (nI 0)])) tr = some (oO 4 [.ref k2, .ref w2, .int pl2, .int wy2, .int se2, .int to2, .int lf2, .int ta2]) := (fx_up_n _ _ (fx_ne h_tr h_x rfl)).trans h_tr
                have h1_k2 : (fx_up f x (oO 10 [.ref ra, .ref tp, .ref tc, .ref ro, .ref tr, .ref ia, .ref aa, .int oa, .int ak, .int fa, .int (nI 0)])) k2 = some (oJ 13 q2) := (fx_up_n _ _ (fx_ne h_k2 h_x rfl)).trans h_k2
                have h1_ra : (fx_up f x (oO 10 [.ref ra, .ref tp, .ref tc, .ref ro, .ref tr, .ref ia, .ref aa, .int oa, .int ak, .int fa, .int (nI 0)])) ra = some (oR 4 8 gr) := (fx_up_n _ _ (fx_ne h_ra h_x rfl)).trans h_ra
                have h1_rr : (fx_up f x (oO 10 [.ref ra, .ref tp, .ref tc, .ref ro, .ref tr, .ref ia, .ref aa, .int oa, .int ak, .int fa, .int (nI 0)])) rr = some (oO 6 [.ref ri_, .int ms, .int la, .int (nI sn)]) := (fx_up_n _ _ (fx_ne h_rr h_x rfl)).trans h_rr
                have h1_ri_ : (fx_up f x (oO 10 [.ref ra, .ref tp, .ref tc, .ref ro, .ref tr, .ref ia, .ref aa, .int oa, .int ak, .int fa, .int (nI 0)])) ri_ = some (oI 40 g) := (fx_up_n _ _ (fx_ne h_ri_ h_x rfl)).trans h_ri_
                have h1_x : (fx_up f x (oO 10 [.ref ra, .ref tp, .ref tc, .ref ro, .ref tr, .ref ia, .ref aa, .int oa, .int ak, .int fa, .int (nI 0)])) x = some (oO 10 [.ref ra, .ref tp, .ref tc, .ref ro, .ref tr, .ref ia, .ref aa, .int oa, .int ak, .int fa, .int (nI 0)]) := fx_up_s _ _ _
                refine lv_aload_n hx hb dX11_rule_111 rfl (lv_at hl 2 rfl) ?_
                refine lv_aload hx hb dX11_rule_112 (lv_at hl 1 rfl) ?_
                refine lv_aload hx hb dX11_rule_114 (lv_at hl 0 rfl) ?_
                refine lv_iload_n hx hb dX11_rule_116 rfl (lv_at hl 5 rfl) ?_
                refine lv_iload hx hb dX11_rule_117 (lv_at hl 6 rfl) ?_
                have hwd : ∀ z, z < nz → g z = nI ((fun z => (g z).toNatClampNeg) z) ∧ (fun z => (g z).toNatClampNeg) z ≤ 3 := fun z hz => by
                  obtain ⟨kz, h8, h9⟩ := rng (N := 3) (by omega) (c99 z hz).1 (c99 z hz).2
                  rw [Nat.zero_add] at h9
                  show g z = nI ((g z).toNatClampNeg) ∧ (g z).toNatClampNeg ≤ 3
                  rw [h9, nI_clamp (by omega)]; exact ⟨rfl, h8⟩
                have htw9 := htw (fun z => (g z).toNatClampNeg) nz mz (by omega)
                have h10 : 10 ^ mz ≤ 10 ^ 6 := Nat.pow_le_pow_right (by omega) hmz.2
                have h10p : 0 < 10 ^ mz := Nat.pow_pos (by omega)
                have hbb : sN v (P + 1) * 10 ^ mz ≤ 117 * 10 ^ 10 * 10 ^ 6 := Nat.mul_le_mul hs2 h10
                have hbp : 0 < sN v (P + 1) * 10 ^ mz := Nat.mul_pos hs1 h10p
                refine fx_go0 hH (fx_runV C hH hl.1 (As := [.ref o, .ref rr, .int (nI nz), .int (nI mz)]) (rest := []) (c_X11_walkByWords (G := G) (base := base) (l := l) (f := fx_up f x (oO 10 [.ref ra, .ref tp, .ref tc, .ref ro, .ref tr, .ref ia, .ref aa, .int oa, .int ak, .int fa, .int (nI 0)])) (sz := sz) (wd := (fun z => (g z).toNatClampNeg)) (x := x) (o := o) (ww := rr) (n := nz) (mm := mz) (ra := ra) (tp := tp) (tc := tc) (ro := ro) (tr := tr) (ia := ia) (aa := aa) (oa := oa) (ak := ak) (fa := fa) (fi := nI 0) (k := k) (w := w) (pl := pl) (wy := wy) (se := se) (to := nI to) (lf := nI lf) (ta := ta) (k2 := k2) (w2 := w2) (pl2 := pl2) (wy2 := wy2) (se2 := se2) (to2 := to2) (lf2 := lf2) (ta2 := ta2) (q := q) (q2 := q2) (wt := wt) (ch := ch) (sk := sk) (P := P) (st := st) (ov := ov) (mi := nI mi) (ri := nI ri) (tl := nI tl) (K := K) (nn := nn) (wi := wi) (ag := ag) (it2 := ri_) (mi2 := ms) (la2 := la) (si2 := nI sn) (git := g) h1_x h1_ro h1_tr h1_k h1_k2 h1_w h1_o h1_rr h1_ri_ hne_0 hne_1 (by omega) (by omega) (by omega) (by omega) (by omega) (by omega) (by omega) (by omega) hwd) mY_X11_walkByWords ml_X11_268 im_X11_walkByWords se_X11_X11_walkByWords h1_x rfl rfl ⟨(Nat.le_of_ble_eq_true rfl), (Nat.le_of_ble_eq_true rfl)⟩ rfl (Nat.le_of_ble_eq_true rfl) ⟨(Nat.le_of_ble_eq_true rfl), (Nat.le_of_ble_eq_true rfl)⟩ dX11_rule_119) (fun H locs hH => ?_)
                have hH : fx_H G base s (fx_up (fx_up (fx_up f x (oO 10 [.ref ra, .ref tp, .ref tc, .ref ro, .ref tr, .ref ia, .ref aa, .int oa, .int ak, .int fa, .int (nI 0)])) tr (oO 4 [.ref k2, .ref w, .int (nI ((nwS P pl wy (fun z => (g z).toNatClampNeg) nz (mz - 1)).1)), .int ((nwS P pl wy (fun z => (g z).toNatClampNeg) nz (mz - 1)).2), .int (scS st ov se (fun z => (g z).toNatClampNeg) nz mz), .int (nI to), .int (nI lf), .int ta])) k2 (oJ 13 (qW (cpJ q q2) P pl wy (fun z => (g z).toNatClampNeg) nz K wi ag mz))) sz H locs := hH
                have h2_ro : (fx_up (fx_up f x (oO 10 [.ref ra, .ref tp, .ref tc, .ref ro, .ref tr, .ref ia, .ref aa, .int oa, .int ak, .int fa, .int (nI 0)])) tr (oO 4 [.ref k2, .ref w, .int (nI ((nwS P pl wy (fun z => (g z).toNatClampNeg) nz (mz - 1)).1)), .int ((nwS P pl wy (fun z => (g z).toNatClampNeg) nz (mz - 1)).2), .int (scS st ov se (fun z => (g z).toNatClampNeg) nz mz), .int (nI to), .int (nI lf), .int ta])) ro = some (oO 4 [.ref k, .ref w, .int (nI pl), .int wy, .int se, .int (nI to), .int (nI lf), .int ta]) := (fx_up_n _ _ hne_0).trans h1_ro
                have h2_w : (fx_up (fx_up f x (oO 10 [.ref ra, .ref tp, .ref tc, .ref ro, .ref tr, .ref ia, .ref aa, .int oa, .int ak, .int fa, .int (nI 0)])) tr (oO 4 [.ref k2, .ref w, .int (nI ((nwS P pl wy (fun z => (g z).toNatClampNeg) nz (mz - 1)).1)), .int ((nwS P pl wy (fun z => (g z).toNatClampNeg) nz (mz - 1)).2), .int (scS st ov se (fun z => (g z).toNatClampNeg) nz mz), .int (nI to), .int (nI lf), .int ta])) w = some (oO 2 [.ref wt, .ref ch, .ref sk, .int (nI P), .int (nI st), .int ov, .int (nI mi), .int (nI ri), .int (nI tl)]) := (fx_up_n _ _ (fx_ne h1_w h1_tr rfl)).trans h1_w
                have h2_sk : (fx_up (fx_up f x (oO 10 [.ref ra, .ref tp, .ref tc, .ref ro, .ref tr, .ref ia, .ref aa, .int oa, .int ak, .int fa, .int (nI 0)])) tr (oO 4 [.ref k2, .ref w, .int (nI ((nwS P pl wy (fun z => (g z).toNatClampNeg) nz (mz - 1)).1)), .int ((nwS P pl wy (fun z => (g z).toNatClampNeg) nz (mz - 1)).2), .int (scS st ov se (fun z => (g z).toNatClampNeg) nz mz), .int (nI to), .int (nI lf), .int ta])) sk = some (oR 5 4 gs) := (fx_up_n _ _ (fx_ne h1_sk h1_tr rfl)).trans h1_sk
                have h2_o : (fx_up (fx_up f x (oO 10 [.ref ra, .ref tp, .ref tc, .ref ro, .ref tr, .ref ia, .ref aa, .int oa, .int ak, .int fa, .int (nI 0)])) tr (oO 4 [.ref k2, .ref w, .int (nI ((nwS P pl wy (fun z => (g z).toNatClampNeg) nz (mz - 1)).1)), .int ((nwS P pl wy (fun z => (g z).toNatClampNeg) nz (mz - 1)).2), .int (scS st ov se (fun z => (g z).toNatClampNeg) nz mz), .int (nI to), .int (nI lf), .int ta])) o = some (skC K nn (nI wi) (nI ag)) := (fx_up_n _ _ (fx_neK h1_o h1_tr rfl)).trans h1_o
                have h2_k : (fx_up (fx_up f x (oO 10 [.ref ra, .ref tp, .ref tc, .ref ro, .ref tr, .ref ia, .ref aa, .int oa, .int ak, .int fa, .int (nI 0)])) tr (oO 4 [.ref k2, .ref w, .int (nI ((nwS P pl wy (fun z => (g z).toNatClampNeg) nz (mz - 1)).1)), .int ((nwS P pl wy (fun z => (g z).toNatClampNeg) nz (mz - 1)).2), .int (scS st ov se (fun z => (g z).toNatClampNeg) nz mz), .int (nI to), .int (nI lf), .int ta])) k = some (oJ 13 q) := (fx_up_n _ _ (fx_ne h1_k h1_tr rfl)).trans h1_k
                have h2_k2 : (fx_up (fx_up f x (oO 10 [.ref ra, .ref tp, .ref tc, .ref ro, .ref tr, .ref ia, .ref aa, .int oa, .int ak, .int fa, .int (nI 0)])) tr (oO 4 [.ref k2, .ref w, .int (nI ((nwS P pl wy (fun z => (g z).toNatClampNeg) nz (mz - 1)).1)), .int ((nwS P pl wy (fun z => (g z).toNatClampNeg) nz (mz - 1)).2), .int (scS st ov se (fun z => (g z).toNatClampNeg) nz mz), .int (nI to), .int (nI lf), .int ta])) k2 = some (oJ 13 q2) := (fx_up_n _ _ (fx_ne h1_k2 h1_tr rfl)).trans h1_k2
                have h2_ra : (fx_up (fx_up f x (oO 10 [.ref ra, .ref tp, .ref tc, .ref ro, .ref tr, .ref ia, .ref aa, .int oa, .int ak, .int fa, .int (nI 0)])) tr (oO 4 [.ref k2, .ref w, .int (nI ((nwS P pl wy (fun z => (g z).toNatClampNeg) nz (mz - 1)).1)), .int ((nwS P pl wy (fun z => (g z).toNatClampNeg) nz (mz - 1)).2), .int (scS st ov se (fun z => (g z).toNatClampNeg) nz mz), .int (nI to), .int (nI lf), .int ta])) ra = some (oR 4 8 gr) := (fx_up_n _ _ (fx_ne h1_ra h1_tr rfl)).trans h1_ra
                have h2_rr : (fx_up (fx_up f x (oO 10 [.ref ra, .ref tp, .ref tc, .ref ro, .ref tr, .ref ia, .ref aa, .int oa, .int ak, .int fa, .int (nI 0)])) tr (oO 4 [.ref k2, .ref w, .int (nI ((nwS P pl wy (fun z => (g z).toNatClampNeg) nz (mz - 1)).1)), .int ((nwS P pl wy (fun z => (g z).toNatClampNeg) nz (mz - 1)).2), .int (scS st ov se (fun z => (g z).toNatClampNeg) nz mz), .int (nI to), .int (nI lf), .int ta])) rr = some (oO 6 [.ref ri_, .int ms, .int la, .int (nI sn)]) := (fx_up_n _ _ (fx_ne h1_rr h1_tr rfl)).trans h1_rr
                have h2_ri_ : (fx_up (fx_up f x (oO 10 [.ref ra, .ref tp, .ref tc, .ref ro, .ref tr, .ref ia, .ref aa, .int oa, .int ak, .int fa, .int (nI 0)])) tr (oO 4 [.ref k2, .ref w, .int (nI ((nwS P pl wy (fun z => (g z).toNatClampNeg) nz (mz - 1)).1)), .int ((nwS P pl wy (fun z => (g z).toNatClampNeg) nz (mz - 1)).2), .int (scS st ov se (fun z => (g z).toNatClampNeg) nz mz), .int (nI to), .int (nI lf), .int ta])) ri_ = some (oI 40 g) := (fx_up_n _ _ (fx_ne h1_ri_ h1_tr rfl)).trans h1_ri_
                have h2_x : (fx_up (fx_up f x (oO 10 [.ref ra, .ref tp, .ref tc, .ref ro, .ref tr, .ref ia, .ref aa, .int oa, .int ak, .int fa, .int (nI 0)])) tr (oO 4 [.ref k2, .ref w, .int (nI ((nwS P pl wy (fun z => (g z).toNatClampNeg) nz (mz - 1)).1)), .int ((nwS P pl wy (fun z => (g z).toNatClampNeg) nz (mz - 1)).2), .int (scS st ov se (fun z => (g z).toNatClampNeg) nz mz), .int (nI to), .int (nI lf), .int ta])) x = some (oO 10 [.ref ra, .ref tp, .ref tc, .ref ro, .ref tr, .ref ia, .ref aa, .int oa, .int ak, .int fa, .int (nI 0)]) := (fx_up_n _ _ (fx_ne h1_x h1_tr rfl)).trans h1_x
                have h2_tr : (fx_up (fx_up f x (oO 10 [.ref ra, .ref tp, .ref tc, .ref ro, .ref tr, .ref ia, .ref aa, .int oa, .int ak, .int fa, .int (nI 0)])) tr (oO 4 [.ref k2, .ref w, .int (nI ((nwS P pl wy (fun z => (g z).toNatClampNeg) nz (mz - 1)).1)), .int ((nwS P pl wy (fun z => (g z).toNatClampNeg) nz (mz - 1)).2), .int (scS st ov se (fun z => (g z).toNatClampNeg) nz mz), .int (nI to), .int (nI lf), .int ta])) tr = some (oO 4 [.ref k2, .ref w, .int (nI ((nwS P pl wy (fun z => (g z).toNatClampNeg) nz (mz - 1)).1)), .int ((nwS P pl wy (fun z => (g z).toNatClampNeg) nz (mz - 1)).2), .int (scS st ov se (fun z => (g z).toNatClampNeg) nz mz), .int (nI to), .int (nI lf), .int ta]) := fx_up_s _ _ _
                have h3_ro : (fx_up (fx_up (fx_up f x (oO 10 [.ref ra, .ref tp, .ref tc, .ref ro, .ref tr, .ref ia, .ref aa, .int oa, .int ak, .int fa, .int (nI 0)])) tr (oO 4 [.ref k2, .ref w, .int (nI ((nwS P pl wy (fun z => (g z).toNatClampNeg) nz (mz - 1)).1)), .int ((nwS P pl wy (fun z => (g z).toNatClampNeg) nz (mz - 1)).2), .int (scS st ov se (fun z => (g z).toNatClampNeg) nz mz), .int (nI to), .int (nI lf), .int ta])) k2 (oJ 13 (qW (cpJ q q2) P pl wy (fun z => (g z).toNatClampNeg) nz K wi ag mz))) ro = some (oO 4 [.ref k, .ref w, .int (nI pl), .int wy, .int se, .int (nI to), .int (nI lf), .int ta]) := (fx_up_n _ _ (fx_ne h2_ro h2_k2 rfl)).trans h2_ro
                have h3_w : (fx_up (fx_up (fx_up f x (oO 10 [.ref ra, .ref tp, .ref tc, .ref ro, .ref tr, .ref ia, .ref aa, .int oa, .int ak, .int fa, .int (nI 0)])) tr (oO 4 [.ref k2, .ref w, .int (nI ((nwS P pl wy (fun z => (g z).toNatClampNeg) nz (mz - 1)).1)), .int ((nwS P pl wy (fun z => (g z).toNatClampNeg) nz (mz - 1)).2), .int (scS st ov se (fun z => (g z).toNatClampNeg) nz mz), .int (nI to), .int (nI lf), .int ta])) k2 (oJ 13 (qW (cpJ q q2) P pl wy (fun z => (g z).toNatClampNeg) nz K wi ag mz))) w = some (oO 2 [.ref wt, .ref ch, .ref sk, .int (nI P), .int (nI st), .int ov, .int (nI mi), .int (nI ri), .int (nI tl)]) := (fx_up_n _ _ (fx_ne h2_w h2_k2 rfl)).trans h2_w
                have h3_sk : (fx_up (fx_up (fx_up f x (oO 10 [.ref ra, .ref tp, .ref tc, .ref ro, .ref tr, .ref ia, .ref aa, .int oa, .int ak, .int fa, .int (nI 0)])) tr (oO 4 [.ref k2, .ref w, .int (nI ((nwS P pl wy (fun z => (g z).toNatClampNeg) nz (mz - 1)).1)), .int ((nwS P pl wy (fun z => (g z).toNatClampNeg) nz (mz - 1)).2), .int (scS st ov se (fun z => (g z).toNatClampNeg) nz mz), .int (nI to), .int (nI lf), .int ta])) k2 (oJ 13 (qW (cpJ q q2) P pl wy (fun z => (g z).toNatClampNeg) nz K wi ag mz))) sk = some (oR 5 4 gs) := (fx_up_n _ _ (fx_ne h2_sk h2_k2 rfl)).trans h2_sk
                have h3_o : (fx_up (fx_up (fx_up f x (oO 10 [.ref ra, .ref tp, .ref tc, .ref ro, .ref tr, .ref ia, .ref aa, .int oa, .int ak, .int fa, .int (nI 0)])) tr (oO 4 [.ref k2, .ref w, .int (nI ((nwS P pl wy (fun z => (g z).toNatClampNeg) nz (mz - 1)).1)), .int ((nwS P pl wy (fun z => (g z).toNatClampNeg) nz (mz - 1)).2), .int (scS st ov se (fun z => (g z).toNatClampNeg) nz mz), .int (nI to), .int (nI lf), .int ta])) k2 (oJ 13 (qW (cpJ q q2) P pl wy (fun z => (g z).toNatClampNeg) nz K wi ag mz))) o = some (skC K nn (nI wi) (nI ag)) := (fx_up_n _ _ (fx_neK h2_o h2_k2 rfl)).trans h2_o
                have h3_k : (fx_up (fx_up (fx_up f x (oO 10 [.ref ra, .ref tp, .ref tc, .ref ro, .ref tr, .ref ia, .ref aa, .int oa, .int ak, .int fa, .int (nI 0)])) tr (oO 4 [.ref k2, .ref w, .int (nI ((nwS P pl wy (fun z => (g z).toNatClampNeg) nz (mz - 1)).1)), .int ((nwS P pl wy (fun z => (g z).toNatClampNeg) nz (mz - 1)).2), .int (scS st ov se (fun z => (g z).toNatClampNeg) nz mz), .int (nI to), .int (nI lf), .int ta])) k2 (oJ 13 (qW (cpJ q q2) P pl wy (fun z => (g z).toNatClampNeg) nz K wi ag mz))) k = some (oJ 13 q) := (fx_up_n _ _ hne_1).trans h2_k
                have h3_ra : (fx_up (fx_up (fx_up f x (oO 10 [.ref ra, .ref tp, .ref tc, .ref ro, .ref tr, .ref ia, .ref aa, .int oa, .int ak, .int fa, .int (nI 0)])) tr (oO 4 [.ref k2, .ref w, .int (nI ((nwS P pl wy (fun z => (g z).toNatClampNeg) nz (mz - 1)).1)), .int ((nwS P pl wy (fun z => (g z).toNatClampNeg) nz (mz - 1)).2), .int (scS st ov se (fun z => (g z).toNatClampNeg) nz mz), .int (nI to), .int (nI lf), .int ta])) k2 (oJ 13 (qW (cpJ q q2) P pl wy (fun z => (g z).toNatClampNeg) nz K wi ag mz))) ra = some (oR 4 8 gr) := (fx_up_n _ _ (fx_ne h2_ra h2_k2 rfl)).trans h2_ra
                have h3_rr : (fx_up (fx_up (fx_up f x (oO 10 [.ref ra, .ref tp, .ref tc, .ref ro, .ref tr, .ref ia, .ref aa, .int oa, .int ak, .int fa, .int (nI 0)])) tr (oO 4 [.ref k2, .ref w, .int (nI ((nwS P pl wy (fun z => (g z).toNatClampNeg) nz (mz - 1)).1)), .int ((nwS P pl wy (fun z => (g z).toNatClampNeg) nz (mz - 1)).2), .int (scS st ov se (fun z => (g z).toNatClampNeg) nz mz), .int (nI to), .int (nI lf), .int ta])) k2 (oJ 13 (qW (cpJ q q2) P pl wy (fun z => (g z).toNatClampNeg) nz K wi ag mz))) rr = some (oO 6 [.ref ri_, .int ms, .int la, .int (nI sn)]) := (fx_up_n _ _ (fx_ne h2_rr h2_k2 rfl)).trans h2_rr
                have h3_ri_ : (fx_up (fx_up (fx_up f x (oO 10 [.ref ra, .ref tp, .ref tc, .ref ro, .ref tr, .ref ia, .ref aa, .int oa, .int ak, .int fa, .int (nI 0)])) tr (oO 4 [.ref k2, .ref w, .int (nI ((nwS P pl wy (fun z => (g z).toNatClampNeg) nz (mz - 1)).1)), .int ((nwS P pl wy (fun z => (g z).toNatClampNeg) nz (mz - 1)).2), .int (scS st ov se (fun z => (g z).toNatClampNeg) nz mz), .int (nI to), .int (nI lf), .int ta])) k2 (oJ 13 (qW (cpJ q q2) P pl wy (fun z => (g z).toNatClampNeg) nz K wi ag mz))) ri_ = some (oI 40 g) := (fx_up_n _ _ (fx_ne h2_ri_ h2_k2 rfl)).trans h2_ri_
                have h3_x : (fx_up (fx_up (fx_up f x (oO 10 [.ref ra, .ref tp, .ref tc, .ref ro, .ref tr, .ref ia, .ref aa, .int oa, .int ak, .int fa, .int (nI 0)])) tr (oO 4 [.ref k2, .ref w, .int (nI ((nwS P pl wy (fun z => (g z).toNatClampNeg) nz (mz - 1)).1)), .int ((nwS P pl wy (fun z => (g z).toNatClampNeg) nz (mz - 1)).2), .int (scS st ov se (fun z => (g z).toNatClampNeg) nz mz), .int (nI to), .int (nI lf), .int ta])) k2 (oJ 13 (qW (cpJ q q2) P pl wy (fun z => (g z).toNatClampNeg) nz K wi ag mz))) x = some (oO 10 [.ref ra, .ref tp, .ref tc, .ref ro, .ref tr, .ref ia, .ref aa, .int oa, .int ak, .int fa, .int (nI 0)]) := (fx_up_n _ _ (fx_ne h2_x h2_k2 rfl)).trans h2_x
                have h3_tr : (fx_up (fx_up (fx_up f x (oO 10 [.ref ra, .ref tp, .ref tc, .ref ro, .ref tr, .ref ia, .ref aa, .int oa, .int ak, .int fa, .int (nI 0)])) tr (oO 4 [.ref k2, .ref w, .int (nI ((nwS P pl wy (fun z => (g z).toNatClampNeg) nz (mz - 1)).1)), .int ((nwS P pl wy (fun z => (g z).toNatClampNeg) nz (mz - 1)).2), .int (scS st ov se (fun z => (g z).toNatClampNeg) nz mz), .int (nI to), .int (nI lf), .int ta])) k2 (oJ 13 (qW (cpJ q q2) P pl wy (fun z => (g z).toNatClampNeg) nz K wi ag mz))) tr = some (oO 4 [.ref k2, .ref w, .int (nI ((nwS P pl wy (fun z => (g z).toNatClampNeg) nz (mz - 1)).1)), .int ((nwS P pl wy (fun z => (g z).toNatClampNeg) nz (mz - 1)).2), .int (scS st ov se (fun z => (g z).toNatClampNeg) nz mz), .int (nI to), .int (nI lf), .int ta]) := (fx_up_n _ _ (fx_ne h2_tr h2_k2 rfl)).trans h2_tr
                have h3_k2 : (fx_up (fx_up (fx_up f x (oO 10 [.ref ra, .ref tp, .ref tc, .ref ro, .ref tr, .ref ia, .ref aa, .int oa, .int ak, .int fa, .int (nI 0)])) tr (oO 4 [.ref k2, .ref w, .int (nI ((nwS P pl wy (fun z => (g z).toNatClampNeg) nz (mz - 1)).1)), .int ((nwS P pl wy (fun z => (g z).toNatClampNeg) nz (mz - 1)).2), .int (scS st ov se (fun z => (g z).toNatClampNeg) nz mz), .int (nI to), .int (nI lf), .int ta])) k2 (oJ 13 (qW (cpJ q q2) P pl wy (fun z => (g z).toNatClampNeg) nz K wi ag mz))) k2 = some (oJ 13 (qW (cpJ q q2) P pl wy (fun z => (g z).toNatClampNeg) nz K wi ag mz)) := fx_up_s _ _ _
                have hH : fx_H G base s (fx_up (fx_up (fx_up f x (oO 10 [.ref ra, .ref tp, .ref tc, .ref ro, .ref tr, .ref ia, .ref aa, .int oa, .int ak, .int fa, .int (nI 0)])) tr (oO 4 [.ref k2, .ref w, .int (nI ((nwS P pl wy (fun z => (g z).toNatClampNeg) nz (mz - 1)).1)), .int ((nwS P pl wy (fun z => (g z).toNatClampNeg) nz (mz - 1)).2), .int (scS st ov se (fun z => (g z).toNatClampNeg) nz mz), .int (nI to), .int (nI lf), .int ta])) k2 (oJ 13 (qW (cpJ q q2) P pl wy (fun z => (g z).toNatClampNeg) nz K wi ag mz))) sz H locs := hH
                refine lv_iload hx hb dX11_rule_122 (lv_at hl 7 rfl) ?_
                refine lv_iconst (v := nI 2) hx hb dX11_rule_124 (by decide) ?_
                refine fx_N_ne (a := wz) (b := 2) hx hb (by omega) (by omega) (tgt := 145) dX11_rule_125 (by decide) (fun c125 => ?_) (fun c125 => ?_)
                · refine lv_aload_n hx hb dX11_rule_145 rfl (lv_at hl 2 rfl) ?_
                  refine fx_get C hH (k := 3) (v := .ref ro) h3_x ff_X11_44_10 rfl dX11_rule_146 ?_
                  refine fx_go1 hH (fx_runV C hH hl.1 (As := []) (rest := []) (c_X4_together (G := G) (base := base) (l := l) (f := fx_up (fx_up (fx_up f x (oO 10 [.ref ra, .ref tp, .ref tc, .ref ro, .ref tr, .ref ia, .ref aa, .int oa, .int ak, .int fa, .int (nI 0)])) tr (oO 4 [.ref k2, .ref w, .int (nI ((nwS P pl wy (fun z => (g z).toNatClampNeg) nz (mz - 1)).1)), .int ((nwS P pl wy (fun z => (g z).toNatClampNeg) nz (mz - 1)).2), .int (scS st ov se (fun z => (g z).toNatClampNeg) nz mz), .int (nI to), .int (nI lf), .int ta])) k2 (oJ 13 (qW (cpJ q q2) P pl wy (fun z => (g z).toNatClampNeg) nz K wi ag mz))) (sz := sz) (r := ro) (k := k) (w := w) (pl := pl) (wy := wy) (se := se) (to := nI to) (lf := nI lf) (ta := ta) (q := q) (wt := wt) (ch := ch) (sk := sk) (P := P) (st := st) (ov := ov) (mi := nI mi) (ri := nI ri) (tl := nI tl) h3_ro h3_k h3_w (by omega)) mY_X4_together ml_X11_149 im_X4_together se_X4_X4_together h3_ro rfl rfl ⟨(Nat.le_of_ble_eq_true rfl), (Nat.le_of_ble_eq_true rfl)⟩ rfl (Nat.le_of_ble_eq_true rfl) ⟨(Nat.le_of_ble_eq_true rfl), (Nat.le_of_ble_eq_true rfl)⟩ dX11_rule_149) (fun H locs hH => ?_)
                  refine fx_tl (y := lN (sN v (P + 1))) (sJ_N (fun i hi => hv i (by omega))) ?_
                  refine lv_iload hx hb dX11_rule_152 (lv_at hl 6 rfl) ?_
                  refine fx_go1 hH (fx_runS C hH hl.1 (As := [.int (nI mz)]) (rest := [.long (lN (sN v (P + 1)))]) (c_X11_tens (G := G) (base := base) (l := l) (f := fx_up (fx_up (fx_up f x (oO 10 [.ref ra, .ref tp, .ref tc, .ref ro, .ref tr, .ref ia, .ref aa, .int oa, .int ak, .int fa, .int (nI 0)])) tr (oO 4 [.ref k2, .ref w, .int (nI ((nwS P pl wy (fun z => (g z).toNatClampNeg) nz (mz - 1)).1)), .int ((nwS P pl wy (fun z => (g z).toNatClampNeg) nz (mz - 1)).2), .int (scS st ov se (fun z => (g z).toNatClampNeg) nz mz), .int (nI to), .int (nI lf), .int ta])) k2 (oJ 13 (qW (cpJ q q2) P pl wy (fun z => (g z).toNatClampNeg) nz K wi ag mz))) (sz := sz) (n := mz) (by omega)) mY_X11_tens ml_X11_242 st_X11_tens rfl ⟨(Nat.le_of_ble_eq_true rfl), (Nat.le_of_ble_eq_true rfl)⟩ rfl (Nat.le_of_ble_eq_true rfl) ⟨(Nat.le_of_ble_eq_true rfl), (Nat.le_of_ble_eq_true rfl)⟩ dX11_rule_154) (fun H locs hH => ?_)
                  refine lv_lmul hx hb dX11_rule_157 ?_
                  refine fx_tl (y := lN ((sN v (P + 1)) * (10 ^ mz))) (lN_mul _ _) ?_
                  refine lv_lstore (lv' := [(8, .long (lN ((sN v (P + 1)) * (10 ^ mz)))), (7, .ref rr), (6, .ref o), (0, .ref x), (1, .int (nI j)), (2, .int (nI kk)), (3, .int (nI nz)), (4, .int (nI mz)), (5, .int (nI wz))]) hx hb dX11_rule_158 hl (by decide) rfl (fun ls hl => ?_)
                  refine lv_lload hx hb dX11_rule_160 (lv_at hl 0 rfl) ?_
                  refine lv_aload_n hx hb dX11_rule_162 rfl (lv_at hl 3 rfl) ?_
                  refine fx_get C hH (k := 4) (v := .ref tr) h3_x ff_X11_48_10 rfl dX11_rule_163 ?_
                  refine fx_go1 hH (fx_runV C hH hl.1 (As := []) (rest := [.long (lN ((sN v (P + 1)) * (10 ^ mz)))]) (c_X4_together (G := G) (base := base) (l := l) (f := fx_up (fx_up (fx_up f x (oO 10 [.ref ra, .ref tp, .ref tc, .ref ro, .ref tr, .ref ia, .ref aa, .int oa, .int ak, .int fa, .int (nI 0)])) tr (oO 4 [.ref k2, .ref w, .int (nI ((nwS P pl wy (fun z => (g z).toNatClampNeg) nz (mz - 1)).1)), .int ((nwS P pl wy (fun z => (g z).toNatClampNeg) nz (mz - 1)).2), .int (scS st ov se (fun z => (g z).toNatClampNeg) nz mz), .int (nI to), .int (nI lf), .int ta])) k2 (oJ 13 (qW (cpJ q q2) P pl wy (fun z => (g z).toNatClampNeg) nz K wi ag mz))) (sz := sz) (r := tr) (k := k2) (w := w) (pl := (nwS P pl wy (fun z => (g z).toNatClampNeg) nz (mz - 1)).1) (wy := (nwS P pl wy (fun z => (g z).toNatClampNeg) nz (mz - 1)).2) (se := (scS st ov se (fun z => (g z).toNatClampNeg) nz mz)) (to := (nI to)) (lf := (nI lf)) (ta := ta) (q := (qW (cpJ q q2) P pl wy (fun z => (g z).toNatClampNeg) nz K wi ag mz)) (wt := wt) (ch := ch) (sk := sk) (P := P) (st := st) (ov := ov) (mi := nI mi) (ri := nI ri) (tl := nI tl) h3_tr h3_k2 h3_w (by omega)) mY_X4_together ml_X11_149 im_X4_together se_X4_X4_together h3_tr rfl rfl ⟨(Nat.le_of_ble_eq_true rfl), (Nat.le_of_ble_eq_true rfl)⟩ rfl (Nat.le_of_ble_eq_true rfl) ⟨(Nat.le_of_ble_eq_true rfl), (Nat.le_of_ble_eq_true rfl)⟩ dX11_rule_166) (fun H locs hH => ?_)
                  refine fx_tl (y := lN (tw (fun z => (g z).toNatClampNeg) nz mz)) htw9.1 ?_
                  refine lv_lsub hx hb dX11_rule_169 ?_
                  refine fx_tl (y := lN (((sN v (P + 1)) * (10 ^ mz)) - (tw (fun z => (g z).toNatClampNeg) nz mz))) (lN_sub (by omega)) ?_
                  refine lv_lload hx hb dX11_rule_170 (lv_at hl 0 rfl) ?_
                  refine lv_iload hx hb dX11_rule_172 (lv_at hl 8 rfl) ?_
                  refine fx_go1 hH (fx_runS C hH hl.1 (As := [.long (lN (((sN v (P + 1)) * (10 ^ mz)) - (tw (fun z => (g z).toNatClampNeg) nz mz))), .long (lN ((sN v (P + 1)) * (10 ^ mz))), .int (nI wz)]) (rest := []) (c_X11_lowest_g (G := G) (base := base) (l := l) (f := fx_up (fx_up (fx_up f x (oO 10 [.ref ra, .ref tp, .ref tc, .ref ro, .ref tr, .ref ia, .ref aa, .int oa, .int ak, .int fa, .int (nI 0)])) tr (oO 4 [.ref k2, .ref w, .int (nI ((nwS P pl wy (fun z => (g z).toNatClampNeg) nz (mz - 1)).1)), .int ((nwS P pl wy (fun z => (g z).toNatClampNeg) nz (mz - 1)).2), .int (scS st ov se (fun z => (g z).toNatClampNeg) nz mz), .int (nI to), .int (nI lf), .int ta])) k2 (oJ 13 (qW (cpJ q q2) P pl wy (fun z => (g z).toNatClampNeg) nz K wi ag mz))) (sz := sz) (aa_ := ((sN v (P + 1)) * (10 ^ mz)) - (tw (fun z => (g z).toNatClampNeg) nz mz)) (bb := (sN v (P + 1)) * (10 ^ mz)) (wh := wz) (by omega) (by omega) (by omega) (by omega)) mY_X11_lowest ml_X11_225 st_X11_lowest rfl ⟨(Nat.le_of_ble_eq_true rfl), (Nat.le_of_ble_eq_true rfl)⟩ rfl (Nat.le_of_ble_eq_true rfl) ⟨(Nat.le_of_ble_eq_true rfl), (Nat.le_of_ble_eq_true rfl)⟩ dX11_rule_174) (fun H locs hH => ?_)
                  exact fx_lretP C hr hk hH (K3 c31 c42 c52 c64 c81 nz hnz mz hmz wz hwz hns rfl rfl rfl c99 c125) (Nat.zero_le _) (Nat.zero_le _) dX11_rule_177
                · refine lv_aload_n hx hb dX11_rule_128 rfl (lv_at hl 2 rfl) ?_
                  refine fx_get C hH (k := 4) (v := .ref tr) h3_x ff_X11_48_10 rfl dX11_rule_129 ?_
                  refine fx_get C hH (k := 4) (v := .int (scS st ov se (fun z => (g z).toNatClampNeg) nz mz)) h3_tr ff_X11_191_4 rfl dX11_rule_132 ?_
                  refine lv_aload_n hx hb dX11_rule_135 rfl (lv_at hl 2 rfl) ?_
                  refine fx_get C hH (k := 3) (v := .ref ro) h3_x ff_X11_44_10 rfl dX11_rule_136 ?_
                  refine fx_get C hH (k := 4) (v := .int se) h3_ro ff_X11_191_4 rfl dX11_rule_139 ?_
                  refine lv_isub hx hb dX11_rule_142 ?_
                  refine lv_i2l (v := ((scS st ov se (fun z => (g z).toNatClampNeg) nz mz) - se).toInt64) hx hb dX11_rule_143 rfl ?_
                  exact fx_lretP C hr hk hH (K4 c31 c42 c52 c64 c81 nz hnz mz hmz wz hwz hns rfl rfl rfl c99 c125) (Nat.zero_le _) (Nat.zero_le _) dX11_rule_144
              · refine lv_ldc2 (v := (-1000001)) hx hb C.2.2.2.1 (C.2.2.2.2.1 _ kL_X11_219 rfl args) dX11_rule_102 ?_
                exact fx_lretP C hr hk hH (K5 c31 c42 c52 c64 c81 nz hnz mz hmz wz hwz hns rfl rfl rfl c99) (Nat.zero_le _) (Nat.zero_le _) dX11_rule_105
          · refine lv_aload_n hx hb dX11_rule_84 rfl (lv_at hl 2 rfl) ?_
            refine lv_iconst (v := nI 2) hx hb dX11_rule_85 (by decide) ?_
            refine fx_go1 hH (fx_runV C hH hl.1 (As := [.int (nI 2)]) (rest := []) (c_X11_finding (G := G) (base := base) (l := l) (f := f) (sz := sz) (x := x) (nn := nI 2) (ra := ra) (tp := tp) (tc := tc) (ro := ro) (tr := tr) (ia := ia) (aa := aa) (oa := oa) (ak := ak) (fa := fa) (fi := fi) h_x) mY_X11_finding ml_X11_61 im_X11_finding se_X11_X11_finding h_x rfl rfl ⟨(Nat.le_of_ble_eq_true rfl), (Nat.le_of_ble_eq_true rfl)⟩ rfl (Nat.le_of_ble_eq_true rfl) ⟨(Nat.le_of_ble_eq_true rfl), (Nat.le_of_ble_eq_true rfl)⟩ dX11_rule_86) (fun H locs hH => ?_)
            have hH : fx_H G base s (fx_up f x (oO 10 [.ref ra, .ref tp, .ref tc, .ref ro, .ref tr, .ref ia, .ref aa, .int oa, .int ak, .int fa, .int (nI 2)])) sz H locs := hH
            have h4_ro : (fx_up f x (oO 10 [.ref ra, .ref tp, .ref tc, .ref ro, .ref tr, .ref ia, .ref aa, .int oa, .int ak, .int fa, .int (nI 2)])) ro = some (oO 4 [.ref k, .ref w, .int (nI pl), .int wy, .int se, .int (nI to), .int (nI lf), .int ta]) := (fx_up_n _ _ (fx_ne h_ro h_x rfl)).trans h_ro
            have h4_w : (fx_up f x (oO 10 [.ref ra, .ref tp, .ref tc, .ref ro, .ref tr, .ref ia, .ref aa, .int oa, .int ak, .int fa, .int (nI 2)])) w = some (oO 2 [.ref wt, .ref ch, .ref sk, .int (nI P), .int (nI st), .int ov, .int (nI mi), .int (nI ri), .int (nI tl)]) := (fx_up_n _ _ (fx_ne h_w h_x rfl)).trans h_w
            have h4_sk : (fx_up f x (oO 10 [.ref ra, .ref tp, .ref tc, .ref ro, .ref tr, .ref ia, .ref aa, .int oa, .int ak, .int fa, .int (nI 2)])) sk = some (oR 5 4 gs) := (fx_up_n _ _ (fx_ne h_sk h_x rfl)).trans h_sk
            have h4_o : (fx_up f x (oO 10 [.ref ra, .ref tp, .ref tc, .ref ro, .ref tr, .ref ia, .ref aa, .int oa, .int ak, .int fa, .int (nI 2)])) o = some (skC K nn (nI wi) (nI ag)) := (fx_up_n _ _ (fx_neK h_o h_x rfl)).trans h_o
            have h4_k : (fx_up f x (oO 10 [.ref ra, .ref tp, .ref tc, .ref ro, .ref tr, .ref ia, .ref aa, .int oa, .int ak, .int fa, .int (nI 2)])) k = some (oJ 13 q) := (fx_up_n _ _ (fx_ne h_k h_x rfl)).trans h_k
            have h4_tr : (fx_up f x (oO 10 [.ref ra, .ref tp, .ref tc, .ref ro, .ref tr, .ref ia, .ref aa, .int oa, .int ak, .int fa, .int (nI 2)])) tr = some (oO 4 [.ref k2, .ref w2, .int pl2, .int wy2, .int se2, .int to2, .int lf2, .int ta2]) := (fx_up_n _ _ (fx_ne h_tr h_x rfl)).trans h_tr
            have h4_k2 : (fx_up f x (oO 10 [.ref ra, .ref tp, .ref tc, .ref ro, .ref tr, .ref ia, .ref aa, .int oa, .int ak, .int fa, .int (nI 2)])) k2 = some (oJ 13 q2) := (fx_up_n _ _ (fx_ne h_k2 h_x rfl)).trans h_k2
            have h4_ra : (fx_up f x (oO 10 [.ref ra, .ref tp, .ref tc, .ref ro, .ref tr, .ref ia, .ref aa, .int oa, .int ak, .int fa, .int (nI 2)])) ra = some (oR 4 8 gr) := (fx_up_n _ _ (fx_ne h_ra h_x rfl)).trans h_ra
            have h4_rr : (fx_up f x (oO 10 [.ref ra, .ref tp, .ref tc, .ref ro, .ref tr, .ref ia, .ref aa, .int oa, .int ak, .int fa, .int (nI 2)])) rr = some (oO 6 [.ref ri_, .int ms, .int la, .int (nI sn)]) := (fx_up_n _ _ (fx_ne h_rr h_x rfl)).trans h_rr
            have h4_ri_ : (fx_up f x (oO 10 [.ref ra, .ref tp, .ref tc, .ref ro, .ref tr, .ref ia, .ref aa, .int oa, .int ak, .int fa, .int (nI 2)])) ri_ = some (oI 40 g) := (fx_up_n _ _ (fx_ne h_ri_ h_x rfl)).trans h_ri_
            have h4_x : (fx_up f x (oO 10 [.ref ra, .ref tp, .ref tc, .ref ro, .ref tr, .ref ia, .ref aa, .int oa, .int ak, .int fa, .int (nI 2)])) x = some (oO 10 [.ref ra, .ref tp, .ref tc, .ref ro, .ref tr, .ref ia, .ref aa, .int oa, .int ak, .int fa, .int (nI 2)]) := fx_up_s _ _ _
            have hH : fx_H G base s (fx_up f x (oO 10 [.ref ra, .ref tp, .ref tc, .ref ro, .ref tr, .ref ia, .ref aa, .int oa, .int ak, .int fa, .int (nI 2)])) sz H locs := hH
            refine lv_i2l (v := ((-1000010) - (nI 2)).toInt64) hx hb dX11_rule_89 rfl ?_
            exact fx_lretP C hr hk hH (K6 c31 c42 c52 c64 c81) (Nat.zero_le _) (Nat.zero_le _) dX11_rule_90
        · refine lv_aload_n hx hb dX11_rule_67 rfl (lv_at hl 2 rfl) ?_
          refine lv_iconst (v := nI 1) hx hb dX11_rule_68 (by decide) ?_
          refine fx_go1 hH (fx_runV C hH hl.1 (As := [.int (nI 1)]) (rest := []) (c_X11_finding (G := G) (base := base) (l := l) (f := f) (sz := sz) (x := x) (nn := nI 1) (ra := ra) (tp := tp) (tc := tc) (ro := ro) (tr := tr) (ia := ia) (aa := aa) (oa := oa) (ak := ak) (fa := fa) (fi := fi) h_x) mY_X11_finding ml_X11_61 im_X11_finding se_X11_X11_finding h_x rfl rfl ⟨(Nat.le_of_ble_eq_true rfl), (Nat.le_of_ble_eq_true rfl)⟩ rfl (Nat.le_of_ble_eq_true rfl) ⟨(Nat.le_of_ble_eq_true rfl), (Nat.le_of_ble_eq_true rfl)⟩ dX11_rule_69) (fun H locs hH => ?_)
          have hH : fx_H G base s (fx_up f x (oO 10 [.ref ra, .ref tp, .ref tc, .ref ro, .ref tr, .ref ia, .ref aa, .int oa, .int ak, .int fa, .int (nI 1)])) sz H locs := hH
          have h5_ro : (fx_up f x (oO 10 [.ref ra, .ref tp, .ref tc, .ref ro, .ref tr, .ref ia, .ref aa, .int oa, .int ak, .int fa, .int (nI 1)])) ro = some (oO 4 [.ref k, .ref w, .int (nI pl), .int wy, .int se, .int (nI to), .int (nI lf), .int ta]) := (fx_up_n _ _ (fx_ne h_ro h_x rfl)).trans h_ro
          have h5_w : (fx_up f x (oO 10 [.ref ra, .ref tp, .ref tc, .ref ro, .ref tr, .ref ia, .ref aa, .int oa, .int ak, .int fa, .int (nI 1)])) w = some (oO 2 [.ref wt, .ref ch, .ref sk, .int (nI P), .int (nI st), .int ov, .int (nI mi), .int (nI ri), .int (nI tl)]) := (fx_up_n _ _ (fx_ne h_w h_x rfl)).trans h_w
          have h5_sk : (fx_up f x (oO 10 [.ref ra, .ref tp, .ref tc, .ref ro, .ref tr, .ref ia, .ref aa, .int oa, .int ak, .int fa, .int (nI 1)])) sk = some (oR 5 4 gs) := (fx_up_n _ _ (fx_ne h_sk h_x rfl)).trans h_sk
          have h5_o : (fx_up f x (oO 10 [.ref ra, .ref tp, .ref tc, .ref ro, .ref tr, .ref ia, .ref aa, .int oa, .int ak, .int fa, .int (nI 1)])) o = some (skC K nn (nI wi) (nI ag)) := (fx_up_n _ _ (fx_neK h_o h_x rfl)).trans h_o
          have h5_k : (fx_up f x (oO 10 [.ref ra, .ref tp, .ref tc, .ref ro, .ref tr, .ref ia, .ref aa, .int oa, .int ak, .int fa, .int (nI 1)])) k = some (oJ 13 q) := (fx_up_n _ _ (fx_ne h_k h_x rfl)).trans h_k
          have h5_tr : (fx_up f x (oO 10 [.ref ra, .ref tp, .ref tc, .ref ro, .ref tr, .ref ia, .ref aa, .int oa, .int ak, .int fa, .int (nI 1)])) tr = some (oO 4 [.ref k2, .ref w2, .int pl2, .int wy2, .int se2, .int to2, .int lf2, .int ta2]) := (fx_up_n _ _ (fx_ne h_tr h_x rfl)).trans h_tr
          have h5_k2 : (fx_up f x (oO 10 [.ref ra, .ref tp, .ref tc, .ref ro, .ref tr, .ref ia, .ref aa, .int oa, .int ak, .int fa, .int (nI 1)])) k2 = some (oJ 13 q2) := (fx_up_n _ _ (fx_ne h_k2 h_x rfl)).trans h_k2
          have h5_ra : (fx_up f x (oO 10 [.ref ra, .ref tp, .ref tc, .ref ro, .ref tr, .ref ia, .ref aa, .int oa, .int ak, .int fa, .int (nI 1)])) ra = some (oR 4 8 gr) := (fx_up_n _ _ (fx_ne h_ra h_x rfl)).trans h_ra
          have h5_rr : (fx_up f x (oO 10 [.ref ra, .ref tp, .ref tc, .ref ro, .ref tr, .ref ia, .ref aa, .int oa, .int ak, .int fa, .int (nI 1)])) rr = some (oO 6 [.ref ri_, .int ms, .int la, .int (nI sn)]) := (fx_up_n _ _ (fx_ne h_rr h_x rfl)).trans h_rr
          have h5_ri_ : (fx_up f x (oO 10 [.ref ra, .ref tp, .ref tc, .ref ro, .ref tr, .ref ia, .ref aa, .int oa, .int ak, .int fa, .int (nI 1)])) ri_ = some (oI 40 g) := (fx_up_n _ _ (fx_ne h_ri_ h_x rfl)).trans h_ri_
          have h5_x : (fx_up f x (oO 10 [.ref ra, .ref tp, .ref tc, .ref ro, .ref tr, .ref ia, .ref aa, .int oa, .int ak, .int fa, .int (nI 1)])) x = some (oO 10 [.ref ra, .ref tp, .ref tc, .ref ro, .ref tr, .ref ia, .ref aa, .int oa, .int ak, .int fa, .int (nI 1)]) := fx_up_s _ _ _
          have hH : fx_H G base s (fx_up f x (oO 10 [.ref ra, .ref tp, .ref tc, .ref ro, .ref tr, .ref ia, .ref aa, .int oa, .int ak, .int fa, .int (nI 1)])) sz H locs := hH
          refine lv_i2l (v := ((-1000010) - (nI 1)).toInt64) hx hb dX11_rule_72 rfl ?_
          exact fx_lretP C hr hk hH (K7 c31 c42 c52 c64) (Nat.zero_le _) (Nat.zero_le _) dX11_rule_73
      · refine lv_ldc2 (v := (-1000001)) hx hb C.2.2.2.1 (C.2.2.2.2.1 _ kL_X11_219 rfl args) dX11_rule_55 ?_
        exact fx_lretP C hr hk hH (K8 c31 c42 c52) (Nat.zero_le _) (Nat.zero_le _) dX11_rule_58
set_option maxHeartbeats 4000000 in
set_option maxRecDepth 100000 in
theorem c_X11_search_k {G : GG} {base : Nat} {l : Launch} {f : Hp} {sz : Nat} {Po : Option Value → Hp → Nat → Prop} {wn : Nat → Nat} {cvf : Nat → Nat} {x : Nat} {j : Nat} {seed : Int32} {wh : Int32} {ra : Nat} {tp : Nat} {tc : Nat} {ro : Nat} {tr : Nat} {ia : Nat} {aa : Nat} {oa : Int32} {ak : Int32} {fa : Int32} {fi : Int32} {k : Nat} {w : Nat} {pl : Nat} {wy : Int32} {se : Int32} {to : Nat} {lf : Nat} {ta : Int32} {wt : Nat} {ch : Nat} {sk : Nat} {P : Nat} {st : Nat} {ov : Int32} {mi : Nat} {ri : Nat} {tl : Nat} {gs : Nat → Option Nat} {o : Nat} {K : Nat} {nn : Int32} {wi : Nat} {ag : Nat} {g : Nat → Int32} {gc : Nat → Int32} (h_x : f x = some (oO 10 [.ref ra, .ref tp, .ref tc, .ref ro, .ref tr, .ref ia, .ref aa, .int oa, .int ak, .int fa, .int fi])) (h_ro : f ro = some (oO 4 [.ref k, .ref w, .int (nI pl), .int wy, .int se, .int (nI to), .int (nI lf), .int ta])) (h_w : f w = some (oO 2 [.ref wt, .ref ch, .ref sk, .int (nI P), .int (nI st), .int ov, .int (nI mi), .int (nI ri), .int (nI tl)])) (h_sk : f sk = some (oR 5 4 gs)) (h_o : f o = some (skC K nn (nI wi) (nI ag))) (h_wt : f wt = some (oI 12 g)) (h_ch : f ch = some (oI 12 gc)) (hne_0 : wt ≠ ch) (hj : j < tl) (htl : tl ≤ 4) (hg : gs j = some o) (hK : 1 ≤ K ∧ K ≤ 5) (hwi : wi ≤ 10) (hag : ag ≤ 10) (hP : 4 ≤ P ∧ P ≤ 12) (hwn : ∀ z, z < P → g z = nI (wn z) ∧ 1 ≤ wn z ∧ wn z ≤ 9) (hmi : mi ≤ 9) (hcf : ∀ z, z < P → gc z = nI (cvf z) ∧ cvf z ≤ 10) (K1 : ∀ (c20 : ¬ (¬ seed < (nI 1) ∧ ¬ (nI 999999) < seed)), Po (some (.int (-1000001))) f sz)
    (K2 : ∀ (c20 : (¬ seed < (nI 1) ∧ ¬ (nI 999999) < seed)), ∀ (c29 : (¬ wh < (nI 0) ∧ ¬ (nI 1) < wh)), ∀ (sd : Nat), ∀ (hsd : 1 ≤ sd ∧ sd ≤ 999999), ∀ (wz : Nat), ∀ (hwz : wz ≤ 1), ∀ (esd : seed = nI sd), ∀ (ewz : wh = nI wz), ∀ (i1 : Nat), ∀ (hi1 : i1 ≤ 40), ∀ (hall : ∀ z, z < i1 → ¬ drN sd (z + 1 + 1) % 10 < (if z % P = pd wn P 0 (drN sd 1 % suN wn mi P) then feN K wi ag (nI 1) else cvf (z % P))), ∀ (c67 : 40 ≤ i1), Po (some (.int (-1000000))) f sz)
    (K3 : ∀ (c20 : (¬ seed < (nI 1) ∧ ¬ (nI 999999) < seed)), ∀ (c29 : (¬ wh < (nI 0) ∧ ¬ (nI 1) < wh)), ∀ (sd : Nat), ∀ (hsd : 1 ≤ sd ∧ sd ≤ 999999), ∀ (wz : Nat), ∀ (hwz : wz ≤ 1), ∀ (esd : seed = nI sd), ∀ (ewz : wh = nI wz), ∀ (i1 : Nat), ∀ (hi1 : i1 ≤ 40), ∀ (hall : ∀ z, z < i1 → ¬ drN sd (z + 1 + 1) % 10 < (if z % P = pd wn P 0 (drN sd 1 % suN wn mi P) then feN K wi ag (nI 1) else cvf (z % P))), ∀ (c67 : i1 < 40), ∀ (c90 : ¬ (i1 % P) = (pd wn P 0 (drN sd 1 % suN wn mi P))), ∀ (c122 : ((drN sd (i1 + 1 + 1)) % 10) < (cvf (i1 % P))), ∀ (c126 : ¬ wz = 0), ∀ (c140 : ¬ (i1 % P) = (pd wn P 0 (drN sd 1 % suN wn mi P))), Po (some (.int (nI 0))) f sz)
    (K4 : ∀ (c20 : (¬ seed < (nI 1) ∧ ¬ (nI 999999) < seed)), ∀ (c29 : (¬ wh < (nI 0) ∧ ¬ (nI 1) < wh)), ∀ (sd : Nat), ∀ (hsd : 1 ≤ sd ∧ sd ≤ 999999), ∀ (wz : Nat), ∀ (hwz : wz ≤ 1), ∀ (esd : seed = nI sd), ∀ (ewz : wh = nI wz), ∀ (i1 : Nat), ∀ (hi1 : i1 ≤ 40), ∀ (hall : ∀ z, z < i1 → ¬ drN sd (z + 1 + 1) % 10 < (if z % P = pd wn P 0 (drN sd 1 % suN wn mi P) then feN K wi ag (nI 1) else cvf (z % P))), ∀ (c67 : i1 < 40), ∀ (c90 : ¬ (i1 % P) = (pd wn P 0 (drN sd 1 % suN wn mi P))), ∀ (c122 : ((drN sd (i1 + 1 + 1)) % 10) < (cvf (i1 % P))), ∀ (c126 : ¬ wz = 0), ∀ (c140 : (i1 % P) = (pd wn P 0 (drN sd 1 % suN wn mi P))), Po (some (.int (nI 1))) f sz)
    (K5 : ∀ (c20 : (¬ seed < (nI 1) ∧ ¬ (nI 999999) < seed)), ∀ (c29 : (¬ wh < (nI 0) ∧ ¬ (nI 1) < wh)), ∀ (sd : Nat), ∀ (hsd : 1 ≤ sd ∧ sd ≤ 999999), ∀ (wz : Nat), ∀ (hwz : wz ≤ 1), ∀ (esd : seed = nI sd), ∀ (ewz : wh = nI wz), ∀ (i1 : Nat), ∀ (hi1 : i1 ≤ 40), ∀ (hall : ∀ z, z < i1 → ¬ drN sd (z + 1 + 1) % 10 < (if z % P = pd wn P 0 (drN sd 1 % suN wn mi P) then feN K wi ag (nI 1) else cvf (z % P))), ∀ (c67 : i1 < 40), ∀ (c90 : ¬ (i1 % P) = (pd wn P 0 (drN sd 1 % suN wn mi P))), ∀ (c122 : ((drN sd (i1 + 1 + 1)) % 10) < (cvf (i1 % P))), ∀ (c126 : wz = 0), Po (some (.int (nI (i1 + 1)))) f sz)
    (K6 : ∀ (c20 : (¬ seed < (nI 1) ∧ ¬ (nI 999999) < seed)), ∀ (c29 : (¬ wh < (nI 0) ∧ ¬ (nI 1) < wh)), ∀ (sd : Nat), ∀ (hsd : 1 ≤ sd ∧ sd ≤ 999999), ∀ (wz : Nat), ∀ (hwz : wz ≤ 1), ∀ (esd : seed = nI sd), ∀ (ewz : wh = nI wz), ∀ (i1 : Nat), ∀ (hi1 : i1 ≤ 40), ∀ (hall : ∀ z, z < i1 → ¬ drN sd (z + 1 + 1) % 10 < (if z % P = pd wn P 0 (drN sd 1 % suN wn mi P) then feN K wi ag (nI 1) else cvf (z % P))), ∀ (c67 : i1 < 40), ∀ (c90 : (i1 % P) = (pd wn P 0 (drN sd 1 % suN wn mi P))), ∀ (c122 : ((drN sd (i1 + 1 + 1)) % 10) < (feN K wi ag (nI 1))), ∀ (c126 : ¬ wz = 0), ∀ (c140 : ¬ (i1 % P) = (pd wn P 0 (drN sd 1 % suN wn mi P))), Po (some (.int (nI 0))) f sz)
    (K7 : ∀ (c20 : (¬ seed < (nI 1) ∧ ¬ (nI 999999) < seed)), ∀ (c29 : (¬ wh < (nI 0) ∧ ¬ (nI 1) < wh)), ∀ (sd : Nat), ∀ (hsd : 1 ≤ sd ∧ sd ≤ 999999), ∀ (wz : Nat), ∀ (hwz : wz ≤ 1), ∀ (esd : seed = nI sd), ∀ (ewz : wh = nI wz), ∀ (i1 : Nat), ∀ (hi1 : i1 ≤ 40), ∀ (hall : ∀ z, z < i1 → ¬ drN sd (z + 1 + 1) % 10 < (if z % P = pd wn P 0 (drN sd 1 % suN wn mi P) then feN K wi ag (nI 1) else cvf (z % P))), ∀ (c67 : i1 < 40), ∀ (c90 : (i1 % P) = (pd wn P 0 (drN sd 1 % suN wn mi P))), ∀ (c122 : ((drN sd (i1 + 1 + 1)) % 10) < (feN K wi ag (nI 1))), ∀ (c126 : ¬ wz = 0), ∀ (c140 : (i1 % P) = (pd wn P 0 (drN sd 1 % suN wn mi P))), Po (some (.int (nI 1))) f sz)
    (K8 : ∀ (c20 : (¬ seed < (nI 1) ∧ ¬ (nI 999999) < seed)), ∀ (c29 : (¬ wh < (nI 0) ∧ ¬ (nI 1) < wh)), ∀ (sd : Nat), ∀ (hsd : 1 ≤ sd ∧ sd ≤ 999999), ∀ (wz : Nat), ∀ (hwz : wz ≤ 1), ∀ (esd : seed = nI sd), ∀ (ewz : wh = nI wz), ∀ (i1 : Nat), ∀ (hi1 : i1 ≤ 40), ∀ (hall : ∀ z, z < i1 → ¬ drN sd (z + 1 + 1) % 10 < (if z % P = pd wn P 0 (drN sd 1 % suN wn mi P) then feN K wi ag (nI 1) else cvf (z % P))), ∀ (c67 : i1 < 40), ∀ (c90 : (i1 % P) = (pd wn P 0 (drN sd 1 % suN wn mi P))), ∀ (c122 : ((drN sd (i1 + 1 + 1)) % 10) < (feN K wi ag (nI 1))), ∀ (c126 : wz = 0), Po (some (.int (nI (i1 + 1)))) f sz)
    (K9 : ∀ (c20 : (¬ seed < (nI 1) ∧ ¬ (nI 999999) < seed)), ∀ (c29 : ¬ (¬ wh < (nI 0) ∧ ¬ (nI 1) < wh)), Po (some (.int (-1000001))) f sz) : fx_MP G base l yX11_search cX11_search 12 (some .int) rm_X11_search [.ref x, .int (nI j), .int seed, .int wh] f sz Po := by
  refine fx_ofP (by decide +kernel) (Nat.le_of_ble_eq_true rfl) ?_
  intro p e s m args below meth c C hr hk hnm hH ls hl
  obtain ⟨locs, hlocs⟩ : ∃ L : List Loc, L = [] := ⟨_, rfl⟩
  rw [← hlocs] at hH ⊢
  generalize s.heap = H at hH ⊢
  have hx := C.1
  have hb := C.2.1
  have hl : lv_has ls 12 [(0, .ref x), (1, .int (nI j)), (2, .int seed), (3, .int wh)] := hl
  refine lv_aload_n hx hb dX11_search_0 rfl (lv_at hl 0 rfl) ?_
  refine lv_iload_n hx hb dX11_search_1 rfl (lv_at hl 1 rfl) ?_
  refine fx_go1 hH (fx_runV C hH hl.1 (As := [.int (nI j)]) (rest := []) (c_X11_seekerAt_k (G := G) (base := base) (l := l) (f := f) (sz := sz) (o := o) (x := x) (j := j) (ra := ra) (tp := tp) (tc := tc) (ro := ro) (tr := tr) (ia := ia) (aa := aa) (oa := oa) (ak := ak) (fa := fa) (fi := fi) (k := k) (w := w) (pl := nI pl) (wy := wy) (se := se) (to := nI to) (lf := nI lf) (ta := ta) (wt := wt) (ch := ch) (sk := sk) (P := P) (st := nI st) (ov := ov) (mi := nI mi) (ri := nI ri) (tl := tl) (gs := gs) h_x h_ro h_w h_sk (by omega) (by omega) hg) mY_X11_seekerAt ml_X11_141 im_X11_seekerAt se_X11_X11_seekerAt h_x rfl rfl ⟨(Nat.le_of_ble_eq_true rfl), (Nat.le_of_ble_eq_true rfl)⟩ rfl (Nat.le_of_ble_eq_true rfl) ⟨(Nat.le_of_ble_eq_true rfl), (Nat.le_of_ble_eq_true rfl)⟩ dX11_search_2) (fun H locs hH => ?_)
  refine lv_astore (lv' := [(4, .ref o), (0, .ref x), (1, .int (nI j)), (2, .int seed), (3, .int wh)]) hx hb dX11_search_5 hl (by decide) rfl (fun ls hl => ?_)
  refine lv_aload hx hb dX11_search_7 (lv_at hl 0 rfl) ?_
  refine lv_ifnull hx hb dX11_search_9 ?_
  refine lv_iload_n hx hb dX11_search_12 rfl (lv_at hl 3 rfl) ?_
  refine lv_iconst (v := nI 1) hx hb dX11_search_13 (by decide) ?_
  refine lv_ldcw (v := 999999) hx hb C.2.2.2.1 (C.2.2.2.2.1 _ kI_X11_272 rfl args) dX11_search_14 ?_
  refine fx_ti (y := nI 999999) (by decide) ?_
  refine fx_go1 hH (fx_runS C hH hl.1 (As := [.int seed, .int (nI 1), .int (nI 999999)]) (rest := []) (c_X11_within (G := G) (base := base) (l := l) (f := f) (sz := sz) (n := seed) (lo := nI 1) (hi := nI 999999) ) mY_X11_within ml_X11_56 st_X11_within rfl ⟨(Nat.le_of_ble_eq_true rfl), (Nat.le_of_ble_eq_true rfl)⟩ rfl (Nat.le_of_ble_eq_true rfl) ⟨(Nat.le_of_ble_eq_true rfl), (Nat.le_of_ble_eq_true rfl)⟩ dX11_search_17) (fun H locs hH => ?_)
  refine fx_b_eq hx hb (tgt := 32) dX11_search_20 (by decide) (fun c20 => ?_) (fun c20 => ?_)
  · refine lv_ldc (v := (-1000001)) hx hb C.2.2.2.1 (C.2.2.2.2.1 _ kI_X11_60 rfl args) dX11_search_32 ?_
    exact fx_iretP C hr hk hH (K1 c20) (Nat.zero_le _) (Nat.zero_le _) dX11_search_34
  · refine lv_iload_n hx hb dX11_search_23 rfl (lv_at hl 4 rfl) ?_
    refine lv_iconst (v := nI 0) hx hb dX11_search_24 (by decide) ?_
    refine lv_iconst (v := nI 1) hx hb dX11_search_25 (by decide) ?_
    refine fx_go1 hH (fx_runS C hH hl.1 (As := [.int wh, .int (nI 0), .int (nI 1)]) (rest := []) (c_X11_within (G := G) (base := base) (l := l) (f := f) (sz := sz) (n := wh) (lo := nI 0) (hi := nI 1) ) mY_X11_within ml_X11_56 st_X11_within rfl ⟨(Nat.le_of_ble_eq_true rfl), (Nat.le_of_ble_eq_true rfl)⟩ rfl (Nat.le_of_ble_eq_true rfl) ⟨(Nat.le_of_ble_eq_true rfl), (Nat.le_of_ble_eq_true rfl)⟩ dX11_search_26) (fun H locs hH => ?_)
    refine fx_b_ne hx hb (tgt := 35) dX11_search_29 (by decide) (fun c29 => ?_) (fun c29 => ?_)
    · obtain ⟨sd, hsd1, hsd2, rfl⟩ := rng1 (M := 1) (N := 999999) (by omega) (by omega) c20
      obtain ⟨wz, hwz, rfl⟩ := rng (N := 1) (by omega) c29.1 c29.2
      have hsd : 1 ≤ sd ∧ sd ≤ 999999 := ⟨hsd1, hsd2⟩
      have hdr := fun k_ => drN_lt (x := sd) (by omega) k_
      have hdr1 := hdr 1
      have hfl : feN K wi ag (nI 1) ≤ 10 := feN_le hwi hag
      · skip
        refine lv_aload_n hx hb dX11_search_35 rfl (lv_at hl 1 rfl) ?_
        refine fx_get C hH (k := 3) (v := .ref ro) h_x ff_X11_44_10 rfl dX11_search_36 ?_
        refine fx_get C hH (k := 1) (v := .ref w) h_ro ff_X11_197_4 rfl dX11_search_39 ?_
        refine lv_astore (lv' := [(5, .ref w), (4, .ref o), (0, .ref x), (1, .int (nI j)), (2, .int (nI sd)), (3, .int (nI wz))]) hx hb dX11_search_42 hl (by decide) rfl (fun ls hl => ?_)
        refine lv_iload_n hx hb dX11_search_44 rfl (lv_at hl 4 rfl) ?_
        refine lv_i2l (v := lN sd) hx hb dX11_search_45 (nI_l (by omega)) ?_
        refine fx_go1 hH (fx_runS C hH hl.1 (As := [.long (lN sd)]) (rest := []) (c_X11_nextDraw (G := G) (base := base) (l := l) (f := f) (sz := sz) (x := lN sd) ) mY_X11_nextDraw ml_X11_273 st_X11_nextDraw rfl ⟨(Nat.le_of_ble_eq_true rfl), (Nat.le_of_ble_eq_true rfl)⟩ rfl (Nat.le_of_ble_eq_true rfl) ⟨(Nat.le_of_ble_eq_true rfl), (Nat.le_of_ble_eq_true rfl)⟩ dX11_search_46) (fun H locs hH => ?_)
        refine fx_tl (y := lN (drN sd 1)) (drw_N (by omega)) ?_
        refine lv_lstore (lv' := [(6, .long (lN (drN sd 1))), (5, .ref w), (4, .ref o), (0, .ref x), (1, .int (nI j)), (2, .int (nI sd)), (3, .int (nI wz))]) hx hb dX11_search_49 hl (by decide) rfl (fun ls hl => ?_)
        refine lv_aload hx hb dX11_search_51 (lv_at hl 1 rfl) ?_
        refine lv_lload hx hb dX11_search_53 (lv_at hl 0 rfl) ?_
        refine fx_go1 hH (fx_runV C hH hl.1 (As := [.long (lN (drN sd 1))]) (rest := []) (c_X2_placeOfDraw (G := G) (base := base) (l := l) (f := f) (sz := sz) (wn := wn) (w := w) (x := drN sd 1) (wt := wt) (ch := ch) (sk := sk) (P := P) (st := nI st) (ov := ov) (mi := mi) (ri := nI ri) (tl := nI tl) (g := g) h_w h_wt (by omega) hwn (by omega) (by omega)) mY_X2_placeOfDraw ml_X11_277 im_X2_placeOfDraw se_X2_X2_placeOfDraw h_w rfl rfl ⟨(Nat.le_of_ble_eq_true rfl), (Nat.le_of_ble_eq_true rfl)⟩ rfl (Nat.le_of_ble_eq_true rfl) ⟨(Nat.le_of_ble_eq_true rfl), (Nat.le_of_ble_eq_true rfl)⟩ dX11_search_55) (fun H locs hH => ?_)
        refine lv_istore (lv' := [(8, .int (nI (pd wn P 0 ((drN sd 1) % suN wn mi P)))), (6, .long (lN (drN sd 1))), (5, .ref w), (4, .ref o), (0, .ref x), (1, .int (nI j)), (2, .int (nI sd)), (3, .int (nI wz))]) hx hb dX11_search_58 hl (by decide) rfl (fun ls hl => ?_)
        refine lv_iconst (v := nI 0) hx hb dX11_search_60 (by decide) ?_
        refine lv_istore (lv' := [(9, .int (nI 0)), (8, .int (nI (pd wn P 0 ((drN sd 1) % suN wn mi P)))), (6, .long (lN (drN sd 1))), (5, .ref w), (4, .ref o), (0, .ref x), (1, .int (nI j)), (2, .int (nI sd)), (3, .int (nI wz))]) hx hb dX11_search_61 hl (by decide) rfl (fun ls hl => ?_)
        have hpd0 : pd wn P 0 (drN sd 1 % suN wn mi P) ≤ P := pd_le (by omega)
        have loop_63 : ∀ (N_63 : Nat) (i1 : Nat) (hi1 : i1 ≤ 40) (hall : ∀ z, z < i1 → ¬ drN sd (z + 1 + 1) % 10 < (if z % P = pd wn P 0 (drN sd 1 % suN wn mi P) then feN K wi ag (nI 1) else cvf (z % P))) (hm_63 : 40 - i1 < N_63) (H : Heap) (locs : List Loc) (hH : fx_H G base s f sz H locs) (ls : Array Slot) (hl : lv_has ls 12 [(0, .ref x), (1, .int (nI j)), (2, .int (nI sd)), (3, .int (nI wz)), (4, .ref o), (5, .ref w), (6, .long (lN (drN sd (i1 + 1)))), (8, .int (nI (pd wn P 0 (drN sd 1 % suN wn mi P)))), (9, .int (nI i1))]), W p l e rm_X11_search s m args below meth c H locs 0 0 (MQ below (fx_QP G base Po) args s rm_X11_search.cells rm_X11_search.slots (fun q => base ≤ q)) (F0 m 63 ls []) := by
          intro N_63
          induction N_63 with
          | zero => intro i1 hi1 hall hm_63; exact absurd hm_63 (Nat.not_lt_zero _)
          | succ N_63 ih_63 =>
            intro i1 hi1 hall hm_63 H locs hH ls hl
            have hmod : i1 % P < P := Nat.mod_lt _ (by omega)
            have hci := hcf (i1 % P) hmod
            have hpd : pd wn P 0 (drN sd 1 % suN wn mi P) ≤ P := pd_le (by omega)
            have hd10 : drN sd (i1 + 1 + 1) % 10 < 10 := Nat.mod_lt _ (by omega)
            refine lv_iload hx hb dX11_search_63 (lv_at hl 8 rfl) ?_
            refine lv_bipush (v := nI 40) hx hb dX11_search_65 (by decide) ?_
            refine fx_N_ge (a := i1) (b := 40) hx hb (by omega) (by omega) (tgt := 155) dX11_search_67 (by decide) (fun c67 => ?_) (fun c67 => ?_)
            · refine lv_ldc (v := (-1000000)) hx hb C.2.2.2.1 (C.2.2.2.2.1 _ kI_X11_231 rfl args) dX11_search_155 ?_
              exact fx_iretP C hr hk hH (K2 c20 c29 sd hsd wz hwz rfl rfl i1 hi1 hall c67) (Nat.zero_le _) (Nat.zero_le _) dX11_search_157
            · refine lv_aload hx hb dX11_search_70 (lv_at hl 5 rfl) ?_
              refine lv_iload hx hb dX11_search_72 (lv_at hl 8 rfl) ?_
              refine fx_go1 hH (fx_runV C hH hl.1 (As := [.int (nI i1)]) (rest := []) (c_X2_around (G := G) (base := base) (l := l) (f := f) (sz := sz) (w := w) (x := nI i1) (wt := wt) (ch := ch) (sk := sk) (P := P) (st := st) (ov := ov) (mi := nI mi) (ri := nI ri) (tl := nI tl) h_w (by omega)) mY_X2_around ml_X11_281 im_X2_around se_X2_X2_around h_w rfl rfl ⟨(Nat.le_of_ble_eq_true rfl), (Nat.le_of_ble_eq_true rfl)⟩ rfl (Nat.le_of_ble_eq_true rfl) ⟨(Nat.le_of_ble_eq_true rfl), (Nat.le_of_ble_eq_true rfl)⟩ dX11_search_74) (fun H locs hH => ?_)
              refine fx_ti (y := nI (i1 % P)) (arK_t P (by omega) (by omega) i1 (by omega)) ?_
              refine lv_istore (lv' := [(10, .int (nI (i1 % P))), (0, .ref x), (1, .int (nI j)), (2, .int (nI sd)), (3, .int (nI wz)), (4, .ref o), (5, .ref w), (6, .long (lN (drN sd (i1 + 1)))), (8, .int (nI (pd wn P 0 (drN sd 1 % suN wn mi P)))), (9, .int (nI i1))]) hx hb dX11_search_77 hl (by decide) rfl (fun ls hl => ?_)
              refine lv_lload hx hb dX11_search_79 (lv_at hl 7 rfl) ?_
              refine fx_go1 hH (fx_runS C hH hl.1 (As := [.long (lN (drN sd (i1 + 1)))]) (rest := []) (c_X11_nextDraw (G := G) (base := base) (l := l) (f := f) (sz := sz) (x := lN (drN sd (i1 + 1))) ) mY_X11_nextDraw ml_X11_273 st_X11_nextDraw rfl ⟨(Nat.le_of_ble_eq_true rfl), (Nat.le_of_ble_eq_true rfl)⟩ rfl (Nat.le_of_ble_eq_true rfl) ⟨(Nat.le_of_ble_eq_true rfl), (Nat.le_of_ble_eq_true rfl)⟩ dX11_search_81) (fun H locs hH => ?_)
              refine fx_tl (y := lN (drN sd (i1 + 1 + 1))) (drw_N (hdr (i1 + 1))) ?_
              refine lv_lstore (lv' := [(6, .long (lN (drN sd (i1 + 1 + 1)))), (10, .int (nI (i1 % P))), (0, .ref x), (1, .int (nI j)), (2, .int (nI sd)), (3, .int (nI wz)), (4, .ref o), (5, .ref w), (8, .int (nI (pd wn P 0 (drN sd 1 % suN wn mi P)))), (9, .int (nI i1))]) hx hb dX11_search_84 hl (by decide) rfl (fun ls hl => ?_)
              refine lv_iload hx hb dX11_search_86 (lv_at hl 1 rfl) ?_
              refine lv_iload hx hb dX11_search_88 (lv_at hl 8 rfl) ?_
              refine fx_N_ne (a := i1 % P) (b := pd wn P 0 (drN sd 1 % suN wn mi P)) hx hb (by omega) (by omega) (tgt := 102) dX11_search_90 (by decide) (fun c90 => ?_) (fun c90 => ?_)
              · refine lv_aload hx hb dX11_search_102 (lv_at hl 7 rfl) ?_
                refine fx_get C hH (k := 1) (v := .ref ch) h_w ff_X11_204_2 rfl dX11_search_104 ?_
                refine lv_iload hx hb dX11_search_107 (lv_at hl 1 rfl) ?_
                refine fx_ialdN C hH h_ch (by omega) (by omega) dX11_search_109 ?_
                refine fx_ti (y := nI (cvf (i1 % P))) hci.1 ?_
                refine lv_istore (lv' := [(11, .int (nI (cvf (i1 % P)))), (6, .long (lN (drN sd (i1 + 1 + 1)))), (10, .int (nI (i1 % P))), (0, .ref x), (1, .int (nI j)), (2, .int (nI sd)), (3, .int (nI wz)), (4, .ref o), (5, .ref w), (8, .int (nI (pd wn P 0 (drN sd 1 % suN wn mi P)))), (9, .int (nI i1))]) hx hb dX11_search_110 hl (by decide) rfl (fun ls hl => ?_)
                refine lv_lload hx hb dX11_search_112 (lv_at hl 1 rfl) ?_
                refine lv_ldc2 (v := (10)) hx hb C.2.2.2.1 (C.2.2.2.2.1 _ kL_X11_229 rfl args) dX11_search_114 ?_
                refine fx_tl (y := lN 10) (by decide) ?_
                refine lv_lrem hx hb dX11_search_117 (fun q => absurd ((pk_lEQ (b := 0) (by omega) (by omega)).mp q) (by omega)) ?_
                refine fx_tl (y := lN ((drN sd (i1 + 1 + 1)) % 10)) (pk_lRem (by have := hdr (i1 + 1 + 1); omega) (by omega) (by omega)) ?_
                refine lv_iload hx hb dX11_search_118 (lv_at hl 0 rfl) ?_
                refine lv_i2l (v := lN (cvf (i1 % P))) hx hb dX11_search_120 (nI_l (by omega)) ?_
                refine W.lcmp hx hb dX11_search_121 ?_
                refine fx_JN_ge (a := (drN sd (i1 + 1 + 1)) % 10) (b := cvf (i1 % P)) hx hb (by omega) (by omega) (tgt := 149) dX11_search_122 (by decide) (fun c122 => ?_) (fun c122 => ?_)
                · refine lv_iinc (v := nI (i1 + 1)) (lv' := [(9, .int (nI (i1 + 1))), (11, .int (nI (cvf (i1 % P)))), (6, .long (lN (drN sd (i1 + 1 + 1)))), (10, .int (nI (i1 % P))), (0, .ref x), (1, .int (nI j)), (2, .int (nI sd)), (3, .int (nI wz)), (4, .ref o), (5, .ref w), (8, .int (nI (pd wn P 0 (drN sd 1 % suN wn mi P))))]) hx hb dX11_search_149 hl (k := 10) rfl (nI_1 _) (by decide) rfl (fun ls hl => ?_)
                  refine lv_goto (tgt := 63) hx hb dX11_search_152 (by decide) ?_
                  have hl : lv_has ls 12 [(0, .ref x), (1, .int (nI j)), (2, .int (nI sd)), (3, .int (nI wz)), (4, .ref o), (5, .ref w), (6, .long (lN (drN sd (i1 + 1 + 1)))), (8, .int (nI (pd wn P 0 (drN sd 1 % suN wn mi P)))), (9, .int (nI (i1 + 1)))] := lv_sub hl [4, 5, 6, 7, 8, 9, 2, 10, 0] rfl
                  have hl : lv_has ls 12 [(0, .ref x), (1, .int (nI j)), (2, .int (nI sd)), (3, .int (nI wz)), (4, .ref o), (5, .ref w), (6, .long (lN (drN sd ((i1 + 1) + 1)))), (8, .int (nI (pd wn P 0 (drN sd 1 % suN wn mi P)))), (9, .int (nI (i1 + 1)))] := hl
                  exact ih_63 (i1 + 1) (by omega) (fun z hz => by rcases Nat.lt_succ_iff_lt_or_eq.mp hz with q9 | q9; exact hall z q9; subst q9; first | (rw [if_pos c90]; omega) | (rw [if_neg c90]; omega)) (by omega) _ _ hH _ hl
                · refine lv_iload_n hx hb dX11_search_125 rfl (lv_at hl 6 rfl) ?_
                  refine fx_O_ne (a := wz) hx hb (by omega) (tgt := 136) dX11_search_126 (by decide) (fun c126 => ?_) (fun c126 => ?_)
                  · refine lv_iload hx hb dX11_search_136 (lv_at hl 2 rfl) ?_
                    refine lv_iload hx hb dX11_search_138 (lv_at hl 9 rfl) ?_
                    refine fx_N_ne (a := i1 % P) (b := pd wn P 0 (drN sd 1 % suN wn mi P)) hx hb (by omega) (by omega) (tgt := 147) dX11_search_140 (by decide) (fun c140 => ?_) (fun c140 => ?_)
                    · refine lv_iconst (v := nI 0) hx hb dX11_search_147 (by decide) ?_
                      exact fx_iretP C hr hk hH (K3 c20 c29 sd hsd wz hwz rfl rfl i1 hi1 hall c67 c90 c122 c126 c140) (Nat.zero_le _) (Nat.zero_le _) dX11_search_148
                    · refine lv_iconst (v := nI 1) hx hb dX11_search_143 (by decide) ?_
                      refine lv_goto (tgt := 148) hx hb dX11_search_144 (by decide) ?_
                      exact fx_iretP C hr hk hH (K4 c20 c29 sd hsd wz hwz rfl rfl i1 hi1 hall c67 c90 c122 c126 c140) (Nat.zero_le _) (Nat.zero_le _) dX11_search_148
                  · refine lv_iload hx hb dX11_search_129 (lv_at hl 10 rfl) ?_
                    refine lv_iconst (v := nI 1) hx hb dX11_search_131 (by decide) ?_
                    refine lv_iadd hx hb dX11_search_132 ?_
                    refine fx_ti (y := nI (i1 + 1)) (nI_add _ _) ?_
                    refine lv_goto (tgt := 148) hx hb dX11_search_133 (by decide) ?_
                    exact fx_iretP C hr hk hH (K5 c20 c29 sd hsd wz hwz rfl rfl i1 hi1 hall c67 c90 c122 c126) (Nat.zero_le _) (Nat.zero_le _) dX11_search_148
              · refine lv_aload hx hb dX11_search_93 (lv_at hl 6 rfl) ?_
                refine lv_iconst (v := nI 1) hx hb dX11_search_95 (by decide) ?_
                refine fx_go1 hH (vk_feel C hH hl.1 (f := f) (sz := sz) (o := o) (wy := nI 1) (K := K) (nn := nn) (wi := wi) (ag := ag) h_o (by omega) (by omega) (by omega)  (rest := []) ml_X11_213 (Nat.le_of_ble_eq_true rfl) (Nat.le_of_ble_eq_true rfl) (Nat.le_of_ble_eq_true rfl) ⟨(Nat.le_of_ble_eq_true rfl), (Nat.le_of_ble_eq_true rfl)⟩ dX11_search_96) (fun H locs hH => ?_)
                refine lv_goto (tgt := 110) hx hb dX11_search_99 (by decide) ?_
                refine lv_istore (lv' := [(11, .int (nI (feN K wi ag (nI 1)))), (6, .long (lN (drN sd (i1 + 1 + 1)))), (10, .int (nI (i1 % P))), (0, .ref x), (1, .int (nI j)), (2, .int (nI sd)), (3, .int (nI wz)), (4, .ref o), (5, .ref w), (8, .int (nI (pd wn P 0 (drN sd 1 % suN wn mi P)))), (9, .int (nI i1))]) hx hb dX11_search_110 hl (by decide) rfl (fun ls hl => ?_)
                refine lv_lload hx hb dX11_search_112 (lv_at hl 1 rfl) ?_
                refine lv_ldc2 (v := (10)) hx hb C.2.2.2.1 (C.2.2.2.2.1 _ kL_X11_229 rfl args) dX11_search_114 ?_
                refine fx_tl (y := lN 10) (by decide) ?_
                refine lv_lrem hx hb dX11_search_117 (fun q => absurd ((pk_lEQ (b := 0) (by omega) (by omega)).mp q) (by omega)) ?_
                refine fx_tl (y := lN ((drN sd (i1 + 1 + 1)) % 10)) (pk_lRem (by have := hdr (i1 + 1 + 1); omega) (by omega) (by omega)) ?_
                refine lv_iload hx hb dX11_search_118 (lv_at hl 0 rfl) ?_
                refine lv_i2l (v := lN (feN K wi ag (nI 1))) hx hb dX11_search_120 (nI_l (by omega)) ?_
                refine W.lcmp hx hb dX11_search_121 ?_
                refine fx_JN_ge (a := (drN sd (i1 + 1 + 1)) % 10) (b := feN K wi ag (nI 1)) hx hb (by omega) (by omega) (tgt := 149) dX11_search_122 (by decide) (fun c122 => ?_) (fun c122 => ?_)
                · refine lv_iinc (v := nI (i1 + 1)) (lv' := [(9, .int (nI (i1 + 1))), (11, .int (nI (feN K wi ag (nI 1)))), (6, .long (lN (drN sd (i1 + 1 + 1)))), (10, .int (nI (i1 % P))), (0, .ref x), (1, .int (nI j)), (2, .int (nI sd)), (3, .int (nI wz)), (4, .ref o), (5, .ref w), (8, .int (nI (pd wn P 0 (drN sd 1 % suN wn mi P))))]) hx hb dX11_search_149 hl (k := 10) rfl (nI_1 _) (by decide) rfl (fun ls hl => ?_)
                  refine lv_goto (tgt := 63) hx hb dX11_search_152 (by decide) ?_
                  have hl : lv_has ls 12 [(0, .ref x), (1, .int (nI j)), (2, .int (nI sd)), (3, .int (nI wz)), (4, .ref o), (5, .ref w), (6, .long (lN (drN sd (i1 + 1 + 1)))), (8, .int (nI (pd wn P 0 (drN sd 1 % suN wn mi P)))), (9, .int (nI (i1 + 1)))] := lv_sub hl [4, 5, 6, 7, 8, 9, 2, 10, 0] rfl
                  have hl : lv_has ls 12 [(0, .ref x), (1, .int (nI j)), (2, .int (nI sd)), (3, .int (nI wz)), (4, .ref o), (5, .ref w), (6, .long (lN (drN sd ((i1 + 1) + 1)))), (8, .int (nI (pd wn P 0 (drN sd 1 % suN wn mi P)))), (9, .int (nI (i1 + 1)))] := hl
                  exact ih_63 (i1 + 1) (by omega) (fun z hz => by rcases Nat.lt_succ_iff_lt_or_eq.mp hz with q9 | q9; exact hall z q9; subst q9; first | (rw [if_pos c90]; omega) | (rw [if_neg c90]; omega)) (by omega) _ _ hH _ hl
                · refine lv_iload_n hx hb dX11_search_125 rfl (lv_at hl 6 rfl) ?_
                  refine fx_O_ne (a := wz) hx hb (by omega) (tgt := 136) dX11_search_126 (by decide) (fun c126 => ?_) (fun c126 => ?_)
                  · refine lv_iload hx hb dX11_search_136 (lv_at hl 2 rfl) ?_
                    refine lv_iload hx hb dX11_search_138 (lv_at hl 9 rfl) ?_
                    refine fx_N_ne (a := i1 % P) (b := pd wn P 0 (drN sd 1 % suN wn mi P)) hx hb (by omega) (by omega) (tgt := 147) dX11_search_140 (by decide) (fun c140 => ?_) (fun c140 => ?_)
                    · refine lv_iconst (v := nI 0) hx hb dX11_search_147 (by decide) ?_
                      exact fx_iretP C hr hk hH (K6 c20 c29 sd hsd wz hwz rfl rfl i1 hi1 hall c67 c90 c122 c126 c140) (Nat.zero_le _) (Nat.zero_le _) dX11_search_148
                    · refine lv_iconst (v := nI 1) hx hb dX11_search_143 (by decide) ?_
                      refine lv_goto (tgt := 148) hx hb dX11_search_144 (by decide) ?_
                      exact fx_iretP C hr hk hH (K7 c20 c29 sd hsd wz hwz rfl rfl i1 hi1 hall c67 c90 c122 c126 c140) (Nat.zero_le _) (Nat.zero_le _) dX11_search_148
                  · refine lv_iload hx hb dX11_search_129 (lv_at hl 10 rfl) ?_
                    refine lv_iconst (v := nI 1) hx hb dX11_search_131 (by decide) ?_
                    refine lv_iadd hx hb dX11_search_132 ?_
                    refine fx_ti (y := nI (i1 + 1)) (nI_add _ _) ?_
                    refine lv_goto (tgt := 148) hx hb dX11_search_133 (by decide) ?_
                    exact fx_iretP C hr hk hH (K8 c20 c29 sd hsd wz hwz rfl rfl i1 hi1 hall c67 c90 c122 c126) (Nat.zero_le _) (Nat.zero_le _) dX11_search_148
        have hl : lv_has ls 12 [(0, .ref x), (1, .int (nI j)), (2, .int (nI sd)), (3, .int (nI wz)), (4, .ref o), (5, .ref w), (6, .long (lN (drN sd 1))), (8, .int (nI (pd wn P 0 ((drN sd 1) % suN wn mi P)))), (9, .int (nI 0))] := lv_sub hl [5, 6, 7, 8, 4, 3, 2, 1, 0] rfl
        have hl : lv_has ls 12 [(0, .ref x), (1, .int (nI j)), (2, .int (nI sd)), (3, .int (nI wz)), (4, .ref o), (5, .ref w), (6, .long (lN (drN sd (0 + 1)))), (8, .int (nI (pd wn P 0 (drN sd 1 % suN wn mi P)))), (9, .int (nI 0))] := hl
        exact loop_63 _ 0 (by omega) (fun z hz => absurd hz (Nat.not_lt_zero _)) (Nat.lt_succ_self _) _ _ hH _ hl
    · refine lv_ldc (v := (-1000001)) hx hb C.2.2.2.1 (C.2.2.2.2.1 _ kI_X11_60 rfl args) dX11_search_32 ?_
      exact fx_iretP C hr hk hH (K9 c20 c29) (Nat.zero_le _) (Nat.zero_le _) dX11_search_34
