abbrev rm_X6_lay : Room := { frames := 0, cells := 0, slots := 0, locals := 0 }
set_option maxHeartbeats 4000000 in
set_option maxRecDepth 100000 in
theorem c_X6_lay {G : GG} {base : Nat} {l : Launch} {f : Hp} {sz : Nat} {r : Nat} {ln : Int32} {n : Int32} {it : Nat} {mi : Int32} {la : Int32} {si : Int32} {g : Nat → Int32} (h_r : f r = some (oO 6 [.ref it, .int mi, .int la, .int si])) (h_it : f it = some (oI 40 g)) : fx_M G base l yX6_lay cX6_lay 4 none rm_X6_lay [.ref r, .int ln, .int n] f sz none (fx_up (fx_up f r (oO 6 [.ref it, .int (nI 0), .int ln, .int n])) it (oI 40 (fI g 0 (fun _ => nI 0) 40))) sz := by
  refine fx_of (by decide +kernel) (Nat.le_of_ble_eq_true rfl) ?_
  intro p e s m args below meth c C hr hk hnm hH ls hl
  obtain ⟨locs, hlocs⟩ : ∃ L : List Loc, L = [] := ⟨_, rfl⟩
  rw [← hlocs] at hH ⊢
  generalize s.heap = H at hH ⊢
  have hx := C.1
  have hb := C.2.1
  have hl : lv_has ls 4 [(0, .ref r), (1, .int ln), (2, .int n)] := hl
  refine lv_aload_n hx hb dX6_lay_0 rfl (lv_at hl 0 rfl) ?_
  refine lv_iconst (v := nI 0) hx hb dX6_lay_1 (by decide) ?_
  refine fx_putT C hH (k := 1) h_r ff_X6_15_6 fL_6 fT_6_1 rfl rfl (Nat.le_of_ble_eq_true rfl) dX6_lay_2 (fun H locs hH => ?_)
  have hH : fx_H G base s (fx_up f r (oO 6 [.ref it, .int (nI 0), .int la, .int si])) sz H locs := hH
  have h1_it : (fx_up f r (oO 6 [.ref it, .int (nI 0), .int la, .int si])) it = some (oI 40 g) := (fx_up_n _ _ (fx_ne h_it h_r rfl)).trans h_it
  have h1_r : (fx_up f r (oO 6 [.ref it, .int (nI 0), .int la, .int si])) r = some (oO 6 [.ref it, .int (nI 0), .int la, .int si]) := fx_up_s _ _ _
  refine lv_aload_n hx hb dX6_lay_5 rfl (lv_at hl 0 rfl) ?_
  refine lv_iload_n hx hb dX6_lay_6 rfl (lv_at hl 1 rfl) ?_
  refine fx_putT C hH (k := 2) h1_r ff_X6_19_6 fL_6 fT_6_2 rfl rfl (Nat.le_of_ble_eq_true rfl) dX6_lay_7 (fun H locs hH => ?_)
  have hH : fx_H G base s (fx_up (fx_up f r (oO 6 [.ref it, .int (nI 0), .int la, .int si])) r (oO 6 [.ref it, .int (nI 0), .int ln, .int si])) sz H locs := hH
  rw [fx_up_up] at hH
  have hH : fx_H G base s (fx_up f r (oO 6 [.ref it, .int (nI 0), .int ln, .int si])) sz H locs := hH
  have heq2 : fx_up (fx_up f r (oO 6 [.ref it, .int (nI 0), .int la, .int si])) r (oO 6 [.ref it, .int (nI 0), .int ln, .int si]) = fx_up f r (oO 6 [.ref it, .int (nI 0), .int ln, .int si]) := by rw [fx_up_up]
  have h2_it : (fx_up f r (oO 6 [.ref it, .int (nI 0), .int ln, .int si])) it = some (oI 40 g) := (congrFun heq2 it).symm.trans ((fx_up_n _ _ (fx_ne h1_it h1_r rfl)).trans h1_it)
  have h2_r : (fx_up f r (oO 6 [.ref it, .int (nI 0), .int ln, .int si])) r = some (oO 6 [.ref it, .int (nI 0), .int ln, .int si]) := (congrFun heq2 r).symm.trans (fx_up_s _ _ _)
  refine lv_aload_n hx hb dX6_lay_10 rfl (lv_at hl 0 rfl) ?_
  refine lv_iload_n hx hb dX6_lay_11 rfl (lv_at hl 2 rfl) ?_
  refine fx_putT C hH (k := 3) h2_r ff_X6_23_6 fL_6 fT_6_3 rfl rfl (Nat.le_of_ble_eq_true rfl) dX6_lay_12 (fun H locs hH => ?_)
  have hH : fx_H G base s (fx_up (fx_up f r (oO 6 [.ref it, .int (nI 0), .int ln, .int si])) r (oO 6 [.ref it, .int (nI 0), .int ln, .int n])) sz H locs := hH
  rw [fx_up_up] at hH
  have hH : fx_H G base s (fx_up f r (oO 6 [.ref it, .int (nI 0), .int ln, .int n])) sz H locs := hH
  have heq3 : fx_up (fx_up f r (oO 6 [.ref it, .int (nI 0), .int ln, .int si])) r (oO 6 [.ref it, .int (nI 0), .int ln, .int n]) = fx_up f r (oO 6 [.ref it, .int (nI 0), .int ln, .int n]) := by rw [fx_up_up]
  have h3_it : (fx_up f r (oO 6 [.ref it, .int (nI 0), .int ln, .int n])) it = some (oI 40 g) := (congrFun heq3 it).symm.trans ((fx_up_n _ _ (fx_ne h2_it h2_r rfl)).trans h2_it)
  have h3_r : (fx_up f r (oO 6 [.ref it, .int (nI 0), .int ln, .int n])) r = some (oO 6 [.ref it, .int (nI 0), .int ln, .int n]) := (congrFun heq3 r).symm.trans (fx_up_s _ _ _)
  refine lv_iconst (v := nI 0) hx hb dX6_lay_15 (by decide) ?_
  refine lv_istore_n (lv' := [(3, .int (nI 0)), (0, .ref r), (1, .int ln), (2, .int n)]) hx hb dX6_lay_16 rfl hl (by decide) rfl (fun ls hl => ?_)
  have loop_17 : ∀ (N_17 : Nat) (i : Nat) (hi : i ≤ 40) (hm_17 : 40 - i < N_17) (H : Heap) (locs : List Loc) (hH : fx_H G base s (fx_up (fx_up f r (oO 6 [.ref it, .int (nI 0), .int ln, .int n])) it (oI 40 (fI g 0 (fun _ => nI 0) i))) sz H locs) (ls : Array Slot) (hl : lv_has ls 4 [(0, .ref r), (1, .int ln), (2, .int n), (3, .int (nI i))]), W p l e rm_X6_lay s m args below meth c H locs 0 0 (MQ below (fx_Q G base none (fx_up (fx_up f r (oO 6 [.ref it, .int (nI 0), .int ln, .int n])) it (oI 40 (fI g 0 (fun _ => nI 0) 40))) sz) args s rm_X6_lay.cells rm_X6_lay.slots (fun q => base ≤ q)) (F0 m 17 ls []) := by
    intro N_17
    induction N_17 with
    | zero => intro i hi hm_17; exact absurd hm_17 (Nat.not_lt_zero _)
    | succ N_17 ih_17 =>
      intro i hi hm_17 H locs hH ls hl
      have h4_it : (fx_up (fx_up f r (oO 6 [.ref it, .int (nI 0), .int ln, .int n])) it (oI 40 (fI g 0 (fun _ => nI 0) i))) it = some (oI 40 (fI g 0 (fun _ => nI 0) i)) := fx_up_s _ _ _
      have h4_r : (fx_up (fx_up f r (oO 6 [.ref it, .int (nI 0), .int ln, .int n])) it (oI 40 (fI g 0 (fun _ => nI 0) i))) r = some (oO 6 [.ref it, .int (nI 0), .int ln, .int n]) := (fx_up_n _ _ (fx_ne h3_r h3_it rfl)).trans (fx_up_s _ _ _)
      refine lv_iload_n hx hb dX6_lay_17 rfl (lv_at hl 3 rfl) ?_
      refine lv_bipush (v := nI 40) hx hb dX6_lay_18 (by decide) ?_
      refine fx_N_ge (a := i) (b := 40) hx hb (by omega) (by omega) (tgt := 36) dX6_lay_20 (by decide) (fun c20 => ?_) (fun c20 => ?_)
      · exact fx_vret C hr hk hH (by rw [show i = 40 from by omega]) rfl (Nat.zero_le _) (Nat.zero_le _) dX6_lay_36
      · refine lv_aload_n hx hb dX6_lay_23 rfl (lv_at hl 0 rfl) ?_
        refine fx_get C hH (k := 0) (v := .ref it) h4_r ff_X6_9_6 rfl dX6_lay_24 ?_
        refine lv_iload_n hx hb dX6_lay_27 rfl (lv_at hl 3 rfl) ?_
        refine lv_iconst (v := nI 0) hx hb dX6_lay_28 (by decide) ?_
        refine fx_iastN C hH h4_it (by omega) (by omega) dX6_lay_29 (fun H locs hH => ?_)
        have hH : fx_H G base s (fx_up (fx_up (fx_up f r (oO 6 [.ref it, .int (nI 0), .int ln, .int n])) it (oI 40 (fI g 0 (fun _ => nI 0) i))) it (oI 40 (upd (fI g 0 (fun _ => nI 0) i) i (nI 0)))) sz H locs := hH
        rw [fx_up_up] at hH
        have hH : fx_H G base s (fx_up (fx_up f r (oO 6 [.ref it, .int (nI 0), .int ln, .int n])) it (oI 40 (upd (fI g 0 (fun _ => nI 0) i) i (nI 0)))) sz H locs := hH
        have heq5 : fx_up (fx_up (fx_up f r (oO 6 [.ref it, .int (nI 0), .int ln, .int n])) it (oI 40 (fI g 0 (fun _ => nI 0) i))) it (oI 40 (upd (fI g 0 (fun _ => nI 0) i) i (nI 0))) = fx_up (fx_up f r (oO 6 [.ref it, .int (nI 0), .int ln, .int n])) it (oI 40 (upd (fI g 0 (fun _ => nI 0) i) i (nI 0))) := by rw [fx_up_up]
        have h5_r : (fx_up (fx_up f r (oO 6 [.ref it, .int (nI 0), .int ln, .int n])) it (oI 40 (upd (fI g 0 (fun _ => nI 0) i) i (nI 0)))) r = some (oO 6 [.ref it, .int (nI 0), .int ln, .int n]) := (congrFun heq5 r).symm.trans ((fx_up_n _ _ (fx_ne h4_r h4_it rfl)).trans h4_r)
        have h5_it : (fx_up (fx_up f r (oO 6 [.ref it, .int (nI 0), .int ln, .int n])) it (oI 40 (upd (fI g 0 (fun _ => nI 0) i) i (nI 0)))) it = some (oI 40 (upd (fI g 0 (fun _ => nI 0) i) i (nI 0))) := (congrFun heq5 it).symm.trans (fx_up_s _ _ _)
        refine lv_iinc (v := nI (i + 1)) (lv' := [(3, .int (nI (i + 1))), (0, .ref r), (1, .int ln), (2, .int n)]) hx hb dX6_lay_30 hl (k := 3) rfl (nI_1 _) (by decide) rfl (fun ls hl => ?_)
        refine lv_goto (tgt := 17) hx hb dX6_lay_33 (by decide) ?_
        have hl : lv_has ls 4 [(0, .ref r), (1, .int ln), (2, .int n), (3, .int (nI (i + 1)))] := lv_sub hl [1, 2, 3, 0] rfl
        have hH : fx_H G base s (fx_up (fx_up f r (oO 6 [.ref it, .int (nI 0), .int ln, .int n])) it (oI 40 (fI g 0 (fun _ => nI 0) (i + 1)))) sz H locs := (by rw [fI, Nat.zero_add]; exact hH)
        exact ih_17 (i + 1) (by omega) (by omega) _ _ hH _ hl
  have hl : lv_has ls 4 [(0, .ref r), (1, .int ln), (2, .int n), (3, .int (nI 0))] := lv_sub hl [1, 2, 3, 0] rfl
  have hH : fx_H G base s (fx_up (fx_up f r (oO 6 [.ref it, .int (nI 0), .int ln, .int n])) it (oI 40 (fI g 0 (fun _ => nI 0) 0))) sz H locs := (by rw [fx_up_id (show (fx_up f r (oO 6 [.ref it, .int (nI 0), .int ln, .int n])) it = some (oI 40 (fI g 0 (fun _ => nI 0) 0)) from h3_it)]; exact hH)
  exact loop_17 _ 0 (by omega) (Nat.lt_succ_self _) _ _ hH _ hl
abbrev rm_X6_holds : Room := { frames := 0, cells := 0, slots := 0, locals := 0 }
set_option maxHeartbeats 4000000 in
set_option maxRecDepth 100000 in
theorem c_X6_holds {G : GG} {base : Nat} {l : Launch} {f : Hp} {sz : Nat} {r : Nat} {i : Int32} {n : Int32} {it : Nat} {mi : Int32} {la : Int32} {si : Int32} (h_r : f r = some (oO 6 [.ref it, .int mi, .int la, .int si])) : fx_M G base l yX6_holds cX6_holds 3 (some .boolean) rm_X6_holds [.ref r, .int i, .int n] f sz (some (.int (bI (¬ i < 0 ∧ ¬ n < 0 ∧ ¬ si.toInt64 < i.toInt64 + n.toInt64)))) f sz := by
  refine fx_of (by decide +kernel) (Nat.le_of_ble_eq_true rfl) ?_
  intro p e s m args below meth c C hr hk hnm hH ls hl
  obtain ⟨locs, hlocs⟩ : ∃ L : List Loc, L = [] := ⟨_, rfl⟩
  rw [← hlocs] at hH ⊢
  generalize s.heap = H at hH ⊢
  have hx := C.1
  have hb := C.2.1
  have hl : lv_has ls 3 [(0, .ref r), (1, .int i), (2, .int n)] := hl
  refine lv_iload_n hx hb dX6_holds_0 rfl (lv_at hl 1 rfl) ?_
  refine lv_if_lt hx hb (tgt := 26) dX6_holds_1 (by decide) (fun c1 => ?_) (fun c1 => ?_)
  · refine lv_iconst (v := nI 0) hx hb dX6_holds_26 (by decide) ?_
    exact fx_zret C hr hk hH (by decide) (by first | rfl | (simp [bI, *]; done) | ((repeat (first | rw [if_pos (by assumption)] | rw [if_neg (by assumption)])); done) | (unfold bI; grind)) rfl rfl (Nat.zero_le _) (Nat.zero_le _) dX6_holds_27
  · refine lv_iload_n hx hb dX6_holds_4 rfl (lv_at hl 2 rfl) ?_
    refine lv_if_lt hx hb (tgt := 26) dX6_holds_5 (by decide) (fun c5 => ?_) (fun c5 => ?_)
    · refine lv_iconst (v := nI 0) hx hb dX6_holds_26 (by decide) ?_
      exact fx_zret C hr hk hH (by decide) (by first | rfl | (simp [bI, *]; done) | ((repeat (first | rw [if_pos (by assumption)] | rw [if_neg (by assumption)])); done) | (unfold bI; grind)) rfl rfl (Nat.zero_le _) (Nat.zero_le _) dX6_holds_27
    · refine lv_iload_n hx hb dX6_holds_8 rfl (lv_at hl 1 rfl) ?_
      refine lv_i2l (v := i.toInt64) hx hb dX6_holds_9 rfl ?_
      refine lv_iload_n hx hb dX6_holds_10 rfl (lv_at hl 2 rfl) ?_
      refine lv_i2l (v := n.toInt64) hx hb dX6_holds_11 rfl ?_
      refine lv_ladd hx hb dX6_holds_12 ?_
      refine lv_aload_n hx hb dX6_holds_13 rfl (lv_at hl 0 rfl) ?_
      refine fx_get C hH (k := 3) (v := .int si) h_r ff_X6_23_6 rfl dX6_holds_14 ?_
      refine lv_i2l (v := si.toInt64) hx hb dX6_holds_17 rfl ?_
      refine W.lcmp hx hb dX6_holds_18 ?_
      refine fx_J_gt hx hb (tgt := 26) dX6_holds_19 (by decide) (fun c19 => ?_) (fun c19 => ?_)
      · refine lv_iconst (v := nI 0) hx hb dX6_holds_26 (by decide) ?_
        exact fx_zret C hr hk hH (by decide) (by first | rfl | (simp [bI, *]; done) | ((repeat (first | rw [if_pos (by assumption)] | rw [if_neg (by assumption)])); done) | (unfold bI; grind)) rfl rfl (Nat.zero_le _) (Nat.zero_le _) dX6_holds_27
      · refine lv_iconst (v := nI 1) hx hb dX6_holds_22 (by decide) ?_
        refine lv_goto (tgt := 27) hx hb dX6_holds_23 (by decide) ?_
        exact fx_zret C hr hk hH (by decide) (by first | rfl | (simp [bI, *]; done) | ((repeat (first | rw [if_pos (by assumption)] | rw [if_neg (by assumption)])); done) | (unfold bI; grind)) rfl rfl (Nat.zero_le _) (Nat.zero_le _) dX6_holds_27
abbrev rm_X6_areUpTo : Room := { frames := 1, cells := 0, slots := 0, locals := 22 }
set_option maxHeartbeats 4000000 in
set_option maxRecDepth 100000 in
theorem c_X6_areUpTo {G : GG} {base : Nat} {l : Launch} {f : Hp} {sz : Nat} {r : Nat} {i : Nat} {n : Nat} {mo : Nat} {it : Nat} {mi : Int32} {la : Int32} {si : Int32} {g : Nat → Int32} (h_r : f r = some (oO 6 [.ref it, .int mi, .int la, .int si])) (h_it : f it = some (oI 40 g)) (hin : i + n ≤ 40) : fx_M G base l yX6_areUpTo cX6_areUpTo 5 (some .boolean) rm_X6_areUpTo [.ref r, .int (nI i), .int (nI n), .int (nI mo)] f sz (some (.int (bI (∀ j, j < n → ¬ g (i + j) < nI 0 ∧ ¬ nI mo < g (i + j))))) f sz := by
  refine fx_of (by decide +kernel) (Nat.le_of_ble_eq_true rfl) ?_
  intro p e s m args below meth c C hr hk hnm hH ls hl
  obtain ⟨locs, hlocs⟩ : ∃ L : List Loc, L = [] := ⟨_, rfl⟩
  rw [← hlocs] at hH ⊢
  generalize s.heap = H at hH ⊢
  have hx := C.1
  have hb := C.2.1
  have hl : lv_has ls 5 [(0, .ref r), (1, .int (nI i)), (2, .int (nI n)), (3, .int (nI mo))] := hl
  refine lv_iload_n hx hb dX6_areUpTo_0 rfl (lv_at hl 1 rfl) ?_
  refine lv_istore (lv' := [(4, .int (nI i)), (0, .ref r), (1, .int (nI i)), (2, .int (nI n)), (3, .int (nI mo))]) hx hb dX6_areUpTo_1 hl (by decide) rfl (fun ls hl => ?_)
  have loop_3 : ∀ (N_3 : Nat) (j : Nat) (hj : j ≤ n) (hall : ∀ a, a < j → ¬ g (i + a) < nI 0 ∧ ¬ nI mo < g (i + a)) (hm_3 : n - j < N_3) (H : Heap) (locs : List Loc) (hH : fx_H G base s f sz H locs) (ls : Array Slot) (hl : lv_has ls 5 [(0, .ref r), (1, .int (nI i)), (2, .int (nI n)), (3, .int (nI mo)), (4, .int (nI (i + j)))]), W p l e rm_X6_areUpTo s m args below meth c H locs 0 0 (MQ below (fx_Q G base (some (.int (bI (∀ j, j < n → ¬ g (i + j) < nI 0 ∧ ¬ nI mo < g (i + j))))) f sz) args s rm_X6_areUpTo.cells rm_X6_areUpTo.slots (fun q => base ≤ q)) (F0 m 3 ls []) := by
    intro N_3
    induction N_3 with
    | zero => intro j hj hall hm_3; exact absurd hm_3 (Nat.not_lt_zero _)
    | succ N_3 ih_3 =>
      intro j hj hall hm_3 H locs hH ls hl
      refine lv_iload hx hb dX6_areUpTo_3 (lv_at hl 4 rfl) ?_
      refine lv_iload_n hx hb dX6_areUpTo_5 rfl (lv_at hl 1 rfl) ?_
      refine lv_iload_n hx hb dX6_areUpTo_6 rfl (lv_at hl 2 rfl) ?_
      refine lv_iadd hx hb dX6_areUpTo_7 ?_
      refine fx_ti (y := nI (i + n)) (nI_add _ _) ?_
      refine fx_N_ge (a := i + j) (b := i + n) hx hb (by omega) (by omega) (tgt := 34) dX6_areUpTo_8 (by decide) (fun c8 => ?_) (fun c8 => ?_)
      · refine lv_iconst (v := nI 1) hx hb dX6_areUpTo_34 (by decide) ?_
        exact fx_zret C hr hk hH (by decide) ((bI_t (fun a ha => hall a (by omega))).symm) rfl rfl (Nat.zero_le _) (Nat.zero_le _) dX6_areUpTo_35
      · refine lv_aload_n hx hb dX6_areUpTo_11 rfl (lv_at hl 0 rfl) ?_
        refine fx_get C hH (k := 0) (v := .ref it) h_r ff_X6_9_6 rfl dX6_areUpTo_12 ?_
        refine lv_iload hx hb dX6_areUpTo_15 (lv_at hl 4 rfl) ?_
        refine fx_ialdN C hH h_it (by omega) (by omega) dX6_areUpTo_17 ?_
        refine lv_iconst (v := nI 0) hx hb dX6_areUpTo_18 (by decide) ?_
        refine lv_iload_n hx hb dX6_areUpTo_19 rfl (lv_at hl 3 rfl) ?_
        refine fx_go1 hH (fx_runSN C hH hl.1 (As := [.int (g (i + j)), .int (nI 0), .int (nI mo)]) (rest := []) (c_X11_within (G := G) (base := base) (l := l) (f := f) (sz := sz) (n := g (i + j)) (lo := nI 0) (hi := nI mo) ) mY_X11_within mn_X6_26 st_X11_within rfl ⟨(Nat.le_of_ble_eq_true rfl), (Nat.le_of_ble_eq_true rfl)⟩ rfl (Nat.le_of_ble_eq_true rfl) ⟨(Nat.le_of_ble_eq_true rfl), (Nat.le_of_ble_eq_true rfl)⟩ dX6_areUpTo_20) (fun H locs hH => ?_)
        refine fx_b_ne hx hb (tgt := 28) dX6_areUpTo_23 (by decide) (fun c23 => ?_) (fun c23 => ?_)
        · refine lv_iinc (v := nI (i + j + 1)) (lv' := [(4, .int (nI (i + j + 1))), (0, .ref r), (1, .int (nI i)), (2, .int (nI n)), (3, .int (nI mo))]) hx hb dX6_areUpTo_28 hl (k := 4) rfl (nI_1 _) (by decide) rfl (fun ls hl => ?_)
          refine lv_goto (tgt := 3) hx hb dX6_areUpTo_31 (by decide) ?_
          have hl : lv_has ls 5 [(0, .ref r), (1, .int (nI i)), (2, .int (nI n)), (3, .int (nI mo)), (4, .int (nI (i + j + 1)))] := lv_sub hl [1, 2, 3, 4, 0] rfl
          have hl : lv_has ls 5 [(0, .ref r), (1, .int (nI i)), (2, .int (nI n)), (3, .int (nI mo)), (4, .int (nI (i + (j + 1))))] := hl
          exact ih_3 (j + 1) (by omega) (fun a ha => by rcases Nat.lt_succ_iff_lt_or_eq.mp ha with q | q; exact hall a q; subst q; exact c23) (by omega) _ _ hH _ hl
        · refine lv_iconst (v := nI 0) hx hb dX6_areUpTo_26 (by decide) ?_
          exact fx_zret C hr hk hH (by decide) ((bI_f (fun q => c23 (q j (by omega)))).symm) rfl rfl (Nat.zero_le _) (Nat.zero_le _) dX6_areUpTo_27
  have hl : lv_has ls 5 [(0, .ref r), (1, .int (nI i)), (2, .int (nI n)), (3, .int (nI mo)), (4, .int (nI i))] := lv_sub hl [1, 2, 3, 4, 0] rfl
  have hl : lv_has ls 5 [(0, .ref r), (1, .int (nI i)), (2, .int (nI n)), (3, .int (nI mo)), (4, .int (nI (i + 0)))] := hl
  exact loop_3 _ 0 (by omega) (fun a ha => absurd ha (Nat.not_lt_zero _)) (Nat.lt_succ_self _) _ _ hH _ hl
abbrev rm_X6_put : Room := { frames := 0, cells := 0, slots := 0, locals := 0 }
set_option maxHeartbeats 4000000 in
set_option maxRecDepth 100000 in
theorem c_X6_put {G : GG} {base : Nat} {l : Launch} {f : Hp} {sz : Nat} {r : Nat} {i : Nat} {v : Int32} {it : Nat} {mi : Int32} {la : Int32} {si : Int32} {g : Nat → Int32} (h_r : f r = some (oO 6 [.ref it, .int mi, .int la, .int si])) (h_it : f it = some (oI 40 g)) (hi : i < 40) : fx_M G base l yX6_put cX6_put 3 (some .int) rm_X6_put [.ref r, .int (nI i), .int v] f sz (some (.int (pv la v))) (fx_up f it (oI 40 (upd g i (pv la v)))) sz := by
  refine fx_of (by decide +kernel) (Nat.le_of_ble_eq_true rfl) ?_
  intro p e s m args below meth c C hr hk hnm hH ls hl
  obtain ⟨locs, hlocs⟩ : ∃ L : List Loc, L = [] := ⟨_, rfl⟩
  rw [← hlocs] at hH ⊢
  generalize s.heap = H at hH ⊢
  have hx := C.1
  have hb := C.2.1
  have hl : lv_has ls 3 [(0, .ref r), (1, .int (nI i)), (2, .int v)] := hl
  refine lv_aload_n hx hb dX6_put_0 rfl (lv_at hl 0 rfl) ?_
  refine fx_get C hH (k := 0) (v := .ref it) h_r ff_X6_9_6 rfl dX6_put_1 ?_
  refine lv_iload_n hx hb dX6_put_4 rfl (lv_at hl 1 rfl) ?_
  refine lv_aload_n hx hb dX6_put_5 rfl (lv_at hl 0 rfl) ?_
  refine fx_get C hH (k := 2) (v := .int la) h_r ff_X6_19_6 rfl dX6_put_6 ?_
  refine lv_if_ne hx hb (tgt := 17) dX6_put_9 (by decide) (fun c9 => ?_) (fun c9 => ?_)
  · refine lv_aload_n hx hb dX6_put_17 rfl (lv_at hl 0 rfl) ?_
    refine fx_get C hH (k := 2) (v := .int la) h_r ff_X6_19_6 rfl dX6_put_18 ?_
    refine lv_iconst (v := nI 1) hx hb dX6_put_21 (by decide) ?_
    refine lv_icmp_ne hx hb (tgt := 30) dX6_put_22 (by decide) (fun c22 => ?_) (fun c22 => ?_)
    · refine lv_iload_n hx hb dX6_put_30 rfl (lv_at hl 2 rfl) ?_
      refine fx_iastN C hH h_it (by omega) (by omega) dX6_put_31 (fun H locs hH => ?_)
      have hH : fx_H G base s (fx_up f it (oI 40 (upd g i v))) sz H locs := hH
      have h1_r : (fx_up f it (oI 40 (upd g i v))) r = some (oO 6 [.ref it, .int mi, .int la, .int si]) := (fx_up_n _ _ (fx_ne h_r h_it rfl)).trans h_r
      have h1_it : (fx_up f it (oI 40 (upd g i v))) it = some (oI 40 (upd g i v)) := fx_up_s _ _ _
      refine lv_aload_n hx hb dX6_put_32 rfl (lv_at hl 0 rfl) ?_
      refine fx_get C hH (k := 0) (v := .ref it) h1_r ff_X6_9_6 rfl dX6_put_33 ?_
      refine lv_iload_n hx hb dX6_put_36 rfl (lv_at hl 1 rfl) ?_
      refine fx_ialdN C hH h1_it (by omega) (by omega) dX6_put_37 ?_
      exact fx_iret C hr hk hH (by rw [pk_us, pv]; repeat (first | rw [if_pos (by assumption)] | rw [if_neg (by assumption)])) (by rw [pv]; repeat (first | rw [if_pos (by assumption)] | rw [if_neg (by assumption)])) rfl (Nat.zero_le _) (Nat.zero_le _) dX6_put_38
    · refine lv_iload_n hx hb dX6_put_25 rfl (lv_at hl 2 rfl) ?_
      refine lv_i2s (v := v.toInt16.toInt32) hx hb dX6_put_26 rfl ?_
      refine lv_goto (tgt := 31) hx hb dX6_put_27 (by decide) ?_
      refine fx_iastN C hH h_it (by omega) (by omega) dX6_put_31 (fun H locs hH => ?_)
      have hH : fx_H G base s (fx_up f it (oI 40 (upd g i v.toInt16.toInt32))) sz H locs := hH
      have h2_r : (fx_up f it (oI 40 (upd g i v.toInt16.toInt32))) r = some (oO 6 [.ref it, .int mi, .int la, .int si]) := (fx_up_n _ _ (fx_ne h_r h_it rfl)).trans h_r
      have h2_it : (fx_up f it (oI 40 (upd g i v.toInt16.toInt32))) it = some (oI 40 (upd g i v.toInt16.toInt32)) := fx_up_s _ _ _
      refine lv_aload_n hx hb dX6_put_32 rfl (lv_at hl 0 rfl) ?_
      refine fx_get C hH (k := 0) (v := .ref it) h2_r ff_X6_9_6 rfl dX6_put_33 ?_
      refine lv_iload_n hx hb dX6_put_36 rfl (lv_at hl 1 rfl) ?_
      refine fx_ialdN C hH h2_it (by omega) (by omega) dX6_put_37 ?_
      exact fx_iret C hr hk hH (by rw [pk_us, pv]; repeat (first | rw [if_pos (by assumption)] | rw [if_neg (by assumption)])) (by rw [pv]; repeat (first | rw [if_pos (by assumption)] | rw [if_neg (by assumption)])) rfl (Nat.zero_le _) (Nat.zero_le _) dX6_put_38
  · refine lv_iload_n hx hb dX6_put_12 rfl (lv_at hl 2 rfl) ?_
    refine lv_i2b (v := v.toInt8.toInt32) hx hb dX6_put_13 rfl ?_
    refine lv_goto (tgt := 31) hx hb dX6_put_14 (by decide) ?_
    refine fx_iastN C hH h_it (by omega) (by omega) dX6_put_31 (fun H locs hH => ?_)
    have hH : fx_H G base s (fx_up f it (oI 40 (upd g i v.toInt8.toInt32))) sz H locs := hH
    have h3_r : (fx_up f it (oI 40 (upd g i v.toInt8.toInt32))) r = some (oO 6 [.ref it, .int mi, .int la, .int si]) := (fx_up_n _ _ (fx_ne h_r h_it rfl)).trans h_r
    have h3_it : (fx_up f it (oI 40 (upd g i v.toInt8.toInt32))) it = some (oI 40 (upd g i v.toInt8.toInt32)) := fx_up_s _ _ _
    refine lv_aload_n hx hb dX6_put_32 rfl (lv_at hl 0 rfl) ?_
    refine fx_get C hH (k := 0) (v := .ref it) h3_r ff_X6_9_6 rfl dX6_put_33 ?_
    refine lv_iload_n hx hb dX6_put_36 rfl (lv_at hl 1 rfl) ?_
    refine fx_ialdN C hH h3_it (by omega) (by omega) dX6_put_37 ?_
    exact fx_iret C hr hk hH (by rw [pk_us, pv]; repeat (first | rw [if_pos (by assumption)] | rw [if_neg (by assumption)])) (by rw [pv]; repeat (first | rw [if_pos (by assumption)] | rw [if_neg (by assumption)])) rfl (Nat.zero_le _) (Nat.zero_le _) dX6_put_38
abbrev rm_X10_leave : Room := { frames := 0, cells := 0, slots := 0, locals := 0 }
set_option maxHeartbeats 4000000 in
set_option maxRecDepth 100000 in
theorem c_X10_leave {G : GG} {base : Nat} {l : Launch} {f : Hp} {sz : Nat} {t : Nat} {b : Int32} {u : Nat} {n : Nat} {g : Nat → Int32} (h_t : f t = some (oO 9 [.ref u, .int (nI n)])) (h_u : f u = some (oI 16 g)) (hn : n < 16) : fx_M G base l yX10_leave cX10_leave 2 none rm_X10_leave [.ref t, .int b] f sz none (fx_up (fx_up f u (oI 16 (upd g n b))) t (oO 9 [.ref u, .int (nI (n + 1))])) sz := by
  refine fx_of (by decide +kernel) (Nat.le_of_ble_eq_true rfl) ?_
  intro p e s m args below meth c C hr hk hnm hH ls hl
  obtain ⟨locs, hlocs⟩ : ∃ L : List Loc, L = [] := ⟨_, rfl⟩
  rw [← hlocs] at hH ⊢
  generalize s.heap = H at hH ⊢
  have hx := C.1
  have hb := C.2.1
  have hl : lv_has ls 2 [(0, .ref t), (1, .int b)] := hl
  refine lv_aload_n hx hb dX10_leave_0 rfl (lv_at hl 0 rfl) ?_
  refine fx_get C hH (k := 1) (v := .int (nI n)) h_t ff_X10_15_9 rfl dX10_leave_1 ?_
  refine lv_bipush (v := nI 16) hx hb dX10_leave_4 (by decide) ?_
  refine fx_N_ge (a := n) (b := 16) hx hb (by omega) (by omega) (tgt := 29) dX10_leave_6 (by decide) (fun c6 => absurd c6 (by omega)) (fun c6 => ?_)
  refine lv_aload_n hx hb dX10_leave_9 rfl (lv_at hl 0 rfl) ?_
  refine fx_get C hH (k := 0) (v := .ref u) h_t ff_X10_9_9 rfl dX10_leave_10 ?_
  refine lv_aload_n hx hb dX10_leave_13 rfl (lv_at hl 0 rfl) ?_
  refine fx_get C hH (k := 1) (v := .int (nI n)) h_t ff_X10_15_9 rfl dX10_leave_14 ?_
  refine lv_iload_n hx hb dX10_leave_17 rfl (lv_at hl 1 rfl) ?_
  refine fx_iastN C hH h_u (by omega) (by omega) dX10_leave_18 (fun H locs hH => ?_)
  have hH : fx_H G base s (fx_up f u (oI 16 (upd g n b))) sz H locs := hH
  have h1_t : (fx_up f u (oI 16 (upd g n b))) t = some (oO 9 [.ref u, .int (nI n)]) := (fx_up_n _ _ (fx_ne h_t h_u rfl)).trans h_t
  have h1_u : (fx_up f u (oI 16 (upd g n b))) u = some (oI 16 (upd g n b)) := fx_up_s _ _ _
  refine lv_aload_n hx hb dX10_leave_19 rfl (lv_at hl 0 rfl) ?_
  refine lv_dup hx hb dX10_leave_20 rfl ?_
  refine fx_get C hH (k := 1) (v := .int (nI n)) h1_t ff_X10_15_9 rfl dX10_leave_21 ?_
  refine lv_iconst (v := nI 1) hx hb dX10_leave_24 (by decide) ?_
  refine lv_iadd hx hb dX10_leave_25 ?_
  refine fx_ti (y := nI (n + 1)) (nI_add _ _) ?_
  refine fx_putT C hH (k := 1) h1_t ff_X10_15_9 fL_9 fT_9_1 rfl rfl (Nat.le_of_ble_eq_true rfl) dX10_leave_26 (fun H locs hH => ?_)
  have hH : fx_H G base s (fx_up (fx_up f u (oI 16 (upd g n b))) t (oO 9 [.ref u, .int (nI (n + 1))])) sz H locs := hH
  have h2_u : (fx_up (fx_up f u (oI 16 (upd g n b))) t (oO 9 [.ref u, .int (nI (n + 1))])) u = some (oI 16 (upd g n b)) := (fx_up_n _ _ (fx_ne h1_u h1_t rfl)).trans h1_u
  have h2_t : (fx_up (fx_up f u (oI 16 (upd g n b))) t (oO 9 [.ref u, .int (nI (n + 1))])) t = some (oO 9 [.ref u, .int (nI (n + 1))]) := fx_up_s _ _ _
  exact fx_vret C hr hk hH rfl rfl (Nat.zero_le _) (Nat.zero_le _) dX10_leave_29
abbrev rm_X2_around : Room := { frames := 1, cells := 0, slots := 0, locals := 22 }
set_option maxHeartbeats 4000000 in
set_option maxRecDepth 100000 in
theorem c_X2_around {G : GG} {base : Nat} {l : Launch} {f : Hp} {sz : Nat} {w : Nat} {x : Int32} {wt : Nat} {ch : Nat} {sk : Nat} {P : Nat} {st : Nat} {ov : Int32} {mi : Int32} {ri : Int32} {tl : Int32} (h_w : f w = some (oO 2 [.ref wt, .ref ch, .ref sk, .int (nI P), .int (nI st), .int ov, .int mi, .int ri, .int tl])) (hP : 1 ≤ P ∧ P ≤ 12) : fx_M G base l yX2_around cX2_around 2 (some .int) rm_X2_around [.ref w, .int x] f sz (some (.int (fmI x (nI P)))) f sz := by
  refine fx_of (by decide +kernel) (Nat.le_of_ble_eq_true rfl) ?_
  intro p e s m args below meth c C hr hk hnm hH ls hl
  obtain ⟨locs, hlocs⟩ : ∃ L : List Loc, L = [] := ⟨_, rfl⟩
  rw [← hlocs] at hH ⊢
  generalize s.heap = H at hH ⊢
  have hx := C.1
  have hb := C.2.1
  have hl : lv_has ls 2 [(0, .ref w), (1, .int x)] := hl
  refine lv_aload_n hx hb dX2_around_0 rfl (lv_at hl 0 rfl) ?_
  refine fx_get C hH (k := 3) (v := .int (nI P)) h_w ff_X2_24_2 rfl dX2_around_1 ?_
  refine fx_O_le (a := P) hx hb (by omega) (tgt := 18) dX2_around_4 (by decide) (fun c4 => absurd c4 (by omega)) (fun c4 => ?_)
  refine lv_iload_n hx hb dX2_around_7 rfl (lv_at hl 1 rfl) ?_
  refine lv_aload_n hx hb dX2_around_8 rfl (lv_at hl 0 rfl) ?_
  refine fx_get C hH (k := 3) (v := .int (nI P)) h_w ff_X2_24_2 rfl dX2_around_9 ?_
  refine fx_go1 hH (fx_runS C hH hl.1 (As := [.int x, .int (nI P)]) (rest := []) (c_J9_floorMod_7cf53 (G := G) (base := base) (l := l) (f := f) (sz := sz) (x := x) (y := nI P) (fun q => absurd ((nI_eq (b := 0) (by omega) (by omega)).mp q) (by omega))) mY_J9_floorMod_7cf53 ml_X2_28 st_J9_floorMod_7cf53 rfl ⟨(Nat.le_of_ble_eq_true rfl), (Nat.le_of_ble_eq_true rfl)⟩ rfl (Nat.le_of_ble_eq_true rfl) ⟨(Nat.le_of_ble_eq_true rfl), (Nat.le_of_ble_eq_true rfl)⟩ dX2_around_12) (fun H locs hH => ?_)
  refine lv_goto (tgt := 19) hx hb dX2_around_15 (by decide) ?_
  exact fx_iret C hr hk hH rfl rfl rfl (Nat.zero_le _) (Nat.zero_le _) dX2_around_19
abbrev rm_X7_feel : Room := { frames := 0, cells := 0, slots := 0, locals := 0 }
set_option maxHeartbeats 4000000 in
set_option maxRecDepth 100000 in
theorem c_X7_feel_Back {G : GG} {base : Nat} {l : Launch} {f : Hp} {sz : Nat} {o : Nat} {wy : Int32} {n : Int32} {wi : Nat} {ag : Nat} (h_o : f o = some (oO 0 [.int n, .int (nI wi), .int (nI ag)])) : fx_M G base l yX7_feel cX7_feel 2 (some .int) rm_X7_feel [.ref o, .int wy] f sz (some (.int (nI (if wy = nI 1 then wi else ag)))) f sz := by
  refine fx_of (by decide +kernel) (Nat.le_of_ble_eq_true rfl) ?_
  intro p e s m args below meth c C hr hk hnm hH ls hl
  obtain ⟨locs, hlocs⟩ : ∃ L : List Loc, L = [] := ⟨_, rfl⟩
  rw [← hlocs] at hH ⊢
  generalize s.heap = H at hH ⊢
  have hx := C.1
  have hb := C.2.1
  have hl : lv_has ls 2 [(0, .ref o), (1, .int wy)] := hl
  refine lv_iload_n hx hb dX7_feel_0 rfl (lv_at hl 1 rfl) ?_
  refine lv_iconst (v := nI 1) hx hb dX7_feel_1 (by decide) ?_
  refine lv_icmp_ne hx hb (tgt := 12) dX7_feel_2 (by decide) (fun c2 => ?_) (fun c2 => ?_)
  · refine lv_aload_n hx hb dX7_feel_12 rfl (lv_at hl 0 rfl) ?_
    refine fx_get C hH (k := 2) (v := .int (nI ag)) h_o ff_X7_16_0 rfl dX7_feel_13 ?_
    exact fx_iret C hr hk hH (by first | rfl | (simp [bI, *]; done) | ((repeat (first | rw [if_pos (by assumption)] | rw [if_neg (by assumption)])); done) | (unfold bI; grind)) rfl rfl (Nat.zero_le _) (Nat.zero_le _) dX7_feel_16
  · refine lv_aload_n hx hb dX7_feel_5 rfl (lv_at hl 0 rfl) ?_
    refine fx_get C hH (k := 1) (v := .int (nI wi)) h_o ff_X7_13_0 rfl dX7_feel_6 ?_
    refine lv_goto (tgt := 16) hx hb dX7_feel_9 (by decide) ?_
    exact fx_iret C hr hk hH (by first | rfl | (simp [bI, *]; done) | ((repeat (first | rw [if_pos (by assumption)] | rw [if_neg (by assumption)])); done) | (unfold bI; grind)) rfl rfl (Nat.zero_le _) (Nat.zero_le _) dX7_feel_16
set_option maxHeartbeats 4000000 in
set_option maxRecDepth 100000 in
theorem c_X7_feel_Likeliest {G : GG} {base : Nat} {l : Launch} {f : Hp} {sz : Nat} {o : Nat} {wy : Int32} {n : Int32} {wi : Nat} {ag : Nat} (h_o : f o = some (oO 3 [.int n, .int (nI wi), .int (nI ag)])) : fx_M G base l yX7_feel cX7_feel 2 (some .int) rm_X7_feel [.ref o, .int wy] f sz (some (.int (nI (if wy = nI 1 then wi else ag)))) f sz := by
  refine fx_of (by decide +kernel) (Nat.le_of_ble_eq_true rfl) ?_
  intro p e s m args below meth c C hr hk hnm hH ls hl
  obtain ⟨locs, hlocs⟩ : ∃ L : List Loc, L = [] := ⟨_, rfl⟩
  rw [← hlocs] at hH ⊢
  generalize s.heap = H at hH ⊢
  have hx := C.1
  have hb := C.2.1
  have hl : lv_has ls 2 [(0, .ref o), (1, .int wy)] := hl
  refine lv_iload_n hx hb dX7_feel_0 rfl (lv_at hl 1 rfl) ?_
  refine lv_iconst (v := nI 1) hx hb dX7_feel_1 (by decide) ?_
  refine lv_icmp_ne hx hb (tgt := 12) dX7_feel_2 (by decide) (fun c2 => ?_) (fun c2 => ?_)
  · refine lv_aload_n hx hb dX7_feel_12 rfl (lv_at hl 0 rfl) ?_
    refine fx_get C hH (k := 2) (v := .int (nI ag)) h_o ff_X7_16_3 rfl dX7_feel_13 ?_
    exact fx_iret C hr hk hH (by first | rfl | (simp [bI, *]; done) | ((repeat (first | rw [if_pos (by assumption)] | rw [if_neg (by assumption)])); done) | (unfold bI; grind)) rfl rfl (Nat.zero_le _) (Nat.zero_le _) dX7_feel_16
  · refine lv_aload_n hx hb dX7_feel_5 rfl (lv_at hl 0 rfl) ?_
    refine fx_get C hH (k := 1) (v := .int (nI wi)) h_o ff_X7_13_3 rfl dX7_feel_6 ?_
    refine lv_goto (tgt := 16) hx hb dX7_feel_9 (by decide) ?_
    exact fx_iret C hr hk hH (by first | rfl | (simp [bI, *]; done) | ((repeat (first | rw [if_pos (by assumption)] | rw [if_neg (by assumption)])); done) | (unfold bI; grind)) rfl rfl (Nat.zero_le _) (Nat.zero_le _) dX7_feel_16
set_option maxHeartbeats 4000000 in
set_option maxRecDepth 100000 in
theorem c_X7_feel_Round {G : GG} {base : Nat} {l : Launch} {f : Hp} {sz : Nat} {o : Nat} {wy : Int32} {n : Int32} {wi : Nat} {ag : Nat} (h_o : f o = some (oO 5 [.int n, .int (nI wi), .int (nI ag)])) : fx_M G base l yX7_feel cX7_feel 2 (some .int) rm_X7_feel [.ref o, .int wy] f sz (some (.int (nI (if wy = nI 1 then wi else ag)))) f sz := by
  refine fx_of (by decide +kernel) (Nat.le_of_ble_eq_true rfl) ?_
  intro p e s m args below meth c C hr hk hnm hH ls hl
  obtain ⟨locs, hlocs⟩ : ∃ L : List Loc, L = [] := ⟨_, rfl⟩
  rw [← hlocs] at hH ⊢
  generalize s.heap = H at hH ⊢
  have hx := C.1
  have hb := C.2.1
  have hl : lv_has ls 2 [(0, .ref o), (1, .int wy)] := hl
  refine lv_iload_n hx hb dX7_feel_0 rfl (lv_at hl 1 rfl) ?_
  refine lv_iconst (v := nI 1) hx hb dX7_feel_1 (by decide) ?_
  refine lv_icmp_ne hx hb (tgt := 12) dX7_feel_2 (by decide) (fun c2 => ?_) (fun c2 => ?_)
  · refine lv_aload_n hx hb dX7_feel_12 rfl (lv_at hl 0 rfl) ?_
    refine fx_get C hH (k := 2) (v := .int (nI ag)) h_o ff_X7_16_5 rfl dX7_feel_13 ?_
    exact fx_iret C hr hk hH (by first | rfl | (simp [bI, *]; done) | ((repeat (first | rw [if_pos (by assumption)] | rw [if_neg (by assumption)])); done) | (unfold bI; grind)) rfl rfl (Nat.zero_le _) (Nat.zero_le _) dX7_feel_16
  · refine lv_aload_n hx hb dX7_feel_5 rfl (lv_at hl 0 rfl) ?_
    refine fx_get C hH (k := 1) (v := .int (nI wi)) h_o ff_X7_13_5 rfl dX7_feel_6 ?_
    refine lv_goto (tgt := 16) hx hb dX7_feel_9 (by decide) ?_
    exact fx_iret C hr hk hH (by first | rfl | (simp [bI, *]; done) | ((repeat (first | rw [if_pos (by assumption)] | rw [if_neg (by assumption)])); done) | (unfold bI; grind)) rfl rfl (Nat.zero_le _) (Nat.zero_le _) dX7_feel_16
set_option maxHeartbeats 4000000 in
set_option maxRecDepth 100000 in
theorem c_X7_feel_Tabs {G : GG} {base : Nat} {l : Launch} {f : Hp} {sz : Nat} {o : Nat} {wy : Int32} {n : Int32} {wi : Nat} {ag : Nat} (h_o : f o = some (oO 7 [.int n, .int (nI wi), .int (nI ag)])) : fx_M G base l yX7_feel cX7_feel 2 (some .int) rm_X7_feel [.ref o, .int wy] f sz (some (.int (nI (if wy = nI 1 then wi else ag)))) f sz := by
  refine fx_of (by decide +kernel) (Nat.le_of_ble_eq_true rfl) ?_
  intro p e s m args below meth c C hr hk hnm hH ls hl
  obtain ⟨locs, hlocs⟩ : ∃ L : List Loc, L = [] := ⟨_, rfl⟩
  rw [← hlocs] at hH ⊢
  generalize s.heap = H at hH ⊢
  have hx := C.1
  have hb := C.2.1
  have hl : lv_has ls 2 [(0, .ref o), (1, .int wy)] := hl
  refine lv_iload_n hx hb dX7_feel_0 rfl (lv_at hl 1 rfl) ?_
  refine lv_iconst (v := nI 1) hx hb dX7_feel_1 (by decide) ?_
  refine lv_icmp_ne hx hb (tgt := 12) dX7_feel_2 (by decide) (fun c2 => ?_) (fun c2 => ?_)
  · refine lv_aload_n hx hb dX7_feel_12 rfl (lv_at hl 0 rfl) ?_
    refine fx_get C hH (k := 2) (v := .int (nI ag)) h_o ff_X7_16_7 rfl dX7_feel_13 ?_
    exact fx_iret C hr hk hH (by first | rfl | (simp [bI, *]; done) | ((repeat (first | rw [if_pos (by assumption)] | rw [if_neg (by assumption)])); done) | (unfold bI; grind)) rfl rfl (Nat.zero_le _) (Nat.zero_le _) dX7_feel_16
  · refine lv_aload_n hx hb dX7_feel_5 rfl (lv_at hl 0 rfl) ?_
    refine fx_get C hH (k := 1) (v := .int (nI wi)) h_o ff_X7_13_7 rfl dX7_feel_6 ?_
    refine lv_goto (tgt := 16) hx hb dX7_feel_9 (by decide) ?_
    exact fx_iret C hr hk hH (by first | rfl | (simp [bI, *]; done) | ((repeat (first | rw [if_pos (by assumption)] | rw [if_neg (by assumption)])); done) | (unfold bI; grind)) rfl rfl (Nat.zero_le _) (Nat.zero_le _) dX7_feel_16
abbrev rm_X1_feel : Room := { frames := 1, cells := 0, slots := 0, locals := 21 }
set_option maxHeartbeats 4000000 in
set_option maxRecDepth 100000 in
theorem c_X1_feel {G : GG} {base : Nat} {l : Launch} {f : Hp} {sz : Nat} {o : Nat} {wy : Int32} {n : Int32} {wi : Nat} {ag : Nat} (h_o : f o = some (oO 1 [.int n, .int (nI wi), .int (nI ag)])) (hwi : wi ≤ 10) (hag : ag ≤ 10) : fx_M G base l yX1_feel cX1_feel 2 (some .int) rm_X1_feel [.ref o, .int wy] f sz (some (.int (nI (if wi < ag then ag else wi)))) f sz := by
  refine fx_of (by decide +kernel) (Nat.le_of_ble_eq_true rfl) ?_
  intro p e s m args below meth c C hr hk hnm hH ls hl
  obtain ⟨locs, hlocs⟩ : ∃ L : List Loc, L = [] := ⟨_, rfl⟩
  rw [← hlocs] at hH ⊢
  generalize s.heap = H at hH ⊢
  have hx := C.1
  have hb := C.2.1
  have hl : lv_has ls 2 [(0, .ref o), (1, .int wy)] := hl
  refine lv_aload_n hx hb dX1_feel_0 rfl (lv_at hl 0 rfl) ?_
  refine fx_get C hH (k := 1) (v := .int (nI wi)) h_o ff_X1_7_1 rfl dX1_feel_1 ?_
  refine lv_aload_n hx hb dX1_feel_4 rfl (lv_at hl 0 rfl) ?_
  refine fx_get C hH (k := 2) (v := .int (nI ag)) h_o ff_X1_13_1 rfl dX1_feel_5 ?_
  refine fx_go1 hH (fx_runS C hH hl.1 (As := [.int (nI wi), .int (nI ag)]) (rest := []) (c_J9_max_7cf53 (G := G) (base := base) (l := l) (f := f) (sz := sz) (a := nI wi) (b := nI ag) ) mY_J9_max_7cf53 ml_X1_16 st_J9_max_7cf53 rfl ⟨(Nat.le_of_ble_eq_true rfl), (Nat.le_of_ble_eq_true rfl)⟩ rfl (Nat.le_of_ble_eq_true rfl) ⟨(Nat.le_of_ble_eq_true rfl), (Nat.le_of_ble_eq_true rfl)⟩ dX1_feel_8) (fun H locs hH => ?_)
  exact fx_iret C hr hk hH (by by_cases h9 : wi < ag <;> simp [h9, (nI_ltI (a := wi) (b := ag) (by omega) (by omega))]) rfl rfl (Nat.zero_le _) (Nat.zero_le _) dX1_feel_11
abbrev rm_X4_likeliestBut : Room := { frames := 0, cells := 0, slots := 0, locals := 0 }
set_option maxHeartbeats 4000000 in
set_option maxRecDepth 100000 in
theorem c_X4_likeliestBut {G : GG} {base : Nat} {l : Launch} {f : Hp} {sz : Nat} {r : Nat} {x : Int32} {k : Nat} {w : Nat} {pl : Nat} {wy : Int32} {se : Int32} {to : Int32} {lf : Int32} {ta : Int32} {q : Nat → Int64} {wt : Nat} {ch : Nat} {sk : Nat} {P : Nat} {st : Nat} {ov : Int32} {mi : Int32} {ri : Int32} {tl : Int32} (h_r : f r = some (oO 4 [.ref k, .ref w, .int (nI pl), .int wy, .int se, .int to, .int lf, .int ta])) (h_k : f k = some (oJ 13 q)) (h_w : f w = some (oO 2 [.ref wt, .ref ch, .ref sk, .int (nI P), .int (nI st), .int ov, .int mi, .int ri, .int tl])) (hP : P ≤ 12) : fx_M G base l yX4_likeliestBut cX4_likeliestBut 6 (some .int) rm_X4_likeliestBut [.ref r, .int x] f sz (some (.int (nI ((lb q x P).1)))) f sz := by
  refine fx_of (by decide +kernel) (Nat.le_of_ble_eq_true rfl) ?_
  intro p e s m args below meth c C hr hk hnm hH ls hl
  obtain ⟨locs, hlocs⟩ : ∃ L : List Loc, L = [] := ⟨_, rfl⟩
  rw [← hlocs] at hH ⊢
  generalize s.heap = H at hH ⊢
  have hx := C.1
  have hb := C.2.1
  have hl : lv_has ls 6 [(0, .ref r), (1, .int x)] := hl
  refine lv_iconst (v := nI 0) hx hb dX4_likeliestBut_0 (by decide) ?_
  refine lv_istore_n (lv' := [(2, .int (nI 0)), (0, .ref r), (1, .int x)]) hx hb dX4_likeliestBut_1 rfl hl (by decide) rfl (fun ls hl => ?_)
  refine lv_ldc2 (v := (-1)) hx hb C.2.2.2.1 (C.2.2.2.2.1 _ kL_X4_95 rfl args) dX4_likeliestBut_2 ?_
  refine lv_lstore_n (lv' := [(3, .long (-1)), (2, .int (nI 0)), (0, .ref r), (1, .int x)]) hx hb dX4_likeliestBut_5 rfl hl (by decide) rfl (fun ls hl => ?_)
  refine lv_iconst (v := nI 0) hx hb dX4_likeliestBut_6 (by decide) ?_
  refine lv_istore (lv' := [(5, .int (nI 0)), (3, .long (-1)), (2, .int (nI 0)), (0, .ref r), (1, .int x)]) hx hb dX4_likeliestBut_7 hl (by decide) rfl (fun ls hl => ?_)
  have loop_9 : ∀ (N_9 : Nat) (i : Nat) (hi : i ≤ P) (hm_9 : P - i < N_9) (H : Heap) (locs : List Loc) (hH : fx_H G base s f sz H locs) (ls : Array Slot) (hl : lv_has ls 6 [(0, .ref r), (1, .int x), (2, .int (nI ((lb q x i).1))), (3, .long ((lb q x i).2)), (5, .int (nI i))]), W p l e rm_X4_likeliestBut s m args below meth c H locs 0 0 (MQ below (fx_Q G base (some (.int (nI ((lb q x P).1)))) f sz) args s rm_X4_likeliestBut.cells rm_X4_likeliestBut.slots (fun q => base ≤ q)) (F0 m 9 ls []) := by
    intro N_9
    induction N_9 with
    | zero => intro i hi hm_9; exact absurd hm_9 (Nat.not_lt_zero _)
    | succ N_9 ih_9 =>
      intro i hi hm_9 H locs hH ls hl
      refine lv_iload hx hb dX4_likeliestBut_9 (lv_at hl 4 rfl) ?_
      refine lv_aload_n hx hb dX4_likeliestBut_11 rfl (lv_at hl 0 rfl) ?_
      refine fx_get C hH (k := 1) (v := .ref w) h_r ff_X4_23_4 rfl dX4_likeliestBut_12 ?_
      refine fx_get C hH (k := 3) (v := .int (nI P)) h_w ff_X4_39_2 rfl dX4_likeliestBut_15 ?_
      refine fx_N_ge (a := i) (b := P) hx hb (by omega) (by omega) (tgt := 56) dX4_likeliestBut_18 (by decide) (fun c18 => ?_) (fun c18 => ?_)
      · refine lv_iload_n hx hb dX4_likeliestBut_56 rfl (lv_at hl 2 rfl) ?_
        exact fx_iret C hr hk hH (by rw [show i = P from by omega]) rfl rfl (Nat.zero_le _) (Nat.zero_le _) dX4_likeliestBut_57
      · refine lv_iload hx hb dX4_likeliestBut_21 (lv_at hl 4 rfl) ?_
        refine lv_iload_n hx hb dX4_likeliestBut_23 rfl (lv_at hl 1 rfl) ?_
        refine lv_icmp_eq hx hb (tgt := 50) dX4_likeliestBut_24 (by decide) (fun c24 => ?_) (fun c24 => ?_)
        · refine lv_iinc (v := nI (i + 1)) (lv' := [(5, .int (nI (i + 1))), (0, .ref r), (1, .int x), (2, .int (nI ((lb q x i).1))), (3, .long ((lb q x i).2))]) hx hb dX4_likeliestBut_50 hl (k := 4) rfl (nI_1 _) (by decide) rfl (fun ls hl => ?_)
          refine lv_goto (tgt := 9) hx hb dX4_likeliestBut_53 (by decide) ?_
          have hl : lv_has ls 6 [(0, .ref r), (1, .int x), (2, .int (nI ((lb q x i).1))), (3, .long ((lb q x i).2)), (5, .int (nI (i + 1)))] := lv_sub hl [1, 2, 3, 4, 0] rfl
          have hl : lv_has ls 6 [(0, .ref r), (1, .int x), (2, .int (nI ((lb q x (i + 1)).1))), (3, .long ((lb q x (i + 1)).2)), (5, .int (nI (i + 1)))] := by
            have e : lb q x (i + 1) = lb q x i := by rw [lb, if_neg (fun h => h.1 c24)]
            rw [e]
            exact hl
          exact ih_9 (i + 1) (by omega) (by omega) _ _ hH _ hl
        · refine lv_aload_n hx hb dX4_likeliestBut_27 rfl (lv_at hl 0 rfl) ?_
          refine fx_get C hH (k := 0) (v := .ref k) h_r ff_X4_9_4 rfl dX4_likeliestBut_28 ?_
          refine lv_iload hx hb dX4_likeliestBut_31 (lv_at hl 4 rfl) ?_
          refine fx_laldN C hH h_k (by omega) (by omega) dX4_likeliestBut_33 ?_
          refine lv_lload_n hx hb dX4_likeliestBut_34 rfl (lv_at hl 3 rfl) ?_
          refine W.lcmp hx hb dX4_likeliestBut_35 ?_
          refine fx_J_le hx hb (tgt := 50) dX4_likeliestBut_36 (by decide) (fun c36 => ?_) (fun c36 => ?_)
          · refine lv_iinc (v := nI (i + 1)) (lv' := [(5, .int (nI (i + 1))), (0, .ref r), (1, .int x), (2, .int (nI ((lb q x i).1))), (3, .long ((lb q x i).2))]) hx hb dX4_likeliestBut_50 hl (k := 4) rfl (nI_1 _) (by decide) rfl (fun ls hl => ?_)
            refine lv_goto (tgt := 9) hx hb dX4_likeliestBut_53 (by decide) ?_
            have hl : lv_has ls 6 [(0, .ref r), (1, .int x), (2, .int (nI ((lb q x i).1))), (3, .long ((lb q x i).2)), (5, .int (nI (i + 1)))] := lv_sub hl [1, 2, 3, 4, 0] rfl
            have hl : lv_has ls 6 [(0, .ref r), (1, .int x), (2, .int (nI ((lb q x (i + 1)).1))), (3, .long ((lb q x (i + 1)).2)), (5, .int (nI (i + 1)))] := by
              have e : lb q x (i + 1) = lb q x i := by rw [lb, if_neg (fun h => h.2 c36)]
              rw [e]
              exact hl
            exact ih_9 (i + 1) (by omega) (by omega) _ _ hH _ hl
          · refine lv_aload_n hx hb dX4_likeliestBut_39 rfl (lv_at hl 0 rfl) ?_
            refine fx_get C hH (k := 0) (v := .ref k) h_r ff_X4_9_4 rfl dX4_likeliestBut_40 ?_
            refine lv_iload hx hb dX4_likeliestBut_43 (lv_at hl 4 rfl) ?_
            refine fx_laldN C hH h_k (by omega) (by omega) dX4_likeliestBut_45 ?_
            refine lv_lstore_n (lv' := [(3, .long (q i)), (0, .ref r), (1, .int x), (2, .int (nI ((lb q x i).1))), (5, .int (nI i))]) hx hb dX4_likeliestBut_46 rfl hl (by decide) rfl (fun ls hl => ?_)
            refine lv_iload hx hb dX4_likeliestBut_47 (lv_at hl 4 rfl) ?_
            refine lv_istore_n (lv' := [(2, .int (nI i)), (3, .long (q i)), (0, .ref r), (1, .int x), (5, .int (nI i))]) hx hb dX4_likeliestBut_49 rfl hl (by decide) rfl (fun ls hl => ?_)
            refine lv_iinc (v := nI (i + 1)) (lv' := [(5, .int (nI (i + 1))), (2, .int (nI i)), (3, .long (q i)), (0, .ref r), (1, .int x)]) hx hb dX4_likeliestBut_50 hl (k := 4) rfl (nI_1 _) (by decide) rfl (fun ls hl => ?_)
            refine lv_goto (tgt := 9) hx hb dX4_likeliestBut_53 (by decide) ?_
            have hl : lv_has ls 6 [(0, .ref r), (1, .int x), (2, .int (nI i)), (3, .long (q i)), (5, .int (nI (i + 1)))] := lv_sub hl [3, 4, 1, 2, 0] rfl
            have hl : lv_has ls 6 [(0, .ref r), (1, .int x), (2, .int (nI ((lb q x (i + 1)).1))), (3, .long ((lb q x (i + 1)).2)), (5, .int (nI (i + 1)))] := by
              have e : lb q x (i + 1) = (i, q i) := by rw [lb, if_pos ⟨c24, c36⟩]
              rw [e]
              exact hl
            exact ih_9 (i + 1) (by omega) (by omega) _ _ hH _ hl
  have hl : lv_has ls 6 [(0, .ref r), (1, .int x), (2, .int (nI 0)), (3, .long (-1)), (5, .int (nI 0))] := lv_sub hl [3, 4, 2, 1, 0] rfl
  have hl : lv_has ls 6 [(0, .ref r), (1, .int x), (2, .int (nI ((lb q x 0).1))), (3, .long ((lb q x 0).2)), (5, .int (nI 0))] := hl
  exact loop_9 _ 0 (by omega) (Nat.lt_succ_self _) _ _ hH _ hl
abbrev rm_X4_together : Room := { frames := 0, cells := 0, slots := 0, locals := 0 }
set_option maxHeartbeats 4000000 in
set_option maxRecDepth 100000 in
theorem c_X4_together {G : GG} {base : Nat} {l : Launch} {f : Hp} {sz : Nat} {r : Nat} {k : Nat} {w : Nat} {pl : Nat} {wy : Int32} {se : Int32} {to : Int32} {lf : Int32} {ta : Int32} {q : Nat → Int64} {wt : Nat} {ch : Nat} {sk : Nat} {P : Nat} {st : Nat} {ov : Int32} {mi : Int32} {ri : Int32} {tl : Int32} (h_r : f r = some (oO 4 [.ref k, .ref w, .int (nI pl), .int wy, .int se, .int to, .int lf, .int ta])) (h_k : f k = some (oJ 13 q)) (h_w : f w = some (oO 2 [.ref wt, .ref ch, .ref sk, .int (nI P), .int (nI st), .int ov, .int mi, .int ri, .int tl])) (hP : P ≤ 12) : fx_M G base l yX4_together cX4_together 4 (some .long) rm_X4_together [.ref r] f sz (some (.long (sJ q (P + 1)))) f sz := by
  refine fx_of (by decide +kernel) (Nat.le_of_ble_eq_true rfl) ?_
  intro p e s m args below meth c C hr hk hnm hH ls hl
  obtain ⟨locs, hlocs⟩ : ∃ L : List Loc, L = [] := ⟨_, rfl⟩
  rw [← hlocs] at hH ⊢
  generalize s.heap = H at hH ⊢
  have hx := C.1
  have hb := C.2.1
  have hl : lv_has ls 4 [(0, .ref r)] := hl
  refine lv_lconst (v := lN 0) hx hb dX4_together_0 (by decide) ?_
  refine lv_lstore_n (lv' := [(1, .long (lN 0)), (0, .ref r)]) hx hb dX4_together_1 rfl hl (by decide) rfl (fun ls hl => ?_)
  refine lv_iconst (v := nI 0) hx hb dX4_together_2 (by decide) ?_
  refine lv_istore_n (lv' := [(3, .int (nI 0)), (1, .long (lN 0)), (0, .ref r)]) hx hb dX4_together_3 rfl hl (by decide) rfl (fun ls hl => ?_)
  have loop_4 : ∀ (N_4 : Nat) (i : Nat) (hi : i ≤ P + 1) (hm_4 : P + 1 - i < N_4) (H : Heap) (locs : List Loc) (hH : fx_H G base s f sz H locs) (ls : Array Slot) (hl : lv_has ls 4 [(0, .ref r), (1, .long (sJ q i)), (3, .int (nI i))]), W p l e rm_X4_together s m args below meth c H locs 0 0 (MQ below (fx_Q G base (some (.long (sJ q (P + 1)))) f sz) args s rm_X4_together.cells rm_X4_together.slots (fun q => base ≤ q)) (F0 m 4 ls []) := by
    intro N_4
    induction N_4 with
    | zero => intro i hi hm_4; exact absurd hm_4 (Nat.not_lt_zero _)
    | succ N_4 ih_4 =>
      intro i hi hm_4 H locs hH ls hl
      refine lv_iload_n hx hb dX4_together_4 rfl (lv_at hl 2 rfl) ?_
      refine lv_aload_n hx hb dX4_together_5 rfl (lv_at hl 0 rfl) ?_
      refine fx_get C hH (k := 1) (v := .ref w) h_r ff_X4_23_4 rfl dX4_together_6 ?_
      refine fx_get C hH (k := 3) (v := .int (nI P)) h_w ff_X4_39_2 rfl dX4_together_9 ?_
      refine fx_N_gt (a := i) (b := P) hx hb (by omega) (by omega) (tgt := 30) dX4_together_12 (by decide) (fun c12 => ?_) (fun c12 => ?_)
      · refine lv_lload_n hx hb dX4_together_30 rfl (lv_at hl 1 rfl) ?_
        exact fx_lret C hr hk hH (by rw [show i = P + 1 from by omega]) rfl rfl (Nat.zero_le _) (Nat.zero_le _) dX4_together_31
      · refine lv_lload_n hx hb dX4_together_15 rfl (lv_at hl 1 rfl) ?_
        refine lv_aload_n hx hb dX4_together_16 rfl (lv_at hl 0 rfl) ?_
        refine fx_get C hH (k := 0) (v := .ref k) h_r ff_X4_9_4 rfl dX4_together_17 ?_
        refine lv_iload_n hx hb dX4_together_20 rfl (lv_at hl 2 rfl) ?_
        refine fx_laldN C hH h_k (by omega) (by omega) dX4_together_21 ?_
        refine lv_ladd hx hb dX4_together_22 ?_
        refine lv_lstore_n (lv' := [(1, .long ((sJ q i) + (q i))), (0, .ref r), (3, .int (nI i))]) hx hb dX4_together_23 rfl hl (by decide) rfl (fun ls hl => ?_)
        refine lv_iinc (v := nI (i + 1)) (lv' := [(3, .int (nI (i + 1))), (1, .long ((sJ q i) + (q i))), (0, .ref r)]) hx hb dX4_together_24 hl (k := 2) rfl (nI_1 _) (by decide) rfl (fun ls hl => ?_)
        refine lv_goto (tgt := 4) hx hb dX4_together_27 (by decide) ?_
        have hl : lv_has ls 4 [(0, .ref r), (1, .long ((sJ q i) + (q i))), (3, .int (nI (i + 1)))] := lv_sub hl [2, 1, 0] rfl
        have hl : lv_has ls 4 [(0, .ref r), (1, .long (sJ q (i + 1))), (3, .int (nI (i + 1)))] := hl
        exact ih_4 (i + 1) (by omega) (by omega) _ _ hH _ hl
  have hl : lv_has ls 4 [(0, .ref r), (1, .long (lN 0)), (3, .int (nI 0))] := lv_sub hl [2, 1, 0] rfl
  have hl : lv_has ls 4 [(0, .ref r), (1, .long (sJ q 0)), (3, .int (nI 0))] := hl
  exact loop_4 _ 0 (by omega) (Nat.lt_succ_self _) _ _ hH _ hl
abbrev rm_X4_weigh : Room := { frames := 0, cells := 0, slots := 0, locals := 0 }
set_option maxHeartbeats 4000000 in
set_option maxRecDepth 100000 in
theorem c_X4_weigh {G : GG} {base : Nat} {l : Launch} {f : Hp} {sz : Nat} {r : Nat} {h : Nat} {e_ : Nat} {k : Nat} {w : Nat} {pl : Nat} {wy : Int32} {se : Int32} {to : Int32} {lf : Int32} {ta : Int32} {q : Nat → Int64} {wt : Nat} {ch : Nat} {sk : Nat} {P : Nat} {st : Nat} {ov : Int32} {mi : Int32} {ri : Int32} {tl : Int32} (h_r : f r = some (oO 4 [.ref k, .ref w, .int (nI pl), .int wy, .int se, .int to, .int lf, .int ta])) (h_k : f k = some (oJ 13 q)) (h_w : f w = some (oO 2 [.ref wt, .ref ch, .ref sk, .int (nI P), .int (nI st), .int ov, .int mi, .int ri, .int tl])) (hP : P ≤ 12) (hh : h ≤ 10) (he : e_ ≤ 10) (hpl : pl ≤ 12) : fx_M G base l yX4_weigh cX4_weigh 4 none rm_X4_weigh [.ref r, .int (nI h), .int (nI e_)] f sz none (fx_up f k (oJ 13 (wg q pl h e_ (P + 1)))) sz := by
  refine fx_of (by decide +kernel) (Nat.le_of_ble_eq_true rfl) ?_
  intro p e s m args below meth c C hr hk hnm hH ls hl
  obtain ⟨locs, hlocs⟩ : ∃ L : List Loc, L = [] := ⟨_, rfl⟩
  rw [← hlocs] at hH ⊢
  generalize s.heap = H at hH ⊢
  have hx := C.1
  have hb := C.2.1
  have hl : lv_has ls 4 [(0, .ref r), (1, .int (nI h)), (2, .int (nI e_))] := hl
  refine lv_iconst (v := nI 0) hx hb dX4_weigh_0 (by decide) ?_
  refine lv_istore_n (lv' := [(3, .int (nI 0)), (0, .ref r), (1, .int (nI h)), (2, .int (nI e_))]) hx hb dX4_weigh_1 rfl hl (by decide) rfl (fun ls hl => ?_)
  have loop_2 : ∀ (N_2 : Nat) (i : Nat) (hi : i ≤ P + 1) (hm_2 : P + 1 - i < N_2) (H : Heap) (locs : List Loc) (hH : fx_H G base s (fx_up f k (oJ 13 (wg q pl h e_ i))) sz H locs) (ls : Array Slot) (hl : lv_has ls 4 [(0, .ref r), (1, .int (nI h)), (2, .int (nI e_)), (3, .int (nI i))]), W p l e rm_X4_weigh s m args below meth c H locs 0 0 (MQ below (fx_Q G base none (fx_up f k (oJ 13 (wg q pl h e_ (P + 1)))) sz) args s rm_X4_weigh.cells rm_X4_weigh.slots (fun q => base ≤ q)) (F0 m 2 ls []) := by
    intro N_2
    induction N_2 with
    | zero => intro i hi hm_2; exact absurd hm_2 (Nat.not_lt_zero _)
    | succ N_2 ih_2 =>
      intro i hi hm_2 H locs hH ls hl
      have h1_r : (fx_up f k (oJ 13 (wg q pl h e_ i))) r = some (oO 4 [.ref k, .ref w, .int (nI pl), .int wy, .int se, .int to, .int lf, .int ta]) := (fx_up_n _ _ (fx_ne h_r h_k rfl)).trans (h_r)
      have h1_k : (fx_up f k (oJ 13 (wg q pl h e_ i))) k = some (oJ 13 (wg q pl h e_ i)) := fx_up_s _ _ _
      have h1_w : (fx_up f k (oJ 13 (wg q pl h e_ i))) w = some (oO 2 [.ref wt, .ref ch, .ref sk, .int (nI P), .int (nI st), .int ov, .int mi, .int ri, .int tl]) := (fx_up_n _ _ (fx_ne h_w h_k rfl)).trans (h_w)
      refine lv_iload_n hx hb dX4_weigh_2 rfl (lv_at hl 3 rfl) ?_
      refine lv_aload_n hx hb dX4_weigh_3 rfl (lv_at hl 0 rfl) ?_
      refine fx_get C hH (k := 1) (v := .ref w) h1_r ff_X4_23_4 rfl dX4_weigh_4 ?_
      refine fx_get C hH (k := 3) (v := .int (nI P)) h1_w ff_X4_39_2 rfl dX4_weigh_7 ?_
      refine fx_N_gt (a := i) (b := P) hx hb (by omega) (by omega) (tgt := 43) dX4_weigh_10 (by decide) (fun c10 => ?_) (fun c10 => ?_)
      · exact fx_vret C hr hk hH (by rw [show i = P + 1 from by omega]) rfl (Nat.zero_le _) (Nat.zero_le _) dX4_weigh_43
      · refine lv_aload_n hx hb dX4_weigh_13 rfl (lv_at hl 0 rfl) ?_
        refine fx_get C hH (k := 0) (v := .ref k) h1_r ff_X4_9_4 rfl dX4_weigh_14 ?_
        refine lv_iload_n hx hb dX4_weigh_17 rfl (lv_at hl 3 rfl) ?_
        refine lv_dup2_11 hx hb dX4_weigh_18 rfl rfl ?_
        refine fx_laldN C hH h1_k (by omega) (by omega) dX4_weigh_19 ?_
        refine lv_iload_n hx hb dX4_weigh_20 rfl (lv_at hl 3 rfl) ?_
        refine lv_aload_n hx hb dX4_weigh_21 rfl (lv_at hl 0 rfl) ?_
        refine fx_get C hH (k := 2) (v := .int (nI pl)) h1_r ff_X4_27_4 rfl dX4_weigh_22 ?_
        refine fx_N_ne (a := i) (b := pl) hx hb (by omega) (by omega) (tgt := 33) dX4_weigh_25 (by decide) (fun c25 => ?_) (fun c25 => ?_)
        · refine lv_iload_n hx hb dX4_weigh_33 rfl (lv_at hl 2 rfl) ?_
          refine lv_i2l (v := lN e_) hx hb dX4_weigh_34 (nI_l (by omega)) ?_
          refine lv_lmul hx hb dX4_weigh_35 ?_
          refine fx_lastN C hH h1_k (by omega) (by omega) dX4_weigh_36 (fun H locs hH => ?_)
          have hH : fx_H G base s (fx_up (fx_up f k (oJ 13 (wg q pl h e_ i))) k (oJ 13 (vp_updL (wg q pl h e_ i) i (((wg q pl h e_ i) i) * (lN e_))))) sz H locs := hH
          rw [fx_up_up] at hH
          have hH : fx_H G base s (fx_up f k (oJ 13 (vp_updL (wg q pl h e_ i) i (((wg q pl h e_ i) i) * (lN e_))))) sz H locs := hH
          have heq2 : fx_up (fx_up f k (oJ 13 (wg q pl h e_ i))) k (oJ 13 (vp_updL (wg q pl h e_ i) i (((wg q pl h e_ i) i) * (lN e_)))) = fx_up f k (oJ 13 (vp_updL (wg q pl h e_ i) i (((wg q pl h e_ i) i) * (lN e_)))) := by rw [fx_up_up]
          have h2_r : (fx_up f k (oJ 13 (vp_updL (wg q pl h e_ i) i (((wg q pl h e_ i) i) * (lN e_))))) r = some (oO 4 [.ref k, .ref w, .int (nI pl), .int wy, .int se, .int to, .int lf, .int ta]) := (congrFun heq2 r).symm.trans ((fx_up_n _ _ (fx_ne h1_r h1_k rfl)).trans h1_r)
          have h2_w : (fx_up f k (oJ 13 (vp_updL (wg q pl h e_ i) i (((wg q pl h e_ i) i) * (lN e_))))) w = some (oO 2 [.ref wt, .ref ch, .ref sk, .int (nI P), .int (nI st), .int ov, .int mi, .int ri, .int tl]) := (congrFun heq2 w).symm.trans ((fx_up_n _ _ (fx_ne h1_w h1_k rfl)).trans h1_w)
          have h2_k : (fx_up f k (oJ 13 (vp_updL (wg q pl h e_ i) i (((wg q pl h e_ i) i) * (lN e_))))) k = some (oJ 13 (vp_updL (wg q pl h e_ i) i (((wg q pl h e_ i) i) * (lN e_)))) := (congrFun heq2 k).symm.trans (fx_up_s _ _ _)
          refine lv_iinc (v := nI (i + 1)) (lv' := [(3, .int (nI (i + 1))), (0, .ref r), (1, .int (nI h)), (2, .int (nI e_))]) hx hb dX4_weigh_37 hl (k := 3) rfl (nI_1 _) (by decide) rfl (fun ls hl => ?_)
          refine lv_goto (tgt := 2) hx hb dX4_weigh_40 (by decide) ?_
          have hl : lv_has ls 4 [(0, .ref r), (1, .int (nI h)), (2, .int (nI e_)), (3, .int (nI (i + 1)))] := lv_sub hl [1, 2, 3, 0] rfl
          have hH : fx_H G base s (fx_up f k (oJ 13 (wg q pl h e_ (i + 1)))) sz H locs := (by rw [wg, if_neg c25]; exact hH)
          exact ih_2 (i + 1) (by omega) (by omega) _ _ hH _ hl
        · refine lv_iload_n hx hb dX4_weigh_28 rfl (lv_at hl 1 rfl) ?_
          refine lv_i2l (v := lN h) hx hb dX4_weigh_29 (nI_l (by omega)) ?_
          refine lv_goto (tgt := 35) hx hb dX4_weigh_30 (by decide) ?_
          refine lv_lmul hx hb dX4_weigh_35 ?_
          refine fx_lastN C hH h1_k (by omega) (by omega) dX4_weigh_36 (fun H locs hH => ?_)
          have hH : fx_H G base s (fx_up (fx_up f k (oJ 13 (wg q pl h e_ i))) k (oJ 13 (vp_updL (wg q pl h e_ i) i (((wg q pl h e_ i) i) * (lN h))))) sz H locs := hH
          rw [fx_up_up] at hH
          have hH : fx_H G base s (fx_up f k (oJ 13 (vp_updL (wg q pl h e_ i) i (((wg q pl h e_ i) i) * (lN h))))) sz H locs := hH
          have heq3 : fx_up (fx_up f k (oJ 13 (wg q pl h e_ i))) k (oJ 13 (vp_updL (wg q pl h e_ i) i (((wg q pl h e_ i) i) * (lN h)))) = fx_up f k (oJ 13 (vp_updL (wg q pl h e_ i) i (((wg q pl h e_ i) i) * (lN h)))) := by rw [fx_up_up]
          have h3_r : (fx_up f k (oJ 13 (vp_updL (wg q pl h e_ i) i (((wg q pl h e_ i) i) * (lN h))))) r = some (oO 4 [.ref k, .ref w, .int (nI pl), .int wy, .int se, .int to, .int lf, .int ta]) := (congrFun heq3 r).symm.trans ((fx_up_n _ _ (fx_ne h1_r h1_k rfl)).trans h1_r)
          have h3_w : (fx_up f k (oJ 13 (vp_updL (wg q pl h e_ i) i (((wg q pl h e_ i) i) * (lN h))))) w = some (oO 2 [.ref wt, .ref ch, .ref sk, .int (nI P), .int (nI st), .int ov, .int mi, .int ri, .int tl]) := (congrFun heq3 w).symm.trans ((fx_up_n _ _ (fx_ne h1_w h1_k rfl)).trans h1_w)
          have h3_k : (fx_up f k (oJ 13 (vp_updL (wg q pl h e_ i) i (((wg q pl h e_ i) i) * (lN h))))) k = some (oJ 13 (vp_updL (wg q pl h e_ i) i (((wg q pl h e_ i) i) * (lN h)))) := (congrFun heq3 k).symm.trans (fx_up_s _ _ _)
          refine lv_iinc (v := nI (i + 1)) (lv' := [(3, .int (nI (i + 1))), (0, .ref r), (1, .int (nI h)), (2, .int (nI e_))]) hx hb dX4_weigh_37 hl (k := 3) rfl (nI_1 _) (by decide) rfl (fun ls hl => ?_)
          refine lv_goto (tgt := 2) hx hb dX4_weigh_40 (by decide) ?_
          have hl : lv_has ls 4 [(0, .ref r), (1, .int (nI h)), (2, .int (nI e_)), (3, .int (nI (i + 1)))] := lv_sub hl [1, 2, 3, 0] rfl
          have hH : fx_H G base s (fx_up f k (oJ 13 (wg q pl h e_ (i + 1)))) sz H locs := (by rw [wg, if_pos c25]; exact hH)
          exact ih_2 (i + 1) (by omega) (by omega) _ _ hH _ hl
  have hl : lv_has ls 4 [(0, .ref r), (1, .int (nI h)), (2, .int (nI e_)), (3, .int (nI 0))] := lv_sub hl [1, 2, 3, 0] rfl
  have hH : fx_H G base s (fx_up f k (oJ 13 (wg q pl h e_ 0))) sz H locs := (by rw [fx_up_id (show f k = some (oJ 13 (wg q pl h e_ 0)) from h_k)]; exact hH)
  exact loop_2 _ 0 (by omega) (Nat.lt_succ_self _) _ _ hH _ hl
abbrev rm_X4_turn : Room := { frames := 0, cells := 0, slots := 0, locals := 0 }
set_option maxHeartbeats 4000000 in
set_option maxRecDepth 100000 in
theorem c_X4_turn {G : GG} {base : Nat} {l : Launch} {f : Hp} {sz : Nat} {r : Nat} {k : Nat} {w : Nat} {pl : Int32} {wy : Int32} {se : Int32} {to : Int32} {lf : Int32} {ta : Int32} {wt : Nat} {ch : Nat} {sk : Nat} {P : Int32} {st : Int32} {ov : Int32} {mi : Int32} {ri : Int32} {tl : Int32} (h_r : f r = some (oO 4 [.ref k, .ref w, .int pl, .int wy, .int se, .int to, .int lf, .int ta])) (h_w : f w = some (oO 2 [.ref wt, .ref ch, .ref sk, .int P, .int st, .int ov, .int mi, .int ri, .int tl])) : fx_M G base l yX4_turn cX4_turn 1 none rm_X4_turn [.ref r] f sz none (fx_up f r (oO 4 [.ref k, .ref w, .int pl, .int (-wy), .int (se + ov), .int to, .int lf, .int ta])) sz := by
  refine fx_of (by decide +kernel) (Nat.le_of_ble_eq_true rfl) ?_
  intro p e s m args below meth c C hr hk hnm hH ls hl
  obtain ⟨locs, hlocs⟩ : ∃ L : List Loc, L = [] := ⟨_, rfl⟩
  rw [← hlocs] at hH ⊢
  generalize s.heap = H at hH ⊢
  have hx := C.1
  have hb := C.2.1
  have hl : lv_has ls 1 [(0, .ref r)] := hl
  refine lv_aload_n hx hb dX4_turn_0 rfl (lv_at hl 0 rfl) ?_
  refine lv_aload_n hx hb dX4_turn_1 rfl (lv_at hl 0 rfl) ?_
  refine fx_get C hH (k := 3) (v := .int wy) h_r ff_X4_15_4 rfl dX4_turn_2 ?_
  refine lv_ineg hx hb dX4_turn_5 ?_
  refine fx_putT C hH (k := 3) h_r ff_X4_15_4 fL_4 fT_4_3 rfl rfl (Nat.le_of_ble_eq_true rfl) dX4_turn_6 (fun H locs hH => ?_)
  have hH : fx_H G base s (fx_up f r (oO 4 [.ref k, .ref w, .int pl, .int (-wy), .int se, .int to, .int lf, .int ta])) sz H locs := hH
  have h1_w : (fx_up f r (oO 4 [.ref k, .ref w, .int pl, .int (-wy), .int se, .int to, .int lf, .int ta])) w = some (oO 2 [.ref wt, .ref ch, .ref sk, .int P, .int st, .int ov, .int mi, .int ri, .int tl]) := (fx_up_n _ _ (fx_ne h_w h_r rfl)).trans h_w
  have h1_r : (fx_up f r (oO 4 [.ref k, .ref w, .int pl, .int (-wy), .int se, .int to, .int lf, .int ta])) r = some (oO 4 [.ref k, .ref w, .int pl, .int (-wy), .int se, .int to, .int lf, .int ta]) := fx_up_s _ _ _
  refine lv_aload_n hx hb dX4_turn_9 rfl (lv_at hl 0 rfl) ?_
  refine lv_dup hx hb dX4_turn_10 rfl ?_
  refine fx_get C hH (k := 4) (v := .int se) h1_r ff_X4_30_4 rfl dX4_turn_11 ?_
  refine lv_aload_n hx hb dX4_turn_14 rfl (lv_at hl 0 rfl) ?_
  refine fx_get C hH (k := 1) (v := .ref w) h1_r ff_X4_23_4 rfl dX4_turn_15 ?_
  refine fx_get C hH (k := 5) (v := .int ov) h1_w ff_X4_76_2 rfl dX4_turn_18 ?_
  refine lv_iadd hx hb dX4_turn_21 ?_
  refine fx_putT C hH (k := 4) h1_r ff_X4_30_4 fL_4 fT_4_4 rfl rfl (Nat.le_of_ble_eq_true rfl) dX4_turn_22 (fun H locs hH => ?_)
  have hH : fx_H G base s (fx_up (fx_up f r (oO 4 [.ref k, .ref w, .int pl, .int (-wy), .int se, .int to, .int lf, .int ta])) r (oO 4 [.ref k, .ref w, .int pl, .int (-wy), .int (se + ov), .int to, .int lf, .int ta])) sz H locs := hH
  rw [fx_up_up] at hH
  have hH : fx_H G base s (fx_up f r (oO 4 [.ref k, .ref w, .int pl, .int (-wy), .int (se + ov), .int to, .int lf, .int ta])) sz H locs := hH
  have heq2 : fx_up (fx_up f r (oO 4 [.ref k, .ref w, .int pl, .int (-wy), .int se, .int to, .int lf, .int ta])) r (oO 4 [.ref k, .ref w, .int pl, .int (-wy), .int (se + ov), .int to, .int lf, .int ta]) = fx_up f r (oO 4 [.ref k, .ref w, .int pl, .int (-wy), .int (se + ov), .int to, .int lf, .int ta]) := by rw [fx_up_up]
  have h2_w : (fx_up f r (oO 4 [.ref k, .ref w, .int pl, .int (-wy), .int (se + ov), .int to, .int lf, .int ta])) w = some (oO 2 [.ref wt, .ref ch, .ref sk, .int P, .int st, .int ov, .int mi, .int ri, .int tl]) := (congrFun heq2 w).symm.trans ((fx_up_n _ _ (fx_ne h1_w h1_r rfl)).trans h1_w)
  have h2_r : (fx_up f r (oO 4 [.ref k, .ref w, .int pl, .int (-wy), .int (se + ov), .int to, .int lf, .int ta])) r = some (oO 4 [.ref k, .ref w, .int pl, .int (-wy), .int (se + ov), .int to, .int lf, .int ta]) := (congrFun heq2 r).symm.trans (fx_up_s _ _ _)
  exact fx_vret C hr hk hH rfl rfl (Nat.zero_le _) (Nat.zero_le _) dX4_turn_25
abbrev rm_X4_advance : Room := { frames := 2, cells := 0, slots := 0, locals := 43 }
set_option maxHeartbeats 4000000 in
set_option maxRecDepth 100000 in
theorem c_X4_advance {G : GG} {base : Nat} {l : Launch} {f : Hp} {sz : Nat} {r : Nat} {n : Int32} {k : Nat} {w : Nat} {pl : Nat} {wy : Int32} {se : Int32} {to : Int32} {lf : Int32} {ta : Int32} {wt : Nat} {ch : Nat} {sk : Nat} {P : Nat} {st : Nat} {ov : Int32} {mi : Int32} {ri : Int32} {tl : Int32} (h_r : f r = some (oO 4 [.ref k, .ref w, .int (nI pl), .int wy, .int se, .int to, .int lf, .int ta])) (h_w : f w = some (oO 2 [.ref wt, .ref ch, .ref sk, .int (nI P), .int (nI st), .int ov, .int mi, .int ri, .int tl])) (hP : 1 ≤ P ∧ P ≤ 12) : fx_M G base l yX4_advance cX4_advance 2 none rm_X4_advance [.ref r, .int n] f sz none (fx_up f r (oO 4 [.ref k, .ref w, .int (fmI (nI pl + wy * n) (nI P)), .int wy, .int (se + n * nI st), .int to, .int lf, .int ta])) sz := by
  refine fx_of (by decide +kernel) (Nat.le_of_ble_eq_true rfl) ?_
  intro p e s m args below meth c C hr hk hnm hH ls hl
  obtain ⟨locs, hlocs⟩ : ∃ L : List Loc, L = [] := ⟨_, rfl⟩
  rw [← hlocs] at hH ⊢
  generalize s.heap = H at hH ⊢
  have hx := C.1
  have hb := C.2.1
  have hl : lv_has ls 2 [(0, .ref r), (1, .int n)] := hl
  refine lv_aload_n hx hb dX4_advance_0 rfl (lv_at hl 0 rfl) ?_
  refine lv_aload_n hx hb dX4_advance_1 rfl (lv_at hl 0 rfl) ?_
  refine fx_get C hH (k := 1) (v := .ref w) h_r ff_X4_23_4 rfl dX4_advance_2 ?_
  refine lv_aload_n hx hb dX4_advance_5 rfl (lv_at hl 0 rfl) ?_
  refine fx_get C hH (k := 2) (v := .int (nI pl)) h_r ff_X4_27_4 rfl dX4_advance_6 ?_
  refine lv_aload_n hx hb dX4_advance_9 rfl (lv_at hl 0 rfl) ?_
  refine fx_get C hH (k := 3) (v := .int wy) h_r ff_X4_15_4 rfl dX4_advance_10 ?_
  refine lv_iload_n hx hb dX4_advance_13 rfl (lv_at hl 1 rfl) ?_
  refine lv_imul hx hb dX4_advance_14 ?_
  refine lv_iadd hx hb dX4_advance_15 ?_
  refine fx_go1 hH (fx_runV C hH hl.1 (As := [.int ((nI pl) + (wy * n))]) (rest := [.ref r]) (c_X2_around (G := G) (base := base) (l := l) (f := f) (sz := sz) (w := w) (x := (nI pl) + (wy * n)) (wt := wt) (ch := ch) (sk := sk) (P := P) (st := st) (ov := ov) (mi := mi) (ri := ri) (tl := tl) h_w (by omega)) mY_X2_around ml_X4_70 im_X2_around se_X2_X2_around h_w rfl rfl ⟨(Nat.le_of_ble_eq_true rfl), (Nat.le_of_ble_eq_true rfl)⟩ rfl (Nat.le_of_ble_eq_true rfl) ⟨(Nat.le_of_ble_eq_true rfl), (Nat.le_of_ble_eq_true rfl)⟩ dX4_advance_16) (fun H locs hH => ?_)
  refine fx_putT C hH (k := 2) h_r ff_X4_27_4 fL_4 fT_4_2 rfl rfl (Nat.le_of_ble_eq_true rfl) dX4_advance_19 (fun H locs hH => ?_)
  have hH : fx_H G base s (fx_up f r (oO 4 [.ref k, .ref w, .int (fmI ((nI pl) + (wy * n)) (nI P)), .int wy, .int se, .int to, .int lf, .int ta])) sz H locs := hH
  have h1_w : (fx_up f r (oO 4 [.ref k, .ref w, .int (fmI ((nI pl) + (wy * n)) (nI P)), .int wy, .int se, .int to, .int lf, .int ta])) w = some (oO 2 [.ref wt, .ref ch, .ref sk, .int (nI P), .int (nI st), .int ov, .int mi, .int ri, .int tl]) := (fx_up_n _ _ (fx_ne h_w h_r rfl)).trans h_w
  have h1_r : (fx_up f r (oO 4 [.ref k, .ref w, .int (fmI ((nI pl) + (wy * n)) (nI P)), .int wy, .int se, .int to, .int lf, .int ta])) r = some (oO 4 [.ref k, .ref w, .int (fmI ((nI pl) + (wy * n)) (nI P)), .int wy, .int se, .int to, .int lf, .int ta]) := fx_up_s _ _ _
  refine lv_aload_n hx hb dX4_advance_22 rfl (lv_at hl 0 rfl) ?_
  refine lv_dup hx hb dX4_advance_23 rfl ?_
  refine fx_get C hH (k := 4) (v := .int se) h1_r ff_X4_30_4 rfl dX4_advance_24 ?_
  refine lv_iload_n hx hb dX4_advance_27 rfl (lv_at hl 1 rfl) ?_
  refine lv_aload_n hx hb dX4_advance_28 rfl (lv_at hl 0 rfl) ?_
  refine fx_get C hH (k := 1) (v := .ref w) h1_r ff_X4_23_4 rfl dX4_advance_29 ?_
  refine fx_get C hH (k := 4) (v := .int (nI st)) h1_w ff_X4_73_2 rfl dX4_advance_32 ?_
  refine lv_imul hx hb dX4_advance_35 ?_
  refine lv_iadd hx hb dX4_advance_36 ?_
  refine fx_putT C hH (k := 4) h1_r ff_X4_30_4 fL_4 fT_4_4 rfl rfl (Nat.le_of_ble_eq_true rfl) dX4_advance_37 (fun H locs hH => ?_)
  have hH : fx_H G base s (fx_up (fx_up f r (oO 4 [.ref k, .ref w, .int (fmI ((nI pl) + (wy * n)) (nI P)), .int wy, .int se, .int to, .int lf, .int ta])) r (oO 4 [.ref k, .ref w, .int (fmI ((nI pl) + (wy * n)) (nI P)), .int wy, .int (se + (n * (nI st))), .int to, .int lf, .int ta])) sz H locs := hH
  rw [fx_up_up] at hH
  have hH : fx_H G base s (fx_up f r (oO 4 [.ref k, .ref w, .int (fmI ((nI pl) + (wy * n)) (nI P)), .int wy, .int (se + (n * (nI st))), .int to, .int lf, .int ta])) sz H locs := hH
  have heq2 : fx_up (fx_up f r (oO 4 [.ref k, .ref w, .int (fmI ((nI pl) + (wy * n)) (nI P)), .int wy, .int se, .int to, .int lf, .int ta])) r (oO 4 [.ref k, .ref w, .int (fmI ((nI pl) + (wy * n)) (nI P)), .int wy, .int (se + (n * (nI st))), .int to, .int lf, .int ta]) = fx_up f r (oO 4 [.ref k, .ref w, .int (fmI ((nI pl) + (wy * n)) (nI P)), .int wy, .int (se + (n * (nI st))), .int to, .int lf, .int ta]) := by rw [fx_up_up]
  have h2_w : (fx_up f r (oO 4 [.ref k, .ref w, .int (fmI ((nI pl) + (wy * n)) (nI P)), .int wy, .int (se + (n * (nI st))), .int to, .int lf, .int ta])) w = some (oO 2 [.ref wt, .ref ch, .ref sk, .int (nI P), .int (nI st), .int ov, .int mi, .int ri, .int tl]) := (congrFun heq2 w).symm.trans ((fx_up_n _ _ (fx_ne h1_w h1_r rfl)).trans h1_w)
  have h2_r : (fx_up f r (oO 4 [.ref k, .ref w, .int (fmI ((nI pl) + (wy * n)) (nI P)), .int wy, .int (se + (n * (nI st))), .int to, .int lf, .int ta])) r = some (oO 4 [.ref k, .ref w, .int (fmI ((nI pl) + (wy * n)) (nI P)), .int wy, .int (se + (n * (nI st))), .int to, .int lf, .int ta]) := (congrFun heq2 r).symm.trans (fx_up_s _ _ _)
  exact fx_vret C hr hk hH (by rfl) rfl (Nat.zero_le _) (Nat.zero_le _) dX4_advance_40
abbrev rm_X4_moveTo : Room := { frames := 1, cells := 0, slots := 0, locals := 21 }
set_option maxHeartbeats 4000000 in
set_option maxRecDepth 100000 in
theorem c_X4_moveTo {G : GG} {base : Nat} {l : Launch} {f : Hp} {sz : Nat} {r : Nat} {x : Int32} {k : Nat} {w : Nat} {pl : Nat} {wy : Int32} {se : Int32} {to : Int32} {lf : Int32} {ta : Int32} {wt : Nat} {ch : Nat} {sk : Nat} {P : Nat} {st : Nat} {ov : Int32} {mi : Int32} {ri : Int32} {tl : Int32} (h_r : f r = some (oO 4 [.ref k, .ref w, .int (nI pl), .int wy, .int se, .int to, .int lf, .int ta])) (h_w : f w = some (oO 2 [.ref wt, .ref ch, .ref sk, .int (nI P), .int (nI st), .int ov, .int mi, .int ri, .int tl])) : fx_M G base l yX4_moveTo cX4_moveTo 3 none rm_X4_moveTo [.ref r, .int x] f sz none (fx_up f r (oO 4 [.ref k, .ref w, .int x, .int wy, .int (se + nI st * (if (nI P - (if 0 ≤ (x - nI pl) then (x - nI pl) else -(x - nI pl))) < (if 0 ≤ (x - nI pl) then (x - nI pl) else -(x - nI pl)) then (nI P - (if 0 ≤ (x - nI pl) then (x - nI pl) else -(x - nI pl))) else (if 0 ≤ (x - nI pl) then (x - nI pl) else -(x - nI pl)))), .int to, .int lf, .int ta])) sz := by
  refine fx_of (by decide +kernel) (Nat.le_of_ble_eq_true rfl) ?_
  intro p e s m args below meth c C hr hk hnm hH ls hl
  obtain ⟨locs, hlocs⟩ : ∃ L : List Loc, L = [] := ⟨_, rfl⟩
  rw [← hlocs] at hH ⊢
  generalize s.heap = H at hH ⊢
  have hx := C.1
  have hb := C.2.1
  have hl : lv_has ls 3 [(0, .ref r), (1, .int x)] := hl
  refine lv_iload_n hx hb dX4_moveTo_0 rfl (lv_at hl 1 rfl) ?_
  refine lv_aload_n hx hb dX4_moveTo_1 rfl (lv_at hl 0 rfl) ?_
  refine fx_get C hH (k := 2) (v := .int (nI pl)) h_r ff_X4_27_4 rfl dX4_moveTo_2 ?_
  refine lv_isub hx hb dX4_moveTo_5 ?_
  refine fx_go1 hH (fx_runS C hH hl.1 (As := [.int (x - (nI pl))]) (rest := []) (c_J9_abs_0f7a4 (G := G) (base := base) (l := l) (f := f) (sz := sz) (a := x - (nI pl)) ) mY_J9_abs_0f7a4 ml_X4_79 st_J9_abs_0f7a4 rfl ⟨(Nat.le_of_ble_eq_true rfl), (Nat.le_of_ble_eq_true rfl)⟩ rfl (Nat.le_of_ble_eq_true rfl) ⟨(Nat.le_of_ble_eq_true rfl), (Nat.le_of_ble_eq_true rfl)⟩ dX4_moveTo_6) (fun H locs hH => ?_)
  refine lv_istore_n (lv' := [(2, .int (if 0 ≤ (x - (nI pl)) then (x - (nI pl)) else -(x - (nI pl)))), (0, .ref r), (1, .int x)]) hx hb dX4_moveTo_9 rfl hl (by decide) rfl (fun ls hl => ?_)
  refine lv_aload_n hx hb dX4_moveTo_10 rfl (lv_at hl 1 rfl) ?_
  refine lv_dup hx hb dX4_moveTo_11 rfl ?_
  refine fx_get C hH (k := 4) (v := .int se) h_r ff_X4_30_4 rfl dX4_moveTo_12 ?_
  refine lv_aload_n hx hb dX4_moveTo_15 rfl (lv_at hl 1 rfl) ?_
  refine fx_get C hH (k := 1) (v := .ref w) h_r ff_X4_23_4 rfl dX4_moveTo_16 ?_
  refine fx_get C hH (k := 4) (v := .int (nI st)) h_w ff_X4_73_2 rfl dX4_moveTo_19 ?_
  refine lv_iload_n hx hb dX4_moveTo_22 rfl (lv_at hl 0 rfl) ?_
  refine lv_aload_n hx hb dX4_moveTo_23 rfl (lv_at hl 1 rfl) ?_
  refine fx_get C hH (k := 1) (v := .ref w) h_r ff_X4_23_4 rfl dX4_moveTo_24 ?_
  refine fx_get C hH (k := 3) (v := .int (nI P)) h_w ff_X4_39_2 rfl dX4_moveTo_27 ?_
  refine lv_iload_n hx hb dX4_moveTo_30 rfl (lv_at hl 0 rfl) ?_
  refine lv_isub hx hb dX4_moveTo_31 ?_
  refine fx_go1 hH (fx_runS C hH hl.1 (As := [.int (if 0 ≤ (x - (nI pl)) then (x - (nI pl)) else -(x - (nI pl))), .int ((nI P) - (if 0 ≤ (x - (nI pl)) then (x - (nI pl)) else -(x - (nI pl))))]) (rest := [.int (nI st), .int se, .ref r]) (c_J9_min_7cf53 (G := G) (base := base) (l := l) (f := f) (sz := sz) (a := if 0 ≤ (x - (nI pl)) then (x - (nI pl)) else -(x - (nI pl))) (b := (nI P) - (if 0 ≤ (x - (nI pl)) then (x - (nI pl)) else -(x - (nI pl)))) ) mY_J9_min_7cf53 ml_X4_84 st_J9_min_7cf53 rfl ⟨(Nat.le_of_ble_eq_true rfl), (Nat.le_of_ble_eq_true rfl)⟩ rfl (Nat.le_of_ble_eq_true rfl) ⟨(Nat.le_of_ble_eq_true rfl), (Nat.le_of_ble_eq_true rfl)⟩ dX4_moveTo_32) (fun H locs hH => ?_)
  refine lv_imul hx hb dX4_moveTo_35 ?_
  refine lv_iadd hx hb dX4_moveTo_36 ?_
  refine fx_putT C hH (k := 4) h_r ff_X4_30_4 fL_4 fT_4_4 rfl rfl (Nat.le_of_ble_eq_true rfl) dX4_moveTo_37 (fun H locs hH => ?_)
  have hH : fx_H G base s (fx_up f r (oO 4 [.ref k, .ref w, .int (nI pl), .int wy, .int (se + ((nI st) * (if ((nI P) - (if 0 ≤ (x - (nI pl)) then (x - (nI pl)) else -(x - (nI pl)))) < (if 0 ≤ (x - (nI pl)) then (x - (nI pl)) else -(x - (nI pl))) then ((nI P) - (if 0 ≤ (x - (nI pl)) then (x - (nI pl)) else -(x - (nI pl)))) else (if 0 ≤ (x - (nI pl)) then (x - (nI pl)) else -(x - (nI pl)))))), .int to, .int lf, .int ta])) sz H locs := hH
  have h1_w : (fx_up f r (oO 4 [.ref k, .ref w, .int (nI pl), .int wy, .int (se + ((nI st) * (if ((nI P) - (if 0 ≤ (x - (nI pl)) then (x - (nI pl)) else -(x - (nI pl)))) < (if 0 ≤ (x - (nI pl)) then (x - (nI pl)) else -(x - (nI pl))) then ((nI P) - (if 0 ≤ (x - (nI pl)) then (x - (nI pl)) else -(x - (nI pl)))) else (if 0 ≤ (x - (nI pl)) then (x - (nI pl)) else -(x - (nI pl)))))), .int to, .int lf, .int ta])) w = some (oO 2 [.ref wt, .ref ch, .ref sk, .int (nI P), .int (nI st), .int ov, .int mi, .int ri, .int tl]) := (fx_up_n _ _ (fx_ne h_w h_r rfl)).trans h_w
  have h1_r : (fx_up f r (oO 4 [.ref k, .ref w, .int (nI pl), .int wy, .int (se + ((nI st) * (if ((nI P) - (if 0 ≤ (x - (nI pl)) then (x - (nI pl)) else -(x - (nI pl)))) < (if 0 ≤ (x - (nI pl)) then (x - (nI pl)) else -(x - (nI pl))) then ((nI P) - (if 0 ≤ (x - (nI pl)) then (x - (nI pl)) else -(x - (nI pl)))) else (if 0 ≤ (x - (nI pl)) then (x - (nI pl)) else -(x - (nI pl)))))), .int to, .int lf, .int ta])) r = some (oO 4 [.ref k, .ref w, .int (nI pl), .int wy, .int (se + ((nI st) * (if ((nI P) - (if 0 ≤ (x - (nI pl)) then (x - (nI pl)) else -(x - (nI pl)))) < (if 0 ≤ (x - (nI pl)) then (x - (nI pl)) else -(x - (nI pl))) then ((nI P) - (if 0 ≤ (x - (nI pl)) then (x - (nI pl)) else -(x - (nI pl)))) else (if 0 ≤ (x - (nI pl)) then (x - (nI pl)) else -(x - (nI pl)))))), .int to, .int lf, .int ta]) := fx_up_s _ _ _
  refine lv_aload_n hx hb dX4_moveTo_40 rfl (lv_at hl 1 rfl) ?_
  refine lv_iload_n hx hb dX4_moveTo_41 rfl (lv_at hl 2 rfl) ?_
  refine fx_putT C hH (k := 2) h1_r ff_X4_27_4 fL_4 fT_4_2 rfl rfl (Nat.le_of_ble_eq_true rfl) dX4_moveTo_42 (fun H locs hH => ?_)
  have hH : fx_H G base s (fx_up (fx_up f r (oO 4 [.ref k, .ref w, .int (nI pl), .int wy, .int (se + ((nI st) * (if ((nI P) - (if 0 ≤ (x - (nI pl)) then (x - (nI pl)) else -(x - (nI pl)))) < (if 0 ≤ (x - (nI pl)) then (x - (nI pl)) else -(x - (nI pl))) then ((nI P) - (if 0 ≤ (x - (nI pl)) then (x - (nI pl)) else -(x - (nI pl)))) else (if 0 ≤ (x - (nI pl)) then (x - (nI pl)) else -(x - (nI pl)))))), .int to, .int lf, .int ta])) r (oO 4 [.ref k, .ref w, .int x, .int wy, .int (se + ((nI st) * (if ((nI P) - (if 0 ≤ (x - (nI pl)) then (x - (nI pl)) else -(x - (nI pl)))) < (if 0 ≤ (x - (nI pl)) then (x - (nI pl)) else -(x - (nI pl))) then ((nI P) - (if 0 ≤ (x - (nI pl)) then (x - (nI pl)) else -(x - (nI pl)))) else (if 0 ≤ (x - (nI pl)) then (x - (nI pl)) else -(x - (nI pl)))))), .int to, .int lf, .int ta])) sz H locs := hH
  rw [fx_up_up] at hH
  have hH : fx_H G base s (fx_up f r (oO 4 [.ref k, .ref w, .int x, .int wy, .int (se + ((nI st) * (if ((nI P) - (if 0 ≤ (x - (nI pl)) then (x - (nI pl)) else -(x - (nI pl)))) < (if 0 ≤ (x - (nI pl)) then (x - (nI pl)) else -(x - (nI pl))) then ((nI P) - (if 0 ≤ (x - (nI pl)) then (x - (nI pl)) else -(x - (nI pl)))) else (if 0 ≤ (x - (nI pl)) then (x - (nI pl)) else -(x - (nI pl)))))), .int to, .int lf, .int ta])) sz H locs := hH
  have heq2 : fx_up (fx_up f r (oO 4 [.ref k, .ref w, .int (nI pl), .int wy, .int (se + ((nI st) * (if ((nI P) - (if 0 ≤ (x - (nI pl)) then (x - (nI pl)) else -(x - (nI pl)))) < (if 0 ≤ (x - (nI pl)) then (x - (nI pl)) else -(x - (nI pl))) then ((nI P) - (if 0 ≤ (x - (nI pl)) then (x - (nI pl)) else -(x - (nI pl)))) else (if 0 ≤ (x - (nI pl)) then (x - (nI pl)) else -(x - (nI pl)))))), .int to, .int lf, .int ta])) r (oO 4 [.ref k, .ref w, .int x, .int wy, .int (se + ((nI st) * (if ((nI P) - (if 0 ≤ (x - (nI pl)) then (x - (nI pl)) else -(x - (nI pl)))) < (if 0 ≤ (x - (nI pl)) then (x - (nI pl)) else -(x - (nI pl))) then ((nI P) - (if 0 ≤ (x - (nI pl)) then (x - (nI pl)) else -(x - (nI pl)))) else (if 0 ≤ (x - (nI pl)) then (x - (nI pl)) else -(x - (nI pl)))))), .int to, .int lf, .int ta]) = fx_up f r (oO 4 [.ref k, .ref w, .int x, .int wy, .int (se + ((nI st) * (if ((nI P) - (if 0 ≤ (x - (nI pl)) then (x - (nI pl)) else -(x - (nI pl)))) < (if 0 ≤ (x - (nI pl)) then (x - (nI pl)) else -(x - (nI pl))) then ((nI P) - (if 0 ≤ (x - (nI pl)) then (x - (nI pl)) else -(x - (nI pl)))) else (if 0 ≤ (x - (nI pl)) then (x - (nI pl)) else -(x - (nI pl)))))), .int to, .int lf, .int ta]) := by rw [fx_up_up]
  have h2_w : (fx_up f r (oO 4 [.ref k, .ref w, .int x, .int wy, .int (se + ((nI st) * (if ((nI P) - (if 0 ≤ (x - (nI pl)) then (x - (nI pl)) else -(x - (nI pl)))) < (if 0 ≤ (x - (nI pl)) then (x - (nI pl)) else -(x - (nI pl))) then ((nI P) - (if 0 ≤ (x - (nI pl)) then (x - (nI pl)) else -(x - (nI pl)))) else (if 0 ≤ (x - (nI pl)) then (x - (nI pl)) else -(x - (nI pl)))))), .int to, .int lf, .int ta])) w = some (oO 2 [.ref wt, .ref ch, .ref sk, .int (nI P), .int (nI st), .int ov, .int mi, .int ri, .int tl]) := (congrFun heq2 w).symm.trans ((fx_up_n _ _ (fx_ne h1_w h1_r rfl)).trans h1_w)
  have h2_r : (fx_up f r (oO 4 [.ref k, .ref w, .int x, .int wy, .int (se + ((nI st) * (if ((nI P) - (if 0 ≤ (x - (nI pl)) then (x - (nI pl)) else -(x - (nI pl)))) < (if 0 ≤ (x - (nI pl)) then (x - (nI pl)) else -(x - (nI pl))) then ((nI P) - (if 0 ≤ (x - (nI pl)) then (x - (nI pl)) else -(x - (nI pl)))) else (if 0 ≤ (x - (nI pl)) then (x - (nI pl)) else -(x - (nI pl)))))), .int to, .int lf, .int ta])) r = some (oO 4 [.ref k, .ref w, .int x, .int wy, .int (se + ((nI st) * (if ((nI P) - (if 0 ≤ (x - (nI pl)) then (x - (nI pl)) else -(x - (nI pl)))) < (if 0 ≤ (x - (nI pl)) then (x - (nI pl)) else -(x - (nI pl))) then ((nI P) - (if 0 ≤ (x - (nI pl)) then (x - (nI pl)) else -(x - (nI pl)))) else (if 0 ≤ (x - (nI pl)) then (x - (nI pl)) else -(x - (nI pl)))))), .int to, .int lf, .int ta]) := (congrFun heq2 r).symm.trans (fx_up_s _ _ _)
  exact fx_vret C hr hk hH (by rfl) rfl (Nat.zero_le _) (Nat.zero_le _) dX4_moveTo_45
abbrev rm_X4_secondsTill : Room := { frames := 0, cells := 0, slots := 0, locals := 0 }
set_option maxHeartbeats 4000000 in
set_option maxRecDepth 100000 in
theorem c_X4_secondsTill {G : GG} {base : Nat} {l : Launch} {f : Hp} {sz : Nat} {r : Nat} {t : Nat} {k : Nat} {w : Nat} {pl : Nat} {wy : Int32} {se : Int32} {to : Int32} {lf : Int32} {ta : Int32} {wt : Nat} {ch : Nat} {sk : Nat} {P : Nat} {st : Nat} {ov : Int32} {mi : Int32} {ri : Int32} {tl : Int32} (h_r : f r = some (oO 4 [.ref k, .ref w, .int (nI pl), .int wy, .int se, .int to, .int lf, .int ta])) (h_w : f w = some (oO 2 [.ref wt, .ref ch, .ref sk, .int (nI P), .int (nI st), .int ov, .int mi, .int ri, .int tl])) : fx_M G base l yX4_secondsTill cX4_secondsTill 2 (some .int) rm_X4_secondsTill [.ref r, .int (nI t)] f sz (some (.int (nI (sT st t)))) f sz := by
  refine fx_of (by decide +kernel) (Nat.le_of_ble_eq_true rfl) ?_
  intro p e s m args below meth c C hr hk hnm hH ls hl
  obtain ⟨locs, hlocs⟩ : ∃ L : List Loc, L = [] := ⟨_, rfl⟩
  rw [← hlocs] at hH ⊢
  generalize s.heap = H at hH ⊢
  have hx := C.1
  have hb := C.2.1
  have hl : lv_has ls 2 [(0, .ref r), (1, .int (nI t))] := hl
  refine lv_iconst (v := nI 1) hx hb dX4_secondsTill_0 (by decide) ?_
  refine lv_iload_n hx hb dX4_secondsTill_1 rfl (lv_at hl 1 rfl) ?_
  refine lv_aload_n hx hb dX4_secondsTill_2 rfl (lv_at hl 0 rfl) ?_
  refine fx_get C hH (k := 1) (v := .ref w) h_r ff_X4_23_4 rfl dX4_secondsTill_3 ?_
  refine fx_get C hH (k := 4) (v := .int (nI st)) h_w ff_X4_73_2 rfl dX4_secondsTill_6 ?_
  refine lv_iconst (v := nI 1) hx hb dX4_secondsTill_9 (by decide) ?_
  refine lv_iadd hx hb dX4_secondsTill_10 ?_
  refine fx_ti (y := nI (st + 1)) (nI_add _ _) ?_
  refine lv_imul hx hb dX4_secondsTill_11 ?_
  refine fx_ti (y := nI (t * (st + 1))) (pk_mul _ _) ?_
  refine lv_iadd hx hb dX4_secondsTill_12 ?_
  refine fx_ti (y := nI (1 + (t * (st + 1)))) (nI_add _ _) ?_
  exact fx_iret C hr hk hH rfl rfl rfl (Nat.zero_le _) (Nat.zero_le _) dX4_secondsTill_13
