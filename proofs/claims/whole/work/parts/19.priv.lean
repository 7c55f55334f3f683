abbrev rm_X11_finding : Room := { frames := 0, cells := 0, slots := 0, locals := 0 }
set_option maxHeartbeats 4000000 in
set_option maxRecDepth 100000 in
theorem c_X11_finding {G : GG} {base : Nat} {l : Launch} {f : Hp} {sz : Nat} {x : Nat} {nn : Int32} {ra : Nat} {tp : Nat} {tc : Nat} {ro : Nat} {tr : Nat} {ia : Nat} {aa : Nat} {oa : Int32} {ak : Int32} {fa : Int32} {fi : Int32} (h_x : f x = some (oO 10 [.ref ra, .ref tp, .ref tc, .ref ro, .ref tr, .ref ia, .ref aa, .int oa, .int ak, .int fa, .int fi])) : fx_M G base l yX11_finding cX11_finding 2 (some .int) rm_X11_finding [.ref x, .int nn] f sz (some (.int ((-1000010) - nn))) (fx_up f x (oO 10 [.ref ra, .ref tp, .ref tc, .ref ro, .ref tr, .ref ia, .ref aa, .int oa, .int ak, .int fa, .int nn])) sz := by
  refine fx_of (by decide +kernel) (Nat.le_of_ble_eq_true rfl) ?_
  intro p e s m args below meth c C hr hk hnm hH ls hl
  obtain ⟨locs, hlocs⟩ : ∃ L : List Loc, L = [] := ⟨_, rfl⟩
  rw [← hlocs] at hH ⊢
  generalize s.heap = H at hH ⊢
  have hx := C.1
  have hb := C.2.1
  have hl : lv_has ls 2 [(0, .ref x), (1, .int nn)] := hl
  refine lv_aload_n hx hb dX11_finding_0 rfl (lv_at hl 0 rfl) ?_
  refine lv_iload_n hx hb dX11_finding_1 rfl (lv_at hl 1 rfl) ?_
  refine fx_putT C hH (k := 10) h_x ff_X11_265_10 fL_10 fT_10_10 rfl rfl (Nat.le_of_ble_eq_true rfl) dX11_finding_2 (fun H locs hH => ?_)
  have hH : fx_H G base s (fx_up f x (oO 10 [.ref ra, .ref tp, .ref tc, .ref ro, .ref tr, .ref ia, .ref aa, .int oa, .int ak, .int fa, .int nn])) sz H locs := hH
  have h1_x : (fx_up f x (oO 10 [.ref ra, .ref tp, .ref tc, .ref ro, .ref tr, .ref ia, .ref aa, .int oa, .int ak, .int fa, .int nn])) x = some (oO 10 [.ref ra, .ref tp, .ref tc, .ref ro, .ref tr, .ref ia, .ref aa, .int oa, .int ak, .int fa, .int nn]) := fx_up_s _ _ _
  refine lv_ldcw (v := (-1000010)) hx hb C.2.2.2.1 (C.2.2.2.2.1 _ kI_X11_312 rfl args) dX11_finding_5 ?_
  refine lv_iload_n hx hb dX11_finding_8 rfl (lv_at hl 1 rfl) ?_
  refine lv_isub hx hb dX11_finding_9 ?_
  exact fx_iret C hr hk hH rfl rfl rfl (Nat.zero_le _) (Nat.zero_le _) dX11_finding_10
abbrev rm_X11_unfound : Room := { frames := 0, cells := 0, slots := 0, locals := 0 }
set_option maxHeartbeats 4000000 in
set_option maxRecDepth 100000 in
theorem c_X11_unfound {G : GG} {base : Nat} {l : Launch} {f : Hp} {sz : Nat} {x : Nat} {nn : Int32} {ra : Nat} {tp : Nat} {tc : Nat} {ro : Nat} {tr : Nat} {ia : Nat} {aa : Nat} {oa : Int32} {ak : Int32} {fa : Int32} {fi : Int32} (h_x : f x = some (oO 10 [.ref ra, .ref tp, .ref tc, .ref ro, .ref tr, .ref ia, .ref aa, .int oa, .int ak, .int fa, .int fi])) : fx_M G base l yX11_unfound cX11_unfound 2 (some .int) rm_X11_unfound [.ref x, .int nn] f sz (some (.int nn)) (fx_up f x (oO 10 [.ref ra, .ref tp, .ref tc, .ref ro, .ref tr, .ref ia, .ref aa, .int oa, .int ak, .int fa, .int (nI 0)])) sz := by
  refine fx_of (by decide +kernel) (Nat.le_of_ble_eq_true rfl) ?_
  intro p e s m args below meth c C hr hk hnm hH ls hl
  obtain ⟨locs, hlocs⟩ : ∃ L : List Loc, L = [] := ⟨_, rfl⟩
  rw [← hlocs] at hH ⊢
  generalize s.heap = H at hH ⊢
  have hx := C.1
  have hb := C.2.1
  have hl : lv_has ls 2 [(0, .ref x), (1, .int nn)] := hl
  refine lv_aload_n hx hb dX11_unfound_0 rfl (lv_at hl 0 rfl) ?_
  refine lv_iconst (v := nI 0) hx hb dX11_unfound_1 (by decide) ?_
  refine fx_putT C hH (k := 10) h_x ff_X11_265_10 fL_10 fT_10_10 rfl rfl (Nat.le_of_ble_eq_true rfl) dX11_unfound_2 (fun H locs hH => ?_)
  have hH : fx_H G base s (fx_up f x (oO 10 [.ref ra, .ref tp, .ref tc, .ref ro, .ref tr, .ref ia, .ref aa, .int oa, .int ak, .int fa, .int (nI 0)])) sz H locs := hH
  have h1_x : (fx_up f x (oO 10 [.ref ra, .ref tp, .ref tc, .ref ro, .ref tr, .ref ia, .ref aa, .int oa, .int ak, .int fa, .int (nI 0)])) x = some (oO 10 [.ref ra, .ref tp, .ref tc, .ref ro, .ref tr, .ref ia, .ref aa, .int oa, .int ak, .int fa, .int (nI 0)]) := fx_up_s _ _ _
  refine lv_iload_n hx hb dX11_unfound_5 rfl (lv_at hl 1 rfl) ?_
  exact fx_iret C hr hk hH rfl rfl rfl (Nat.zero_le _) (Nat.zero_le _) dX11_unfound_6
abbrev rm_X11_forgetActs : Room := { frames := 0, cells := 0, slots := 0, locals := 0 }
set_option maxHeartbeats 4000000 in
set_option maxRecDepth 100000 in
theorem c_X11_forgetActs {G : GG} {base : Nat} {l : Launch} {f : Hp} {sz : Nat} {x : Nat} {ra : Nat} {tp : Nat} {tc : Nat} {ro : Nat} {tr : Nat} {ia : Nat} {aa : Nat} {oa : Int32} {ak : Int32} {fa : Int32} {fi : Int32} (h_x : f x = some (oO 10 [.ref ra, .ref tp, .ref tc, .ref ro, .ref tr, .ref ia, .ref aa, .int oa, .int ak, .int fa, .int fi])) : fx_M G base l yX11_forgetActs cX11_forgetActs 1 none rm_X11_forgetActs [.ref x] f sz none (fx_up f x (oO 10 [.ref ra, .ref tp, .ref tc, .ref ro, .ref tr, .ref ia, .ref aa, .int (nI 0), .int (nI 0), .int fa, .int fi])) sz := by
  refine fx_of (by decide +kernel) (Nat.le_of_ble_eq_true rfl) ?_
  intro p e s m args below meth c C hr hk hnm hH ls hl
  obtain ⟨locs, hlocs⟩ : ∃ L : List Loc, L = [] := ⟨_, rfl⟩
  rw [← hlocs] at hH ⊢
  generalize s.heap = H at hH ⊢
  have hx := C.1
  have hb := C.2.1
  have hl : lv_has ls 1 [(0, .ref x)] := hl
  refine lv_aload_n hx hb dX11_forgetActs_0 rfl (lv_at hl 0 rfl) ?_
  refine lv_iconst (v := nI 0) hx hb dX11_forgetActs_1 (by decide) ?_
  refine fx_putT C hH (k := 7) h_x ff_X11_134_10 fL_10 fT_10_7 rfl rfl (Nat.le_of_ble_eq_true rfl) dX11_forgetActs_2 (fun H locs hH => ?_)
  have hH : fx_H G base s (fx_up f x (oO 10 [.ref ra, .ref tp, .ref tc, .ref ro, .ref tr, .ref ia, .ref aa, .int (nI 0), .int ak, .int fa, .int fi])) sz H locs := hH
  have h1_x : (fx_up f x (oO 10 [.ref ra, .ref tp, .ref tc, .ref ro, .ref tr, .ref ia, .ref aa, .int (nI 0), .int ak, .int fa, .int fi])) x = some (oO 10 [.ref ra, .ref tp, .ref tc, .ref ro, .ref tr, .ref ia, .ref aa, .int (nI 0), .int ak, .int fa, .int fi]) := fx_up_s _ _ _
  refine lv_aload_n hx hb dX11_forgetActs_5 rfl (lv_at hl 0 rfl) ?_
  refine lv_iconst (v := nI 0) hx hb dX11_forgetActs_6 (by decide) ?_
  refine fx_putT C hH (k := 8) h1_x ff_X11_130_10 fL_10 fT_10_8 rfl rfl (Nat.le_of_ble_eq_true rfl) dX11_forgetActs_7 (fun H locs hH => ?_)
  have hH : fx_H G base s (fx_up (fx_up f x (oO 10 [.ref ra, .ref tp, .ref tc, .ref ro, .ref tr, .ref ia, .ref aa, .int (nI 0), .int ak, .int fa, .int fi])) x (oO 10 [.ref ra, .ref tp, .ref tc, .ref ro, .ref tr, .ref ia, .ref aa, .int (nI 0), .int (nI 0), .int fa, .int fi])) sz H locs := hH
  rw [fx_up_up] at hH
  have hH : fx_H G base s (fx_up f x (oO 10 [.ref ra, .ref tp, .ref tc, .ref ro, .ref tr, .ref ia, .ref aa, .int (nI 0), .int (nI 0), .int fa, .int fi])) sz H locs := hH
  have heq2 : fx_up (fx_up f x (oO 10 [.ref ra, .ref tp, .ref tc, .ref ro, .ref tr, .ref ia, .ref aa, .int (nI 0), .int ak, .int fa, .int fi])) x (oO 10 [.ref ra, .ref tp, .ref tc, .ref ro, .ref tr, .ref ia, .ref aa, .int (nI 0), .int (nI 0), .int fa, .int fi]) = fx_up f x (oO 10 [.ref ra, .ref tp, .ref tc, .ref ro, .ref tr, .ref ia, .ref aa, .int (nI 0), .int (nI 0), .int fa, .int fi]) := by rw [fx_up_up]
  have h2_x : (fx_up f x (oO 10 [.ref ra, .ref tp, .ref tc, .ref ro, .ref tr, .ref ia, .ref aa, .int (nI 0), .int (nI 0), .int fa, .int fi])) x = some (oO 10 [.ref ra, .ref tp, .ref tc, .ref ro, .ref tr, .ref ia, .ref aa, .int (nI 0), .int (nI 0), .int fa, .int fi]) := (congrFun heq2 x).symm.trans (fx_up_s _ _ _)
  exact fx_vret C hr hk hH rfl rfl (Nat.zero_le _) (Nat.zero_le _) dX11_forgetActs_10
abbrev rm_X11_noRoll : Room := { frames := 0, cells := 0, slots := 0, locals := 0 }
set_option maxHeartbeats 4000000 in
set_option maxRecDepth 100000 in
theorem c_X11_noRoll {G : GG} {base : Nat} {l : Launch} {f : Hp} {sz : Nat} {x : Nat} {ra : Nat} {tp : Nat} {tc : Nat} {ro : Nat} {tr : Nat} {ia : Nat} {aa : Nat} {oa : Int32} {ak : Int32} {fa : Int32} {fi : Int32} {k : Nat} {w : Nat} {pl : Int32} {wy : Int32} {se : Int32} {to : Int32} {lf : Int32} {ta : Int32} {wt : Nat} {ch : Nat} {sk : Nat} {P : Nat} {st : Int32} {ov : Int32} {mi : Int32} {ri : Int32} {tl : Nat} (h_x : f x = some (oO 10 [.ref ra, .ref tp, .ref tc, .ref ro, .ref tr, .ref ia, .ref aa, .int oa, .int ak, .int fa, .int fi])) (h_ro : f ro = some (oO 4 [.ref k, .ref w, .int pl, .int wy, .int se, .int to, .int lf, .int ta])) (h_w : f w = some (oO 2 [.ref wt, .ref ch, .ref sk, .int (nI P), .int st, .int ov, .int mi, .int ri, .int (nI tl)])) (hP : P ≤ 12) : fx_M G base l yX11_noRoll cX11_noRoll 1 (some .boolean) rm_X11_noRoll [.ref x] f sz (some (.int (bI (P = 0)))) f sz := by
  refine fx_of (by decide +kernel) (Nat.le_of_ble_eq_true rfl) ?_
  intro p e s m args below meth c C hr hk hnm hH ls hl
  obtain ⟨locs, hlocs⟩ : ∃ L : List Loc, L = [] := ⟨_, rfl⟩
  rw [← hlocs] at hH ⊢
  generalize s.heap = H at hH ⊢
  have hx := C.1
  have hb := C.2.1
  have hl : lv_has ls 1 [(0, .ref x)] := hl
  refine lv_aload_n hx hb dX11_noRoll_0 rfl (lv_at hl 0 rfl) ?_
  refine fx_get C hH (k := 3) (v := .ref ro) h_x ff_X11_44_10 rfl dX11_noRoll_1 ?_
  refine fx_get C hH (k := 1) (v := .ref w) h_ro ff_X11_197_4 rfl dX11_noRoll_4 ?_
  refine fx_get C hH (k := 3) (v := .int (nI P)) h_w ff_X11_127_2 rfl dX11_noRoll_7 ?_
  refine fx_O_ne (a := P) hx hb (by omega) (tgt := 17) dX11_noRoll_10 (by decide) (fun c10 => ?_) (fun c10 => ?_)
  · refine lv_iconst (v := nI 0) hx hb dX11_noRoll_17 (by decide) ?_
    exact fx_zret C hr hk hH (by decide) (by first | rfl | (simp [bI, *]; done) | ((repeat (first | rw [if_pos (by assumption)] | rw [if_neg (by assumption)])); done) | (unfold bI; grind)) rfl rfl (Nat.zero_le _) (Nat.zero_le _) dX11_noRoll_18
  · refine lv_iconst (v := nI 1) hx hb dX11_noRoll_13 (by decide) ?_
    refine lv_goto (tgt := 18) hx hb dX11_noRoll_14 (by decide) ?_
    exact fx_zret C hr hk hH (by decide) (by first | rfl | (simp [bI, *]; done) | ((repeat (first | rw [if_pos (by assumption)] | rw [if_neg (by assumption)])); done) | (unfold bI; grind)) rfl rfl (Nat.zero_le _) (Nat.zero_le _) dX11_noRoll_18
abbrev rm_X11_isPlace : Room := { frames := 1, cells := 0, slots := 0, locals := 22 }
set_option maxHeartbeats 4000000 in
set_option maxRecDepth 100000 in
theorem c_X11_isPlace {G : GG} {base : Nat} {l : Launch} {f : Hp} {sz : Nat} {x : Nat} {pp : Int32} {ra : Nat} {tp : Nat} {tc : Nat} {ro : Nat} {tr : Nat} {ia : Nat} {aa : Nat} {oa : Int32} {ak : Int32} {fa : Int32} {fi : Int32} {k : Nat} {w : Nat} {pl : Int32} {wy : Int32} {se : Int32} {to : Int32} {lf : Int32} {ta : Int32} {wt : Nat} {ch : Nat} {sk : Nat} {P : Nat} {st : Int32} {ov : Int32} {mi : Int32} {ri : Int32} {tl : Nat} (h_x : f x = some (oO 10 [.ref ra, .ref tp, .ref tc, .ref ro, .ref tr, .ref ia, .ref aa, .int oa, .int ak, .int fa, .int fi])) (h_ro : f ro = some (oO 4 [.ref k, .ref w, .int pl, .int wy, .int se, .int to, .int lf, .int ta])) (h_w : f w = some (oO 2 [.ref wt, .ref ch, .ref sk, .int (nI P), .int st, .int ov, .int mi, .int ri, .int (nI tl)])) : fx_M G base l yX11_isPlace cX11_isPlace 2 (some .boolean) rm_X11_isPlace [.ref x, .int pp] f sz (some (.int (bI (¬ pp < nI 0 ∧ ¬ (nI P - nI 1) < pp)))) f sz := by
  refine fx_of (by decide +kernel) (Nat.le_of_ble_eq_true rfl) ?_
  intro p e s m args below meth c C hr hk hnm hH ls hl
  obtain ⟨locs, hlocs⟩ : ∃ L : List Loc, L = [] := ⟨_, rfl⟩
  rw [← hlocs] at hH ⊢
  generalize s.heap = H at hH ⊢
  have hx := C.1
  have hb := C.2.1
  have hl : lv_has ls 2 [(0, .ref x), (1, .int pp)] := hl
  refine lv_iload_n hx hb dX11_isPlace_0 rfl (lv_at hl 1 rfl) ?_
  refine lv_iconst (v := nI 0) hx hb dX11_isPlace_1 (by decide) ?_
  refine lv_aload_n hx hb dX11_isPlace_2 rfl (lv_at hl 0 rfl) ?_
  refine fx_get C hH (k := 3) (v := .ref ro) h_x ff_X11_44_10 rfl dX11_isPlace_3 ?_
  refine fx_get C hH (k := 1) (v := .ref w) h_ro ff_X11_197_4 rfl dX11_isPlace_6 ?_
  refine fx_get C hH (k := 3) (v := .int (nI P)) h_w ff_X11_127_2 rfl dX11_isPlace_9 ?_
  refine lv_iconst (v := nI 1) hx hb dX11_isPlace_12 (by decide) ?_
  refine lv_isub hx hb dX11_isPlace_13 ?_
  refine fx_go1 hH (fx_runS C hH hl.1 (As := [.int pp, .int (nI 0), .int ((nI P) - (nI 1))]) (rest := []) (c_X11_within (G := G) (base := base) (l := l) (f := f) (sz := sz) (n := pp) (lo := nI 0) (hi := (nI P) - (nI 1)) ) mY_X11_within ml_X11_56 st_X11_within rfl ⟨(Nat.le_of_ble_eq_true rfl), (Nat.le_of_ble_eq_true rfl)⟩ rfl (Nat.le_of_ble_eq_true rfl) ⟨(Nat.le_of_ble_eq_true rfl), (Nat.le_of_ble_eq_true rfl)⟩ dX11_isPlace_14) (fun H locs hH => ?_)
  exact fx_zret C hr hk hH (bI_n _) (by first | rfl | (simp [bI, *]; done) | ((repeat (first | rw [if_pos (by assumption)] | rw [if_neg (by assumption)])); done) | (unfold bI; grind)) rfl rfl (Nat.zero_le _) (Nat.zero_le _) dX11_isPlace_17
abbrev rm_X11_isPlaceOrNone : Room := { frames := 1, cells := 0, slots := 0, locals := 22 }
set_option maxHeartbeats 4000000 in
set_option maxRecDepth 100000 in
theorem c_X11_isPlaceOrNone {G : GG} {base : Nat} {l : Launch} {f : Hp} {sz : Nat} {x : Nat} {pp : Int32} {ra : Nat} {tp : Nat} {tc : Nat} {ro : Nat} {tr : Nat} {ia : Nat} {aa : Nat} {oa : Int32} {ak : Int32} {fa : Int32} {fi : Int32} {k : Nat} {w : Nat} {pl : Int32} {wy : Int32} {se : Int32} {to : Int32} {lf : Int32} {ta : Int32} {wt : Nat} {ch : Nat} {sk : Nat} {P : Nat} {st : Int32} {ov : Int32} {mi : Int32} {ri : Int32} {tl : Nat} (h_x : f x = some (oO 10 [.ref ra, .ref tp, .ref tc, .ref ro, .ref tr, .ref ia, .ref aa, .int oa, .int ak, .int fa, .int fi])) (h_ro : f ro = some (oO 4 [.ref k, .ref w, .int pl, .int wy, .int se, .int to, .int lf, .int ta])) (h_w : f w = some (oO 2 [.ref wt, .ref ch, .ref sk, .int (nI P), .int st, .int ov, .int mi, .int ri, .int (nI tl)])) (hP : P ≤ 12) : fx_M G base l yX11_isPlaceOrNone cX11_isPlaceOrNone 2 (some .boolean) rm_X11_isPlaceOrNone [.ref x, .int pp] f sz (some (.int (bI (¬ P = 0 ∧ (¬ pp < nI 0 ∧ ¬ nI P < pp))))) f sz := by
  refine fx_of (by decide +kernel) (Nat.le_of_ble_eq_true rfl) ?_
  intro p e s m args below meth c C hr hk hnm hH ls hl
  obtain ⟨locs, hlocs⟩ : ∃ L : List Loc, L = [] := ⟨_, rfl⟩
  rw [← hlocs] at hH ⊢
  generalize s.heap = H at hH ⊢
  have hx := C.1
  have hb := C.2.1
  have hl : lv_has ls 2 [(0, .ref x), (1, .int pp)] := hl
  refine lv_aload_n hx hb dX11_isPlaceOrNone_0 rfl (lv_at hl 0 rfl) ?_
  refine fx_go1 hH (fx_runV C hH hl.1 (As := []) (rest := []) (c_X11_noRoll (G := G) (base := base) (l := l) (f := f) (sz := sz) (x := x) (ra := ra) (tp := tp) (tc := tc) (ro := ro) (tr := tr) (ia := ia) (aa := aa) (oa := oa) (ak := ak) (fa := fa) (fi := fi) (k := k) (w := w) (pl := pl) (wy := wy) (se := se) (to := to) (lf := lf) (ta := ta) (wt := wt) (ch := ch) (sk := sk) (P := P) (st := st) (ov := ov) (mi := mi) (ri := ri) (tl := tl) h_x h_ro h_w (by omega)) mY_X11_noRoll ml_X11_159 im_X11_noRoll se_X11_X11_noRoll h_x rfl rfl ⟨(Nat.le_of_ble_eq_true rfl), (Nat.le_of_ble_eq_true rfl)⟩ rfl (Nat.le_of_ble_eq_true rfl) ⟨(Nat.le_of_ble_eq_true rfl), (Nat.le_of_ble_eq_true rfl)⟩ dX11_isPlaceOrNone_1) (fun H locs hH => ?_)
  refine fx_b_ne hx hb (tgt := 29) dX11_isPlaceOrNone_4 (by decide) (fun c4 => ?_) (fun c4 => ?_)
  · refine lv_iconst (v := nI 0) hx hb dX11_isPlaceOrNone_29 (by decide) ?_
    exact fx_zret C hr hk hH (by decide) (by first | rfl | (simp [bI, *]; done) | ((repeat (first | rw [if_pos (by assumption)] | rw [if_neg (by assumption)])); done) | (unfold bI; grind)) rfl rfl (Nat.zero_le _) (Nat.zero_le _) dX11_isPlaceOrNone_30
  · refine lv_iload_n hx hb dX11_isPlaceOrNone_7 rfl (lv_at hl 1 rfl) ?_
    refine lv_iconst (v := nI 0) hx hb dX11_isPlaceOrNone_8 (by decide) ?_
    refine lv_aload_n hx hb dX11_isPlaceOrNone_9 rfl (lv_at hl 0 rfl) ?_
    refine fx_get C hH (k := 3) (v := .ref ro) h_x ff_X11_44_10 rfl dX11_isPlaceOrNone_10 ?_
    refine fx_get C hH (k := 1) (v := .ref w) h_ro ff_X11_197_4 rfl dX11_isPlaceOrNone_13 ?_
    refine fx_get C hH (k := 3) (v := .int (nI P)) h_w ff_X11_127_2 rfl dX11_isPlaceOrNone_16 ?_
    refine fx_go1 hH (fx_runS C hH hl.1 (As := [.int pp, .int (nI 0), .int (nI P)]) (rest := []) (c_X11_within (G := G) (base := base) (l := l) (f := f) (sz := sz) (n := pp) (lo := nI 0) (hi := nI P) ) mY_X11_within ml_X11_56 st_X11_within rfl ⟨(Nat.le_of_ble_eq_true rfl), (Nat.le_of_ble_eq_true rfl)⟩ rfl (Nat.le_of_ble_eq_true rfl) ⟨(Nat.le_of_ble_eq_true rfl), (Nat.le_of_ble_eq_true rfl)⟩ dX11_isPlaceOrNone_19) (fun H locs hH => ?_)
    refine fx_b_eq hx hb (tgt := 29) dX11_isPlaceOrNone_22 (by decide) (fun c22 => ?_) (fun c22 => ?_)
    · refine lv_iconst (v := nI 0) hx hb dX11_isPlaceOrNone_29 (by decide) ?_
      exact fx_zret C hr hk hH (by decide) (by first | rfl | (simp [bI, *]; done) | ((repeat (first | rw [if_pos (by assumption)] | rw [if_neg (by assumption)])); done) | (unfold bI; grind)) rfl rfl (Nat.zero_le _) (Nat.zero_le _) dX11_isPlaceOrNone_30
    · refine lv_iconst (v := nI 1) hx hb dX11_isPlaceOrNone_25 (by decide) ?_
      refine lv_goto (tgt := 30) hx hb dX11_isPlaceOrNone_26 (by decide) ?_
      exact fx_zret C hr hk hH (by decide) (by first | rfl | (simp [bI, *]; done) | ((repeat (first | rw [if_pos (by assumption)] | rw [if_neg (by assumption)])); done) | (unfold bI; grind)) rfl rfl (Nat.zero_le _) (Nat.zero_le _) dX11_isPlaceOrNone_30
abbrev rm_X11_rowAt : Room := { frames := 1, cells := 0, slots := 0, locals := 22 }
set_option maxHeartbeats 4000000 in
set_option maxRecDepth 100000 in
theorem c_X11_rowAt_n {G : GG} {base : Nat} {l : Launch} {f : Hp} {sz : Nat} {x : Nat} {r : Int32} {ra : Nat} {tp : Nat} {tc : Nat} {ro : Nat} {tr : Nat} {ia : Nat} {aa : Nat} {oa : Int32} {ak : Int32} {fa : Int32} {fi : Int32} (h_x : f x = some (oO 10 [.ref ra, .ref tp, .ref tc, .ref ro, .ref tr, .ref ia, .ref aa, .int oa, .int ak, .int fa, .int fi])) (hr0 : ¬ (¬ r < nI 0 ∧ ¬ nI 7 < r)) : fx_M G base l yX11_rowAt cX11_rowAt 2 (some (.object "TapeEnd$Row")) rm_X11_rowAt [.ref x, .int r] f sz (some (.null)) f sz := by
  refine fx_of (by decide +kernel) (Nat.le_of_ble_eq_true rfl) ?_
  intro p e s m args below meth c C hr hk hnm hH ls hl
  obtain ⟨locs, hlocs⟩ : ∃ L : List Loc, L = [] := ⟨_, rfl⟩
  rw [← hlocs] at hH ⊢
  generalize s.heap = H at hH ⊢
  have hx := C.1
  have hb := C.2.1
  have hl : lv_has ls 2 [(0, .ref x), (1, .int r)] := hl
  refine lv_iload_n hx hb dX11_rowAt_0 rfl (lv_at hl 1 rfl) ?_
  refine lv_iconst (v := nI 0) hx hb dX11_rowAt_1 (by decide) ?_
  refine lv_bipush (v := nI 7) hx hb dX11_rowAt_2 (by decide) ?_
  refine fx_go1 hH (fx_runS C hH hl.1 (As := [.int r, .int (nI 0), .int (nI 7)]) (rest := []) (c_X11_within (G := G) (base := base) (l := l) (f := f) (sz := sz) (n := r) (lo := nI 0) (hi := nI 7) ) mY_X11_within ml_X11_56 st_X11_within rfl ⟨(Nat.le_of_ble_eq_true rfl), (Nat.le_of_ble_eq_true rfl)⟩ rfl (Nat.le_of_ble_eq_true rfl) ⟨(Nat.le_of_ble_eq_true rfl), (Nat.le_of_ble_eq_true rfl)⟩ dX11_rowAt_4) (fun H locs hH => ?_)
  refine fx_b_eq hx hb (tgt := 19) dX11_rowAt_7 (by decide) (fun c7 => ?_) (fun c7 => absurd c7 (hr0))
  refine lv_null hx hb dX11_rowAt_19 ?_
  exact fx_aret C (x := none) hr hk hH rfl rfl rfl rfl (Nat.zero_le _) (Nat.zero_le _) dX11_rowAt_20
set_option maxHeartbeats 4000000 in
set_option maxRecDepth 100000 in
theorem c_X11_rowAt_k {G : GG} {base : Nat} {l : Launch} {f : Hp} {sz : Nat} {rr : Nat} {x : Nat} {kk : Nat} {ra : Nat} {tp : Nat} {tc : Nat} {ro : Nat} {tr : Nat} {ia : Nat} {aa : Nat} {oa : Int32} {ak : Int32} {fa : Int32} {fi : Int32} {gr : Nat → Option Nat} (h_x : f x = some (oO 10 [.ref ra, .ref tp, .ref tc, .ref ro, .ref tr, .ref ia, .ref aa, .int oa, .int ak, .int fa, .int fi])) (h_ra : f ra = some (oR 4 8 gr)) (hkk : kk < 8) (hg : gr kk = some rr) : fx_M G base l yX11_rowAt cX11_rowAt 2 (some (.object "TapeEnd$Row")) rm_X11_rowAt [.ref x, .int (nI kk)] f sz (some (.ref rr)) f sz := by
  refine fx_of (by decide +kernel) (Nat.le_of_ble_eq_true rfl) ?_
  intro p e s m args below meth c C hr hk hnm hH ls hl
  obtain ⟨locs, hlocs⟩ : ∃ L : List Loc, L = [] := ⟨_, rfl⟩
  rw [← hlocs] at hH ⊢
  generalize s.heap = H at hH ⊢
  have hx := C.1
  have hb := C.2.1
  have hl : lv_has ls 2 [(0, .ref x), (1, .int (nI kk))] := hl
  refine lv_iload_n hx hb dX11_rowAt_0 rfl (lv_at hl 1 rfl) ?_
  refine lv_iconst (v := nI 0) hx hb dX11_rowAt_1 (by decide) ?_
  refine lv_bipush (v := nI 7) hx hb dX11_rowAt_2 (by decide) ?_
  refine fx_go1 hH (fx_runS C hH hl.1 (As := [.int (nI kk), .int (nI 0), .int (nI 7)]) (rest := []) (c_X11_within (G := G) (base := base) (l := l) (f := f) (sz := sz) (n := nI kk) (lo := nI 0) (hi := nI 7) ) mY_X11_within ml_X11_56 st_X11_within rfl ⟨(Nat.le_of_ble_eq_true rfl), (Nat.le_of_ble_eq_true rfl)⟩ rfl (Nat.le_of_ble_eq_true rfl) ⟨(Nat.le_of_ble_eq_true rfl), (Nat.le_of_ble_eq_true rfl)⟩ dX11_rowAt_4) (fun H locs hH => ?_)
  refine fx_b_eq hx hb (tgt := 19) dX11_rowAt_7 (by decide) (fun c7 => absurd c7 (fun z => z ⟨nI_nlt (by omega) (by omega), nI_nlt (by omega) (by omega)⟩)) (fun c7 => ?_)
  refine lv_aload_n hx hb dX11_rowAt_10 rfl (lv_at hl 0 rfl) ?_
  refine fx_get C hH (k := 0) (v := .ref ra) h_x ff_X11_11_10 rfl dX11_rowAt_11 ?_
  refine lv_iload_n hx hb dX11_rowAt_14 rfl (lv_at hl 1 rfl) ?_
  refine fx_aaldN C hH (v := .ref rr) (t := 4) rfl h_ra (by omega) (by omega) (by rw [hg]; rfl) dX11_rowAt_15 ?_
  refine lv_goto (tgt := 20) hx hb dX11_rowAt_16 (by decide) ?_
  exact fx_aret C (x := some rr) hr hk hH rfl rfl rfl rfl (Nat.zero_le _) (Nat.zero_le _) dX11_rowAt_20
abbrev rm_X11_seekerAt : Room := { frames := 1, cells := 0, slots := 0, locals := 22 }
set_option maxHeartbeats 4000000 in
set_option maxRecDepth 100000 in
theorem c_X11_seekerAt_n {G : GG} {base : Nat} {l : Launch} {f : Hp} {sz : Nat} {x : Nat} {sx : Int32} {ra : Nat} {tp : Nat} {tc : Nat} {ro : Nat} {tr : Nat} {ia : Nat} {aa : Nat} {oa : Int32} {ak : Int32} {fa : Int32} {fi : Int32} {k : Nat} {w : Nat} {pl : Int32} {wy : Int32} {se : Int32} {to : Int32} {lf : Int32} {ta : Int32} {wt : Nat} {ch : Nat} {sk : Nat} {P : Nat} {st : Int32} {ov : Int32} {mi : Int32} {ri : Int32} {tl : Nat} (h_x : f x = some (oO 10 [.ref ra, .ref tp, .ref tc, .ref ro, .ref tr, .ref ia, .ref aa, .int oa, .int ak, .int fa, .int fi])) (h_ro : f ro = some (oO 4 [.ref k, .ref w, .int pl, .int wy, .int se, .int to, .int lf, .int ta])) (h_w : f w = some (oO 2 [.ref wt, .ref ch, .ref sk, .int (nI P), .int st, .int ov, .int mi, .int ri, .int (nI tl)])) (hs0 : ¬ (¬ sx < nI 0 ∧ ¬ (nI tl - nI 1) < sx)) : fx_M G base l yX11_seekerAt cX11_seekerAt 2 (some (.object "TapeEnd$Seeker")) rm_X11_seekerAt [.ref x, .int sx] f sz (some (.null)) f sz := by
  refine fx_of (by decide +kernel) (Nat.le_of_ble_eq_true rfl) ?_
  intro p e s m args below meth c C hr hk hnm hH ls hl
  obtain ⟨locs, hlocs⟩ : ∃ L : List Loc, L = [] := ⟨_, rfl⟩
  rw [← hlocs] at hH ⊢
  generalize s.heap = H at hH ⊢
  have hx := C.1
  have hb := C.2.1
  have hl : lv_has ls 2 [(0, .ref x), (1, .int sx)] := hl
  refine lv_iload_n hx hb dX11_seekerAt_0 rfl (lv_at hl 1 rfl) ?_
  refine lv_iconst (v := nI 0) hx hb dX11_seekerAt_1 (by decide) ?_
  refine lv_aload_n hx hb dX11_seekerAt_2 rfl (lv_at hl 0 rfl) ?_
  refine fx_get C hH (k := 3) (v := .ref ro) h_x ff_X11_44_10 rfl dX11_seekerAt_3 ?_
  refine fx_get C hH (k := 1) (v := .ref w) h_ro ff_X11_197_4 rfl dX11_seekerAt_6 ?_
  refine fx_get C hH (k := 8) (v := .int (nI tl)) h_w ff_X11_258_2 rfl dX11_seekerAt_9 ?_
  refine lv_iconst (v := nI 1) hx hb dX11_seekerAt_12 (by decide) ?_
  refine lv_isub hx hb dX11_seekerAt_13 ?_
  refine fx_go1 hH (fx_runS C hH hl.1 (As := [.int sx, .int (nI 0), .int ((nI tl) - (nI 1))]) (rest := []) (c_X11_within (G := G) (base := base) (l := l) (f := f) (sz := sz) (n := sx) (lo := nI 0) (hi := (nI tl) - (nI 1)) ) mY_X11_within ml_X11_56 st_X11_within rfl ⟨(Nat.le_of_ble_eq_true rfl), (Nat.le_of_ble_eq_true rfl)⟩ rfl (Nat.le_of_ble_eq_true rfl) ⟨(Nat.le_of_ble_eq_true rfl), (Nat.le_of_ble_eq_true rfl)⟩ dX11_seekerAt_14) (fun H locs hH => ?_)
  refine fx_b_eq hx hb (tgt := 35) dX11_seekerAt_17 (by decide) (fun c17 => ?_) (fun c17 => absurd c17 (hs0))
  refine lv_null hx hb dX11_seekerAt_35 ?_
  exact fx_aret C (x := none) hr hk hH rfl rfl rfl rfl (Nat.zero_le _) (Nat.zero_le _) dX11_seekerAt_36
set_option maxHeartbeats 4000000 in
set_option maxRecDepth 100000 in
theorem c_X11_seekerAt_k {G : GG} {base : Nat} {l : Launch} {f : Hp} {sz : Nat} {o : Nat} {x : Nat} {j : Nat} {ra : Nat} {tp : Nat} {tc : Nat} {ro : Nat} {tr : Nat} {ia : Nat} {aa : Nat} {oa : Int32} {ak : Int32} {fa : Int32} {fi : Int32} {k : Nat} {w : Nat} {pl : Int32} {wy : Int32} {se : Int32} {to : Int32} {lf : Int32} {ta : Int32} {wt : Nat} {ch : Nat} {sk : Nat} {P : Nat} {st : Int32} {ov : Int32} {mi : Int32} {ri : Int32} {tl : Nat} {gs : Nat → Option Nat} (h_x : f x = some (oO 10 [.ref ra, .ref tp, .ref tc, .ref ro, .ref tr, .ref ia, .ref aa, .int oa, .int ak, .int fa, .int fi])) (h_ro : f ro = some (oO 4 [.ref k, .ref w, .int pl, .int wy, .int se, .int to, .int lf, .int ta])) (h_w : f w = some (oO 2 [.ref wt, .ref ch, .ref sk, .int (nI P), .int st, .int ov, .int mi, .int ri, .int (nI tl)])) (h_sk : f sk = some (oR 5 4 gs)) (hj : j < tl) (htl : tl ≤ 4) (hg : gs j = some o) : fx_M G base l yX11_seekerAt cX11_seekerAt 2 (some (.object "TapeEnd$Seeker")) rm_X11_seekerAt [.ref x, .int (nI j)] f sz (some (.ref o)) f sz := by
  refine fx_of (by decide +kernel) (Nat.le_of_ble_eq_true rfl) ?_
  intro p e s m args below meth c C hr hk hnm hH ls hl
  obtain ⟨locs, hlocs⟩ : ∃ L : List Loc, L = [] := ⟨_, rfl⟩
  rw [← hlocs] at hH ⊢
  generalize s.heap = H at hH ⊢
  have hx := C.1
  have hb := C.2.1
  have hl : lv_has ls 2 [(0, .ref x), (1, .int (nI j))] := hl
  refine lv_iload_n hx hb dX11_seekerAt_0 rfl (lv_at hl 1 rfl) ?_
  refine lv_iconst (v := nI 0) hx hb dX11_seekerAt_1 (by decide) ?_
  refine lv_aload_n hx hb dX11_seekerAt_2 rfl (lv_at hl 0 rfl) ?_
  refine fx_get C hH (k := 3) (v := .ref ro) h_x ff_X11_44_10 rfl dX11_seekerAt_3 ?_
  refine fx_get C hH (k := 1) (v := .ref w) h_ro ff_X11_197_4 rfl dX11_seekerAt_6 ?_
  refine fx_get C hH (k := 8) (v := .int (nI tl)) h_w ff_X11_258_2 rfl dX11_seekerAt_9 ?_
  refine lv_iconst (v := nI 1) hx hb dX11_seekerAt_12 (by decide) ?_
  refine lv_isub hx hb dX11_seekerAt_13 ?_
  refine fx_ti (y := nI (tl - 1)) (pk_sub (by omega)) ?_
  refine fx_go1 hH (fx_runS C hH hl.1 (As := [.int (nI j), .int (nI 0), .int (nI (tl - 1))]) (rest := []) (c_X11_within (G := G) (base := base) (l := l) (f := f) (sz := sz) (n := nI j) (lo := nI 0) (hi := nI (tl - 1)) ) mY_X11_within ml_X11_56 st_X11_within rfl ⟨(Nat.le_of_ble_eq_true rfl), (Nat.le_of_ble_eq_true rfl)⟩ rfl (Nat.le_of_ble_eq_true rfl) ⟨(Nat.le_of_ble_eq_true rfl), (Nat.le_of_ble_eq_true rfl)⟩ dX11_seekerAt_14) (fun H locs hH => ?_)
  refine fx_b_eq hx hb (tgt := 35) dX11_seekerAt_17 (by decide) (fun c17 => absurd c17 (fun z => z ⟨nI_nlt (by omega) (by omega), nI_nlt (by omega) (by omega)⟩)) (fun c17 => ?_)
  refine lv_aload_n hx hb dX11_seekerAt_20 rfl (lv_at hl 0 rfl) ?_
  refine fx_get C hH (k := 3) (v := .ref ro) h_x ff_X11_44_10 rfl dX11_seekerAt_21 ?_
  refine fx_get C hH (k := 1) (v := .ref w) h_ro ff_X11_197_4 rfl dX11_seekerAt_24 ?_
  refine fx_get C hH (k := 2) (v := .ref sk) h_w ff_X11_313_2 rfl dX11_seekerAt_27 ?_
  refine lv_iload_n hx hb dX11_seekerAt_30 rfl (lv_at hl 1 rfl) ?_
  refine fx_aaldN C hH (v := .ref o) (t := 5) rfl h_sk (by omega) (by omega) (by rw [hg]; rfl) dX11_seekerAt_31 ?_
  refine lv_goto (tgt := 36) hx hb dX11_seekerAt_32 (by decide) ?_
  exact fx_aret C (x := some o) hr hk hH rfl rfl rfl rfl (Nat.zero_le _) (Nat.zero_le _) dX11_seekerAt_36
abbrev rm_X11_lowest : Room := { frames := 1, cells := 0, slots := 0, locals := 26 }
set_option maxHeartbeats 4000000 in
set_option maxRecDepth 100000 in
theorem c_X11_lowest {G : GG} {base : Nat} {l : Launch} {f : Hp} {sz : Nat} {aa_ : Nat} {bb : Nat} {wh : Nat} (ha : aa_ < 2 ^ 63) (hb0 : bb < 2 ^ 63) (hw : wh ≤ 1) (hg : 0 < gl 100 aa_ bb) (hg2 : gl 100 aa_ bb < 2 ^ 63) : fx_M G base l yX11_lowest cX11_lowest 7 (some .long) rm_X11_lowest [.long (lN aa_), .long (lN bb), .int (nI wh)] f sz (some (.long (lN ((if wh = 0 then aa_ else bb) / gl 100 aa_ bb)))) f sz := by
  refine fx_of (by decide +kernel) (Nat.le_of_ble_eq_true rfl) ?_
  intro p e s m args below meth c C hr hk hnm hH ls hl
  obtain ⟨locs, hlocs⟩ : ∃ L : List Loc, L = [] := ⟨_, rfl⟩
  rw [← hlocs] at hH ⊢
  generalize s.heap = H at hH ⊢
  have hx := C.1
  have hb := C.2.1
  have hl : lv_has ls 7 [(0, .long (lN aa_)), (2, .long (lN bb)), (4, .int (nI wh))] := hl
  refine lv_lload_n hx hb dX11_lowest_0 rfl (lv_at hl 0 rfl) ?_
  refine lv_lload_n hx hb dX11_lowest_1 rfl (lv_at hl 1 rfl) ?_
  refine fx_go1 hH (fx_runS C hH hl.1 (As := [.long (lN aa_), .long (lN bb)]) (rest := []) (c_X11_greatestDivisor (G := G) (base := base) (l := l) (f := f) (sz := sz) (a := aa_) (b := bb) (by omega) (by omega)) mY_X11_greatestDivisor ml_X11_335 st_X11_greatestDivisor rfl ⟨(Nat.le_of_ble_eq_true rfl), (Nat.le_of_ble_eq_true rfl)⟩ rfl (Nat.le_of_ble_eq_true rfl) ⟨(Nat.le_of_ble_eq_true rfl), (Nat.le_of_ble_eq_true rfl)⟩ dX11_lowest_2) (fun H locs hH => ?_)
  refine lv_lstore (lv' := [(5, .long (lN (gl 100 aa_ bb))), (0, .long (lN aa_)), (2, .long (lN bb)), (4, .int (nI wh))]) hx hb dX11_lowest_5 hl (by decide) rfl (fun ls hl => ?_)
  refine lv_lload hx hb dX11_lowest_7 (lv_at hl 0 rfl) ?_
  refine lv_lconst (v := lN 0) hx hb dX11_lowest_9 (by decide) ?_
  refine W.lcmp hx hb dX11_lowest_10 ?_
  refine fx_JN_ne (a := gl 100 aa_ bb) (b := 0) hx hb (by omega) (by omega) (tgt := 18) dX11_lowest_11 (by decide) (fun c11 => ?_) (fun c11 => absurd c11 (by omega))
  refine lv_iload hx hb dX11_lowest_18 (lv_at hl 3 rfl) ?_
  refine fx_O_ne (a := wh) hx hb (by omega) (tgt := 27) dX11_lowest_20 (by decide) (fun c20 => ?_) (fun c20 => ?_)
  · refine lv_lload_n hx hb dX11_lowest_27 rfl (lv_at hl 2 rfl) ?_
    refine lv_lload hx hb dX11_lowest_28 (lv_at hl 0 rfl) ?_
    refine lv_ldiv hx hb dX11_lowest_30 (fun q => absurd ((pk_lEQ (b := 0) (by omega) (by omega)).mp q) (by omega)) ?_
    refine fx_tl (y := lN (bb / (gl 100 aa_ bb))) (pk_lDiv (by omega) (by omega) (by omega)) ?_
    exact fx_lret C hr hk hH (by rw [if_neg c20]) rfl rfl (Nat.zero_le _) (Nat.zero_le _) dX11_lowest_31
  · refine lv_lload_n hx hb dX11_lowest_23 rfl (lv_at hl 1 rfl) ?_
    refine lv_goto (tgt := 28) hx hb dX11_lowest_24 (by decide) ?_
    refine lv_lload hx hb dX11_lowest_28 (lv_at hl 0 rfl) ?_
    refine lv_ldiv hx hb dX11_lowest_30 (fun q => absurd ((pk_lEQ (b := 0) (by omega) (by omega)).mp q) (by omega)) ?_
    refine fx_tl (y := lN (aa_ / (gl 100 aa_ bb))) (pk_lDiv (by omega) (by omega) (by omega)) ?_
    exact fx_lret C hr hk hH (by rw [if_pos c20]) rfl rfl (Nat.zero_le _) (Nat.zero_le _) dX11_lowest_31
abbrev rm_X11_rowsThere : Room := { frames := 0, cells := 0, slots := 0, locals := 0 }
set_option maxHeartbeats 4000000 in
set_option maxRecDepth 100000 in
theorem c_X11_rowsThere {G : GG} {base : Nat} {l : Launch} {f : Hp} {sz : Nat} {ad : Nat → Nat} {it : Nat → Nat} {mi : Nat → Int32} {la : Nat → Int32} {si : Nat → Int32} {x : Nat} {ra : Nat} {tp : Nat} {tc : Nat} {ro : Nat} {tr : Nat} {ia : Nat} {aa : Nat} {oa : Int32} {ak : Int32} {fa : Int32} {fi : Int32} {gr : Nat → Option Nat} (h_x : f x = some (oO 10 [.ref ra, .ref tp, .ref tc, .ref ro, .ref tr, .ref ia, .ref aa, .int oa, .int ak, .int fa, .int fi])) (h_ra : f ra = some (oR 4 8 gr)) (hgr : ∀ i, i < 8 → gr i = some (ad i)) (hrow : ∀ i, i < 8 → f (ad i) = some (oO 6 [.ref (it i), .int (mi i), .int (la i), .int (si i)])) : fx_M G base l yX11_rowsThere cX11_rowsThere 3 (some .int) rm_X11_rowsThere [.ref x] f sz (some (.int (nI (cnR mi 8)))) f sz := by
  refine fx_of (by decide +kernel) (Nat.le_of_ble_eq_true rfl) ?_
  intro p e s m args below meth c C hr hk hnm hH ls hl
  obtain ⟨locs, hlocs⟩ : ∃ L : List Loc, L = [] := ⟨_, rfl⟩
  rw [← hlocs] at hH ⊢
  generalize s.heap = H at hH ⊢
  have hx := C.1
  have hb := C.2.1
  have hl : lv_has ls 3 [(0, .ref x)] := hl
  refine lv_iconst (v := nI 0) hx hb dX11_rowsThere_0 (by decide) ?_
  refine lv_istore_n (lv' := [(1, .int (nI 0)), (0, .ref x)]) hx hb dX11_rowsThere_1 rfl hl (by decide) rfl (fun ls hl => ?_)
  refine lv_iconst (v := nI 0) hx hb dX11_rowsThere_2 (by decide) ?_
  refine lv_istore_n (lv' := [(2, .int (nI 0)), (1, .int (nI 0)), (0, .ref x)]) hx hb dX11_rowsThere_3 rfl hl (by decide) rfl (fun ls hl => ?_)
  have loop_4 : ∀ (N_4 : Nat) (i : Nat) (hi : i ≤ 8) (hm_4 : 8 - i < N_4) (H : Heap) (locs : List Loc) (hH : fx_H G base s f sz H locs) (ls : Array Slot) (hl : lv_has ls 3 [(0, .ref x), (1, .int (nI (cnR mi i))), (2, .int (nI i))]), W p l e rm_X11_rowsThere s m args below meth c H locs 0 0 (MQ below (fx_Q G base (some (.int (nI (cnR mi 8)))) f sz) args s rm_X11_rowsThere.cells rm_X11_rowsThere.slots (fun q => base ≤ q)) (F0 m 4 ls []) := by
    intro N_4
    induction N_4 with
    | zero => intro i hi hm_4; exact absurd hm_4 (Nat.not_lt_zero _)
    | succ N_4 ih_4 =>
      intro i hi hm_4 H locs hH ls hl
      refine lv_iload_n hx hb dX11_rowsThere_4 rfl (lv_at hl 2 rfl) ?_
      refine lv_bipush (v := nI 8) hx hb dX11_rowsThere_5 (by decide) ?_
      refine fx_N_ge (a := i) (b := 8) hx hb (by omega) (by omega) (tgt := 31) dX11_rowsThere_7 (by decide) (fun c7 => ?_) (fun c7 => ?_)
      · refine lv_iload_n hx hb dX11_rowsThere_31 rfl (lv_at hl 1 rfl) ?_
        exact fx_iret C hr hk hH (by rw [show i = 8 from by omega]) rfl rfl (Nat.zero_le _) (Nat.zero_le _) dX11_rowsThere_32
      · refine lv_aload_n hx hb dX11_rowsThere_10 rfl (lv_at hl 0 rfl) ?_
        refine fx_get C hH (k := 0) (v := .ref ra) h_x ff_X11_11_10 rfl dX11_rowsThere_11 ?_
        refine lv_iload_n hx hb dX11_rowsThere_14 rfl (lv_at hl 2 rfl) ?_
        refine fx_aaldN C hH (v := .ref (ad i)) (t := 4) rfl h_ra (by omega) (by omega) (by rw [hgr i (by omega)]; rfl) dX11_rowsThere_15 ?_
        refine fx_get C hH (k := 1) (v := .int (mi i)) (hrow i (by omega)) ff_X11_72_6 rfl dX11_rowsThere_16 ?_
        refine lv_if_ne hx hb (tgt := 25) dX11_rowsThere_19 (by decide) (fun c19 => ?_) (fun c19 => ?_)
        · refine lv_iinc (v := nI (i + 1)) (lv' := [(2, .int (nI (i + 1))), (0, .ref x), (1, .int (nI (cnR mi i)))]) hx hb dX11_rowsThere_25 hl (k := 2) rfl (nI_1 _) (by decide) rfl (fun ls hl => ?_)
          refine lv_goto (tgt := 4) hx hb dX11_rowsThere_28 (by decide) ?_
          have hl : lv_has ls 3 [(0, .ref x), (1, .int (nI (cnR mi i))), (2, .int (nI (i + 1)))] := lv_sub hl [1, 2, 0] rfl
          have hl : lv_has ls 3 [(0, .ref x), (1, .int (nI (cnR mi (i + 1)))), (2, .int (nI (i + 1)))] := by
            have e_ : cnR mi (i + 1) = cnR mi i := by rw [cnR, if_neg c19]
            rw [e_]
            exact hl
          exact ih_4 (i + 1) (by omega) (by omega) _ _ hH _ hl
        · refine lv_iinc (v := nI (cnR mi i + 1)) (lv' := [(1, .int (nI (cnR mi i + 1))), (0, .ref x), (2, .int (nI i))]) hx hb dX11_rowsThere_22 hl (k := 1) rfl (nI_1 _) (by decide) rfl (fun ls hl => ?_)
          refine lv_iinc (v := nI (i + 1)) (lv' := [(2, .int (nI (i + 1))), (1, .int (nI (cnR mi i + 1))), (0, .ref x)]) hx hb dX11_rowsThere_25 hl (k := 2) rfl (nI_1 _) (by decide) rfl (fun ls hl => ?_)
          refine lv_goto (tgt := 4) hx hb dX11_rowsThere_28 (by decide) ?_
          have hl : lv_has ls 3 [(0, .ref x), (1, .int (nI (cnR mi i + 1))), (2, .int (nI (i + 1)))] := lv_sub hl [2, 1, 0] rfl
          have hl : lv_has ls 3 [(0, .ref x), (1, .int (nI (cnR mi (i + 1)))), (2, .int (nI (i + 1)))] := by
            have e_ : cnR mi (i + 1) = cnR mi i + 1 := by rw [cnR, if_pos c19]
            rw [e_]
            exact hl
          exact ih_4 (i + 1) (by omega) (by omega) _ _ hH _ hl
  have hl : lv_has ls 3 [(0, .ref x), (1, .int (nI 0)), (2, .int (nI 0))] := lv_sub hl [2, 1, 0] rfl
  have hl : lv_has ls 3 [(0, .ref x), (1, .int (nI (cnR mi 0))), (2, .int (nI 0))] := hl
  exact loop_4 _ 0 (by omega) (Nat.lt_succ_self _) _ _ hH _ hl
abbrev rm_X11_keepAct : Room := { frames := 2, cells := 0, slots := 0, locals := 61 }
set_option maxHeartbeats 4000000 in
set_option maxRecDepth 100000 in
theorem c_X11_keepAct_lt {G : GG} {base : Nat} {l : Launch} {f : Hp} {sz : Nat} {x : Nat} {ra : Nat} {tp : Nat} {tc : Nat} {ro : Nat} {tr : Nat} {ia : Nat} {aa : Nat} {oa : Nat} {ak : Nat} {fa : Int32} {fi : Int32} {k : Nat} {w : Nat} {pl : Int32} {wy : Int32} {se : Int32} {to : Int32} {lf : Int32} {ta : Int32} {q : Nat → Int64} {ga : Nat → Option Nat} {tg : Nat} {k2 : Nat} {w2 : Nat} {pl2 : Int32} {wy2 : Int32} {se2 : Int32} {to2 : Int32} {lf2 : Int32} {ta2 : Int32} {q2 : Nat → Int64} (h_x : f x = some (oO 10 [.ref ra, .ref tp, .ref tc, .ref ro, .ref tr, .ref ia, .ref aa, .int (nI oa), .int (nI ak), .int fa, .int fi])) (h_ro : f ro = some (oO 4 [.ref k, .ref w, .int pl, .int wy, .int se, .int to, .int lf, .int ta])) (h_k : f k = some (oJ 13 q)) (h_aa : f aa = some (oR 3 24 ga)) (h_tg : f tg = some (oO 4 [.ref k2, .ref w2, .int pl2, .int wy2, .int se2, .int to2, .int lf2, .int ta2])) (h_k2 : f k2 = some (oJ 13 q2)) (hne_0 : ro ≠ tg) (hne_1 : k ≠ k2) (hoa : oa < 24) (hak : ak < 24) (hga : ga ((oa + ak) % 24) = some tg) : fx_M G base l yX11_keepAct cX11_keepAct 1 none rm_X11_keepAct [.ref x] f sz none (fx_up (fx_up (fx_up f tg (oO 4 [.ref k2, .ref w, .int pl, .int wy, .int se, .int to, .int lf, .int ta])) k2 (oJ 13 (cpJ q q2))) x (oO 10 [.ref ra, .ref tp, .ref tc, .ref ro, .ref tr, .ref ia, .ref aa, .int (nI oa), .int (nI (ak + 1)), .int fa, .int fi])) sz := by
  refine fx_of (by decide +kernel) (Nat.le_of_ble_eq_true rfl) ?_
  intro p e s m args below meth c C hr hk hnm hH ls hl
  obtain ⟨locs, hlocs⟩ : ∃ L : List Loc, L = [] := ⟨_, rfl⟩
  rw [← hlocs] at hH ⊢
  generalize s.heap = H at hH ⊢
  have hx := C.1
  have hb := C.2.1
  have hl : lv_has ls 1 [(0, .ref x)] := hl
  refine lv_aload_n hx hb dX11_keepAct_0 rfl (lv_at hl 0 rfl) ?_
  refine fx_get C hH (k := 8) (v := .int (nI ak)) h_x ff_X11_130_10 rfl dX11_keepAct_1 ?_
  refine lv_bipush (v := nI 24) hx hb dX11_keepAct_4 (by decide) ?_
  refine fx_N_lt (a := ak) (b := 24) hx hb (by omega) (by omega) (tgt := 32) dX11_keepAct_6 (by decide) (fun c6 => ?_) (fun c6 => absurd c6 (by omega))
  refine lv_aload_n hx hb dX11_keepAct_32 rfl (lv_at hl 0 rfl) ?_
  refine fx_get C hH (k := 6) (v := .ref aa) h_x ff_X11_35_10 rfl dX11_keepAct_33 ?_
  refine lv_aload_n hx hb dX11_keepAct_36 rfl (lv_at hl 0 rfl) ?_
  refine fx_get C hH (k := 7) (v := .int (nI oa)) h_x ff_X11_134_10 rfl dX11_keepAct_37 ?_
  refine lv_aload_n hx hb dX11_keepAct_40 rfl (lv_at hl 0 rfl) ?_
  refine fx_get C hH (k := 8) (v := .int (nI ak)) h_x ff_X11_130_10 rfl dX11_keepAct_41 ?_
  refine lv_iadd hx hb dX11_keepAct_44 ?_
  refine fx_ti (y := nI (oa + ak)) (nI_add _ _) ?_
  refine lv_bipush (v := nI 24) hx hb dX11_keepAct_45 (by decide) ?_
  refine lv_irem hx hb dX11_keepAct_47 (fun q => absurd ((nI_eq (b := 0) (by omega) (by omega)).mp q) (by omega)) ?_
  refine fx_ti (y := nI ((oa + ak) % 24)) (pk_rem (by omega) (by omega) (by omega)) ?_
  refine fx_aaldN C hH (v := .ref tg) (t := 3) rfl h_aa (Nat.mod_lt _ (by omega)) (by omega) (by rw [hga]; rfl) dX11_keepAct_48 ?_
  refine lv_aload_n hx hb dX11_keepAct_49 rfl (lv_at hl 0 rfl) ?_
  refine fx_get C hH (k := 3) (v := .ref ro) h_x ff_X11_44_10 rfl dX11_keepAct_50 ?_
  refine fx_go0 hH (fx_runV C hH hl.1 (As := [.ref ro]) (rest := []) (c_X4_become (G := G) (base := base) (l := l) (f := f) (sz := sz) (r := tg) (u := ro) (k := k2) (w := w2) (pl := pl2) (wy := wy2) (se := se2) (to := to2) (lf := lf2) (ta := ta2) (k2 := k) (w2 := w) (pl2 := pl) (wy2 := wy) (se2 := se) (to2 := to) (lf2 := lf) (ta2 := ta) (q := q2) (q2 := q) h_tg h_ro h_k2 h_k (Ne.symm hne_0) (Ne.symm hne_1)) mY_X4_become ml_X11_137 im_X4_become se_X4_X4_become h_tg rfl rfl ⟨(Nat.le_of_ble_eq_true rfl), (Nat.le_of_ble_eq_true rfl)⟩ rfl (Nat.le_of_ble_eq_true rfl) ⟨(Nat.le_of_ble_eq_true rfl), (Nat.le_of_ble_eq_true rfl)⟩ dX11_keepAct_53) (fun H locs hH => ?_)
  have hH : fx_H G base s (fx_up (fx_up f tg (oO 4 [.ref k2, .ref w, .int pl, .int wy, .int se, .int to, .int lf, .int ta])) k2 (oJ 13 (cpJ q q2))) sz H locs := hH
  have h1_x : (fx_up f tg (oO 4 [.ref k2, .ref w, .int pl, .int wy, .int se, .int to, .int lf, .int ta])) x = some (oO 10 [.ref ra, .ref tp, .ref tc, .ref ro, .ref tr, .ref ia, .ref aa, .int (nI oa), .int (nI ak), .int fa, .int fi]) := (fx_up_n _ _ (fx_ne h_x h_tg rfl)).trans h_x
  have h1_ro : (fx_up f tg (oO 4 [.ref k2, .ref w, .int pl, .int wy, .int se, .int to, .int lf, .int ta])) ro = some (oO 4 [.ref k, .ref w, .int pl, .int wy, .int se, .int to, .int lf, .int ta]) := (fx_up_n _ _ hne_0).trans h_ro
  have h1_k : (fx_up f tg (oO 4 [.ref k2, .ref w, .int pl, .int wy, .int se, .int to, .int lf, .int ta])) k = some (oJ 13 q) := (fx_up_n _ _ (fx_ne h_k h_tg rfl)).trans h_k
  have h1_aa : (fx_up f tg (oO 4 [.ref k2, .ref w, .int pl, .int wy, .int se, .int to, .int lf, .int ta])) aa = some (oR 3 24 ga) := (fx_up_n _ _ (fx_ne h_aa h_tg rfl)).trans h_aa
  have h1_k2 : (fx_up f tg (oO 4 [.ref k2, .ref w, .int pl, .int wy, .int se, .int to, .int lf, .int ta])) k2 = some (oJ 13 q2) := (fx_up_n _ _ (fx_ne h_k2 h_tg rfl)).trans h_k2
  have h1_tg : (fx_up f tg (oO 4 [.ref k2, .ref w, .int pl, .int wy, .int se, .int to, .int lf, .int ta])) tg = some (oO 4 [.ref k2, .ref w, .int pl, .int wy, .int se, .int to, .int lf, .int ta]) := fx_up_s _ _ _
  have h2_x : (fx_up (fx_up f tg (oO 4 [.ref k2, .ref w, .int pl, .int wy, .int se, .int to, .int lf, .int ta])) k2 (oJ 13 (cpJ q q2))) x = some (oO 10 [.ref ra, .ref tp, .ref tc, .ref ro, .ref tr, .ref ia, .ref aa, .int (nI oa), .int (nI ak), .int fa, .int fi]) := (fx_up_n _ _ (fx_ne h1_x h1_k2 rfl)).trans h1_x
  have h2_ro : (fx_up (fx_up f tg (oO 4 [.ref k2, .ref w, .int pl, .int wy, .int se, .int to, .int lf, .int ta])) k2 (oJ 13 (cpJ q q2))) ro = some (oO 4 [.ref k, .ref w, .int pl, .int wy, .int se, .int to, .int lf, .int ta]) := (fx_up_n _ _ (fx_ne h1_ro h1_k2 rfl)).trans h1_ro
  have h2_k : (fx_up (fx_up f tg (oO 4 [.ref k2, .ref w, .int pl, .int wy, .int se, .int to, .int lf, .int ta])) k2 (oJ 13 (cpJ q q2))) k = some (oJ 13 q) := (fx_up_n _ _ hne_1).trans h1_k
  have h2_aa : (fx_up (fx_up f tg (oO 4 [.ref k2, .ref w, .int pl, .int wy, .int se, .int to, .int lf, .int ta])) k2 (oJ 13 (cpJ q q2))) aa = some (oR 3 24 ga) := (fx_up_n _ _ (fx_ne h1_aa h1_k2 rfl)).trans h1_aa
  have h2_tg : (fx_up (fx_up f tg (oO 4 [.ref k2, .ref w, .int pl, .int wy, .int se, .int to, .int lf, .int ta])) k2 (oJ 13 (cpJ q q2))) tg = some (oO 4 [.ref k2, .ref w, .int pl, .int wy, .int se, .int to, .int lf, .int ta]) := (fx_up_n _ _ (fx_ne h1_tg h1_k2 rfl)).trans h1_tg
  have h2_k2 : (fx_up (fx_up f tg (oO 4 [.ref k2, .ref w, .int pl, .int wy, .int se, .int to, .int lf, .int ta])) k2 (oJ 13 (cpJ q q2))) k2 = some (oJ 13 (cpJ q q2)) := fx_up_s _ _ _
  have hH : fx_H G base s (fx_up (fx_up f tg (oO 4 [.ref k2, .ref w, .int pl, .int wy, .int se, .int to, .int lf, .int ta])) k2 (oJ 13 (cpJ q q2))) sz H locs := hH
  refine lv_aload_n hx hb dX11_keepAct_56 rfl (lv_at hl 0 rfl) ?_
  refine lv_dup hx hb dX11_keepAct_57 rfl ?_
  refine fx_get C hH (k := 8) (v := .int (nI ak)) h2_x ff_X11_130_10 rfl dX11_keepAct_58 ?_
  refine lv_iconst (v := nI 1) hx hb dX11_keepAct_61 (by decide) ?_
  refine lv_iadd hx hb dX11_keepAct_62 ?_
  refine fx_ti (y := nI (ak + 1)) (nI_add _ _) ?_
  refine fx_putT C hH (k := 8) h2_x ff_X11_130_10 fL_10 fT_10_8 rfl rfl (Nat.le_of_ble_eq_true rfl) dX11_keepAct_63 (fun H locs hH => ?_)
  have hH : fx_H G base s (fx_up (fx_up (fx_up f tg (oO 4 [.ref k2, .ref w, .int pl, .int wy, .int se, .int to, .int lf, .int ta])) k2 (oJ 13 (cpJ q q2))) x (oO 10 [.ref ra, .ref tp, .ref tc, .ref ro, .ref tr, .ref ia, .ref aa, .int (nI oa), .int (nI (ak + 1)), .int fa, .int fi])) sz H locs := hH
  have h3_ro : (fx_up (fx_up (fx_up f tg (oO 4 [.ref k2, .ref w, .int pl, .int wy, .int se, .int to, .int lf, .int ta])) k2 (oJ 13 (cpJ q q2))) x (oO 10 [.ref ra, .ref tp, .ref tc, .ref ro, .ref tr, .ref ia, .ref aa, .int (nI oa), .int (nI (ak + 1)), .int fa, .int fi])) ro = some (oO 4 [.ref k, .ref w, .int pl, .int wy, .int se, .int to, .int lf, .int ta]) := (fx_up_n _ _ (fx_ne h2_ro h2_x rfl)).trans h2_ro
  have h3_k : (fx_up (fx_up (fx_up f tg (oO 4 [.ref k2, .ref w, .int pl, .int wy, .int se, .int to, .int lf, .int ta])) k2 (oJ 13 (cpJ q q2))) x (oO 10 [.ref ra, .ref tp, .ref tc, .ref ro, .ref tr, .ref ia, .ref aa, .int (nI oa), .int (nI (ak + 1)), .int fa, .int fi])) k = some (oJ 13 q) := (fx_up_n _ _ (fx_ne h2_k h2_x rfl)).trans h2_k
  have h3_aa : (fx_up (fx_up (fx_up f tg (oO 4 [.ref k2, .ref w, .int pl, .int wy, .int se, .int to, .int lf, .int ta])) k2 (oJ 13 (cpJ q q2))) x (oO 10 [.ref ra, .ref tp, .ref tc, .ref ro, .ref tr, .ref ia, .ref aa, .int (nI oa), .int (nI (ak + 1)), .int fa, .int fi])) aa = some (oR 3 24 ga) := (fx_up_n _ _ (fx_ne h2_aa h2_x rfl)).trans h2_aa
  have h3_tg : (fx_up (fx_up (fx_up f tg (oO 4 [.ref k2, .ref w, .int pl, .int wy, .int se, .int to, .int lf, .int ta])) k2 (oJ 13 (cpJ q q2))) x (oO 10 [.ref ra, .ref tp, .ref tc, .ref ro, .ref tr, .ref ia, .ref aa, .int (nI oa), .int (nI (ak + 1)), .int fa, .int fi])) tg = some (oO 4 [.ref k2, .ref w, .int pl, .int wy, .int se, .int to, .int lf, .int ta]) := (fx_up_n _ _ (fx_ne h2_tg h2_x rfl)).trans h2_tg
  have h3_k2 : (fx_up (fx_up (fx_up f tg (oO 4 [.ref k2, .ref w, .int pl, .int wy, .int se, .int to, .int lf, .int ta])) k2 (oJ 13 (cpJ q q2))) x (oO 10 [.ref ra, .ref tp, .ref tc, .ref ro, .ref tr, .ref ia, .ref aa, .int (nI oa), .int (nI (ak + 1)), .int fa, .int fi])) k2 = some (oJ 13 (cpJ q q2)) := (fx_up_n _ _ (fx_ne h2_k2 h2_x rfl)).trans h2_k2
  have h3_x : (fx_up (fx_up (fx_up f tg (oO 4 [.ref k2, .ref w, .int pl, .int wy, .int se, .int to, .int lf, .int ta])) k2 (oJ 13 (cpJ q q2))) x (oO 10 [.ref ra, .ref tp, .ref tc, .ref ro, .ref tr, .ref ia, .ref aa, .int (nI oa), .int (nI (ak + 1)), .int fa, .int fi])) x = some (oO 10 [.ref ra, .ref tp, .ref tc, .ref ro, .ref tr, .ref ia, .ref aa, .int (nI oa), .int (nI (ak + 1)), .int fa, .int fi]) := fx_up_s _ _ _
  exact fx_vret C hr hk hH rfl rfl (Nat.zero_le _) (Nat.zero_le _) dX11_keepAct_66
set_option maxHeartbeats 4000000 in
set_option maxRecDepth 100000 in
theorem c_X11_keepAct_ge {G : GG} {base : Nat} {l : Launch} {f : Hp} {sz : Nat} {x : Nat} {ra : Nat} {tp : Nat} {tc : Nat} {ro : Nat} {tr : Nat} {ia : Nat} {aa : Nat} {oa : Nat} {ak : Nat} {fa : Int32} {fi : Int32} {k : Nat} {w : Nat} {pl : Int32} {wy : Int32} {se : Int32} {to : Int32} {lf : Int32} {ta : Int32} {q : Nat → Int64} {ga : Nat → Option Nat} {tg : Nat} {k2 : Nat} {w2 : Nat} {pl2 : Int32} {wy2 : Int32} {se2 : Int32} {to2 : Int32} {lf2 : Int32} {ta2 : Int32} {q2 : Nat → Int64} (h_x : f x = some (oO 10 [.ref ra, .ref tp, .ref tc, .ref ro, .ref tr, .ref ia, .ref aa, .int (nI oa), .int (nI ak), .int fa, .int fi])) (h_ro : f ro = some (oO 4 [.ref k, .ref w, .int pl, .int wy, .int se, .int to, .int lf, .int ta])) (h_k : f k = some (oJ 13 q)) (h_aa : f aa = some (oR 3 24 ga)) (h_tg : f tg = some (oO 4 [.ref k2, .ref w2, .int pl2, .int wy2, .int se2, .int to2, .int lf2, .int ta2])) (h_k2 : f k2 = some (oJ 13 q2)) (hne_0 : ro ≠ tg) (hne_1 : k ≠ k2) (hoa : oa < 24) (hak : ak = 24) (hga : ga (((oa + 1) % 24 + (ak - 1)) % 24) = some tg) : fx_M G base l yX11_keepAct cX11_keepAct 1 none rm_X11_keepAct [.ref x] f sz none (fx_up (fx_up (fx_up f x (oO 10 [.ref ra, .ref tp, .ref tc, .ref ro, .ref tr, .ref ia, .ref aa, .int (nI ((oa + 1) % 24)), .int (nI (ak - 1 + 1)), .int fa, .int fi])) tg (oO 4 [.ref k2, .ref w, .int pl, .int wy, .int se, .int to, .int lf, .int ta])) k2 (oJ 13 (cpJ q q2))) sz := by
  refine fx_of (by decide +kernel) (Nat.le_of_ble_eq_true rfl) ?_
  intro p e s m args below meth c C hr hk hnm hH ls hl
  obtain ⟨locs, hlocs⟩ : ∃ L : List Loc, L = [] := ⟨_, rfl⟩
  rw [← hlocs] at hH ⊢
  generalize s.heap = H at hH ⊢
  have hx := C.1
  have hb := C.2.1
  have hl : lv_has ls 1 [(0, .ref x)] := hl
  refine lv_aload_n hx hb dX11_keepAct_0 rfl (lv_at hl 0 rfl) ?_
  refine fx_get C hH (k := 8) (v := .int (nI ak)) h_x ff_X11_130_10 rfl dX11_keepAct_1 ?_
  refine lv_bipush (v := nI 24) hx hb dX11_keepAct_4 (by decide) ?_
  refine fx_N_lt (a := ak) (b := 24) hx hb (by omega) (by omega) (tgt := 32) dX11_keepAct_6 (by decide) (fun c6 => absurd c6 (by omega)) (fun c6 => ?_)
  refine lv_aload_n hx hb dX11_keepAct_9 rfl (lv_at hl 0 rfl) ?_
  refine lv_aload_n hx hb dX11_keepAct_10 rfl (lv_at hl 0 rfl) ?_
  refine fx_get C hH (k := 7) (v := .int (nI oa)) h_x ff_X11_134_10 rfl dX11_keepAct_11 ?_
  refine lv_iconst (v := nI 1) hx hb dX11_keepAct_14 (by decide) ?_
  refine lv_iadd hx hb dX11_keepAct_15 ?_
  refine fx_ti (y := nI (oa + 1)) (nI_add _ _) ?_
  refine lv_bipush (v := nI 24) hx hb dX11_keepAct_16 (by decide) ?_
  refine lv_irem hx hb dX11_keepAct_18 (fun q => absurd ((nI_eq (b := 0) (by omega) (by omega)).mp q) (by omega)) ?_
  refine fx_ti (y := nI ((oa + 1) % 24)) (pk_rem (by omega) (by omega) (by omega)) ?_
  refine fx_putT C hH (k := 7) h_x ff_X11_134_10 fL_10 fT_10_7 rfl rfl (Nat.le_of_ble_eq_true rfl) dX11_keepAct_19 (fun H locs hH => ?_)
  have hH : fx_H G base s (fx_up f x (oO 10 [.ref ra, .ref tp, .ref tc, .ref ro, .ref tr, .ref ia, .ref aa, .int (nI ((oa + 1) % 24)), .int (nI ak), .int fa, .int fi])) sz H locs := hH
  have h1_ro : (fx_up f x (oO 10 [.ref ra, .ref tp, .ref tc, .ref ro, .ref tr, .ref ia, .ref aa, .int (nI ((oa + 1) % 24)), .int (nI ak), .int fa, .int fi])) ro = some (oO 4 [.ref k, .ref w, .int pl, .int wy, .int se, .int to, .int lf, .int ta]) := (fx_up_n _ _ (fx_ne h_ro h_x rfl)).trans h_ro
  have h1_k : (fx_up f x (oO 10 [.ref ra, .ref tp, .ref tc, .ref ro, .ref tr, .ref ia, .ref aa, .int (nI ((oa + 1) % 24)), .int (nI ak), .int fa, .int fi])) k = some (oJ 13 q) := (fx_up_n _ _ (fx_ne h_k h_x rfl)).trans h_k
  have h1_aa : (fx_up f x (oO 10 [.ref ra, .ref tp, .ref tc, .ref ro, .ref tr, .ref ia, .ref aa, .int (nI ((oa + 1) % 24)), .int (nI ak), .int fa, .int fi])) aa = some (oR 3 24 ga) := (fx_up_n _ _ (fx_ne h_aa h_x rfl)).trans h_aa
  have h1_tg : (fx_up f x (oO 10 [.ref ra, .ref tp, .ref tc, .ref ro, .ref tr, .ref ia, .ref aa, .int (nI ((oa + 1) % 24)), .int (nI ak), .int fa, .int fi])) tg = some (oO 4 [.ref k2, .ref w2, .int pl2, .int wy2, .int se2, .int to2, .int lf2, .int ta2]) := (fx_up_n _ _ (fx_ne h_tg h_x rfl)).trans h_tg
  have h1_k2 : (fx_up f x (oO 10 [.ref ra, .ref tp, .ref tc, .ref ro, .ref tr, .ref ia, .ref aa, .int (nI ((oa + 1) % 24)), .int (nI ak), .int fa, .int fi])) k2 = some (oJ 13 q2) := (fx_up_n _ _ (fx_ne h_k2 h_x rfl)).trans h_k2
  have h1_x : (fx_up f x (oO 10 [.ref ra, .ref tp, .ref tc, .ref ro, .ref tr, .ref ia, .ref aa, .int (nI ((oa + 1) % 24)), .int (nI ak), .int fa, .int fi])) x = some (oO 10 [.ref ra, .ref tp, .ref tc, .ref ro, .ref tr, .ref ia, .ref aa, .int (nI ((oa + 1) % 24)), .int (nI ak), .int fa, .int fi]) := fx_up_s _ _ _
  refine lv_aload_n hx hb dX11_keepAct_22 rfl (lv_at hl 0 rfl) ?_
  refine lv_dup hx hb dX11_keepAct_23 rfl ?_
  refine fx_get C hH (k := 8) (v := .int (nI ak)) h1_x ff_X11_130_10 rfl dX11_keepAct_24 ?_
  refine lv_iconst (v := nI 1) hx hb dX11_keepAct_27 (by decide) ?_
  refine lv_isub hx hb dX11_keepAct_28 ?_
  refine fx_ti (y := nI (ak - 1)) (pk_sub (by omega)) ?_
  refine fx_putT C hH (k := 8) h1_x ff_X11_130_10 fL_10 fT_10_8 rfl rfl (Nat.le_of_ble_eq_true rfl) dX11_keepAct_29 (fun H locs hH => ?_)
  have hH : fx_H G base s (fx_up (fx_up f x (oO 10 [.ref ra, .ref tp, .ref tc, .ref ro, .ref tr, .ref ia, .ref aa, .int (nI ((oa + 1) % 24)), .int (nI ak), .int fa, .int fi])) x (oO 10 [.ref ra, .ref tp, .ref tc, .ref ro, .ref tr, .ref ia, .ref aa, .int (nI ((oa + 1) % 24)), .int (nI (ak - 1)), .int fa, .int fi])) sz H locs := hH
  rw [fx_up_up] at hH
  have hH : fx_H G base s (fx_up f x (oO 10 [.ref ra, .ref tp, .ref tc, .ref ro, .ref tr, .ref ia, .ref aa, .int (nI ((oa + 1) % 24)), .int (nI (ak - 1)), .int fa, .int fi])) sz H locs := hH
  have heq2 : fx_up (fx_up f x (oO 10 [.ref ra, .ref tp, .ref tc, .ref ro, .ref tr, .ref ia, .ref aa, .int (nI ((oa + 1) % 24)), .int (nI ak), .int fa, .int fi])) x (oO 10 [.ref ra, .ref tp, .ref tc, .ref ro, .ref tr, .ref ia, .ref aa, .int (nI ((oa + 1) % 24)), .int (nI (ak - 1)), .int fa, .int fi]) = fx_up f x (oO 10 [.ref ra, .ref tp, .ref tc, .ref ro, .ref tr, .ref ia, .ref aa, .int (nI ((oa + 1) % 24)), .int (nI (ak - 1)), .int fa, .int fi]) := by rw [fx_up_up]
  have h2_ro : (fx_up f x (oO 10 [.ref ra, .ref tp, .ref tc, .ref ro, .ref tr, .ref ia, .ref aa, .int (nI ((oa + 1) % 24)), .int (nI (ak - 1)), .int fa, .int fi])) ro = some (oO 4 [.ref k, .ref w, .int pl, .int wy, .int se, .int to, .int lf, .int ta]) := (congrFun heq2 ro).symm.trans ((fx_up_n _ _ (fx_ne h1_ro h1_x rfl)).trans h1_ro)
  have h2_k : (fx_up f x (oO 10 [.ref ra, .ref tp, .ref tc, .ref ro, .ref tr, .ref ia, .ref aa, .int (nI ((oa + 1) % 24)), .int (nI (ak - 1)), .int fa, .int fi])) k = some (oJ 13 q) := (congrFun heq2 k).symm.trans ((fx_up_n _ _ (fx_ne h1_k h1_x rfl)).trans h1_k)
  have h2_aa : (fx_up f x (oO 10 [.ref ra, .ref tp, .ref tc, .ref ro, .ref tr, .ref ia, .ref aa, .int (nI ((oa + 1) % 24)), .int (nI (ak - 1)), .int fa, .int fi])) aa = some (oR 3 24 ga) := (congrFun heq2 aa).symm.trans ((fx_up_n _ _ (fx_ne h1_aa h1_x rfl)).trans h1_aa)
  have h2_tg : (fx_up f x (oO 10 [.ref ra, .ref tp, .ref tc, .ref ro, .ref tr, .ref ia, .ref aa, .int (nI ((oa + 1) % 24)), .int (nI (ak - 1)), .int fa, .int fi])) tg = some (oO 4 [.ref k2, .ref w2, .int pl2, .int wy2, .int se2, .int to2, .int lf2, .int ta2]) := (congrFun heq2 tg).symm.trans ((fx_up_n _ _ (fx_ne h1_tg h1_x rfl)).trans h1_tg)
  have h2_k2 : (fx_up f x (oO 10 [.ref ra, .ref tp, .ref tc, .ref ro, .ref tr, .ref ia, .ref aa, .int (nI ((oa + 1) % 24)), .int (nI (ak - 1)), .int fa, .int fi])) k2 = some (oJ 13 q2) := (congrFun heq2 k2).symm.trans ((fx_up_n _ _ (fx_ne h1_k2 h1_x rfl)).trans h1_k2)
  have h2_x : (fx_up f x (oO 10 [.ref ra, .ref tp, .ref tc, .ref ro, .ref tr, .ref ia, .ref aa, .int (nI ((oa + 1) % 24)), .int (nI (ak - 1)), .int fa, .int fi])) x = some (oO 10 [.ref ra, .ref tp, .ref tc, .ref ro, .ref tr, .ref ia, .ref aa, .int (nI ((oa + 1) % 24)), .int (nI (ak - 1)), .int fa, .int fi]) := (congrFun heq2 x).symm.trans (fx_up_s _ _ _)
  refine lv_aload_n hx hb dX11_keepAct_32 rfl (lv_at hl 0 rfl) ?_
  refine fx_get C hH (k := 6) (v := .ref aa) h2_x ff_X11_35_10 rfl dX11_keepAct_33 ?_
  refine lv_aload_n hx hb dX11_keepAct_36 rfl (lv_at hl 0 rfl) ?_
  refine fx_get C hH (k := 7) (v := .int (nI ((oa + 1) % 24))) h2_x ff_X11_134_10 rfl dX11_keepAct_37 ?_
  refine lv_aload_n hx hb dX11_keepAct_40 rfl (lv_at hl 0 rfl) ?_
  refine fx_get C hH (k := 8) (v := .int (nI (ak - 1))) h2_x ff_X11_130_10 rfl dX11_keepAct_41 ?_
  refine lv_iadd hx hb dX11_keepAct_44 ?_
  refine fx_ti (y := nI ((oa + 1) % 24 + (ak - 1))) (nI_add _ _) ?_
  refine lv_bipush (v := nI 24) hx hb dX11_keepAct_45 (by decide) ?_
  refine lv_irem hx hb dX11_keepAct_47 (fun q => absurd ((nI_eq (b := 0) (by omega) (by omega)).mp q) (by omega)) ?_
  refine fx_ti (y := nI (((oa + 1) % 24 + (ak - 1)) % 24)) (pk_rem (by omega) (by omega) (by omega)) ?_
  refine fx_aaldN C hH (v := .ref tg) (t := 3) rfl h2_aa (Nat.mod_lt _ (by omega)) (by omega) (by rw [hga]; rfl) dX11_keepAct_48 ?_
  refine lv_aload_n hx hb dX11_keepAct_49 rfl (lv_at hl 0 rfl) ?_
  refine fx_get C hH (k := 3) (v := .ref ro) h2_x ff_X11_44_10 rfl dX11_keepAct_50 ?_
  refine fx_go0 hH (fx_runV C hH hl.1 (As := [.ref ro]) (rest := []) (c_X4_become (G := G) (base := base) (l := l) (f := fx_up f x (oO 10 [.ref ra, .ref tp, .ref tc, .ref ro, .ref tr, .ref ia, .ref aa, .int (nI ((oa + 1) % 24)), .int (nI (ak - 1)), .int fa, .int fi])) (sz := sz) (r := tg) (u := ro) (k := k2) (w := w2) (pl := pl2) (wy := wy2) (se := se2) (to := to2) (lf := lf2) (ta := ta2) (k2 := k) (w2 := w) (pl2 := pl) (wy2 := wy) (se2 := se) (to2 := to) (lf2 := lf) (ta2 := ta) (q := q2) (q2 := q) h2_tg h2_ro h2_k2 h2_k (Ne.symm hne_0) (Ne.symm hne_1)) mY_X4_become ml_X11_137 im_X4_become se_X4_X4_become h2_tg rfl rfl ⟨(Nat.le_of_ble_eq_true rfl), (Nat.le_of_ble_eq_true rfl)⟩ rfl (Nat.le_of_ble_eq_true rfl) ⟨(Nat.le_of_ble_eq_true rfl), (Nat.le_of_ble_eq_true rfl)⟩ dX11_keepAct_53) (fun H locs hH => ?_)
  have hH : fx_H G base s (fx_up (fx_up (fx_up f x (oO 10 [.ref ra, .ref tp, .ref tc, .ref ro, .ref tr, .ref ia, .ref aa, .int (nI ((oa + 1) % 24)), .int (nI (ak - 1)), .int fa, .int fi])) tg (oO 4 [.ref k2, .ref w, .int pl, .int wy, .int se, .int to, .int lf, .int ta])) k2 (oJ 13 (cpJ q q2))) sz H locs := hH
  have h3_ro : (fx_up (fx_up f x (oO 10 [.ref ra, .ref tp, .ref tc, .ref ro, .ref tr, .ref ia, .ref aa, .int (nI ((oa + 1) % 24)), .int (nI (ak - 1)), .int fa, .int fi])) tg (oO 4 [.ref k2, .ref w, .int pl, .int wy, .int se, .int to, .int lf, .int ta])) ro = some (oO 4 [.ref k, .ref w, .int pl, .int wy, .int se, .int to, .int lf, .int ta]) := (fx_up_n _ _ hne_0).trans h2_ro
  have h3_k : (fx_up (fx_up f x (oO 10 [.ref ra, .ref tp, .ref tc, .ref ro, .ref tr, .ref ia, .ref aa, .int (nI ((oa + 1) % 24)), .int (nI (ak - 1)), .int fa, .int fi])) tg (oO 4 [.ref k2, .ref w, .int pl, .int wy, .int se, .int to, .int lf, .int ta])) k = some (oJ 13 q) := (fx_up_n _ _ (fx_ne h2_k h2_tg rfl)).trans h2_k
  have h3_aa : (fx_up (fx_up f x (oO 10 [.ref ra, .ref tp, .ref tc, .ref ro, .ref tr, .ref ia, .ref aa, .int (nI ((oa + 1) % 24)), .int (nI (ak - 1)), .int fa, .int fi])) tg (oO 4 [.ref k2, .ref w, .int pl, .int wy, .int se, .int to, .int lf, .int ta])) aa = some (oR 3 24 ga) := (fx_up_n _ _ (fx_ne h2_aa h2_tg rfl)).trans h2_aa
  have h3_k2 : (fx_up (fx_up f x (oO 10 [.ref ra, .ref tp, .ref tc, .ref ro, .ref tr, .ref ia, .ref aa, .int (nI ((oa + 1) % 24)), .int (nI (ak - 1)), .int fa, .int fi])) tg (oO 4 [.ref k2, .ref w, .int pl, .int wy, .int se, .int to, .int lf, .int ta])) k2 = some (oJ 13 q2) := (fx_up_n _ _ (fx_ne h2_k2 h2_tg rfl)).trans h2_k2
  have h3_x : (fx_up (fx_up f x (oO 10 [.ref ra, .ref tp, .ref tc, .ref ro, .ref tr, .ref ia, .ref aa, .int (nI ((oa + 1) % 24)), .int (nI (ak - 1)), .int fa, .int fi])) tg (oO 4 [.ref k2, .ref w, .int pl, .int wy, .int se, .int to, .int lf, .int ta])) x = some (oO 10 [.ref ra, .ref tp, .ref tc, .ref ro, .ref tr, .ref ia, .ref aa, .int (nI ((oa + 1) % 24)), .int (nI (ak - 1)), .int fa, .int fi]) := (fx_up_n _ _ (fx_ne h2_x h2_tg rfl)).trans h2_x
  have h3_tg : (fx_up (fx_up f x (oO 10 [.ref ra, .ref tp, .ref tc, .ref ro, .ref tr, .ref ia, .ref aa, .int (nI ((oa + 1) % 24)), .int (nI (ak - 1)), .int fa, .int fi])) tg (oO 4 [.ref k2, .ref w, .int pl, .int wy, .int se, .int to, .int lf, .int ta])) tg = some (oO 4 [.ref k2, .ref w, .int pl, .int wy, .int se, .int to, .int lf, .int ta]) := fx_up_s _ _ _
  have h4_ro : (fx_up (fx_up (fx_up f x (oO 10 [.ref ra, .ref tp, .ref tc, .ref ro, .ref tr, .ref ia, .ref aa, .int (nI ((oa + 1) % 24)), .int (nI (ak - 1)), .int fa, .int fi])) tg (oO 4 [.ref k2, .ref w, .int pl, .int wy, .int se, .int to, .int lf, .int ta])) k2 (oJ 13 (cpJ q q2))) ro = some (oO 4 [.ref k, .ref w, .int pl, .int wy, .int se, .int to, .int lf, .int ta]) := (fx_up_n _ _ (fx_ne h3_ro h3_k2 rfl)).trans h3_ro
  have h4_k : (fx_up (fx_up (fx_up f x (oO 10 [.ref ra, .ref tp, .ref tc, .ref ro, .ref tr, .ref ia, .ref aa, .int (nI ((oa + 1) % 24)), .int (nI (ak - 1)), .int fa, .int fi])) tg (oO 4 [.ref k2, .ref w, .int pl, .int wy, .int se, .int to, .int lf, .int ta])) k2 (oJ 13 (cpJ q q2))) k = some (oJ 13 q) := (fx_up_n _ _ hne_1).trans h3_k
  have h4_aa : (fx_up (fx_up (fx_up f x (oO 10 [.ref ra, .ref tp, .ref tc, .ref ro, .ref tr, .ref ia, .ref aa, .int (nI ((oa + 1) % 24)), .int (nI (ak - 1)), .int fa, .int fi])) tg (oO 4 [.ref k2, .ref w, .int pl, .int wy, .int se, .int to, .int lf, .int ta])) k2 (oJ 13 (cpJ q q2))) aa = some (oR 3 24 ga) := (fx_up_n _ _ (fx_ne h3_aa h3_k2 rfl)).trans h3_aa
  have h4_x : (fx_up (fx_up (fx_up f x (oO 10 [.ref ra, .ref tp, .ref tc, .ref ro, .ref tr, .ref ia, .ref aa, .int (nI ((oa + 1) % 24)), .int (nI (ak - 1)), .int fa, .int fi])) tg (oO 4 [.ref k2, .ref w, .int pl, .int wy, .int se, .int to, .int lf, .int ta])) k2 (oJ 13 (cpJ q q2))) x = some (oO 10 [.ref ra, .ref tp, .ref tc, .ref ro, .ref tr, .ref ia, .ref aa, .int (nI ((oa + 1) % 24)), .int (nI (ak - 1)), .int fa, .int fi]) := (fx_up_n _ _ (fx_ne h3_x h3_k2 rfl)).trans h3_x
  have h4_tg : (fx_up (fx_up (fx_up f x (oO 10 [.ref ra, .ref tp, .ref tc, .ref ro, .ref tr, .ref ia, .ref aa, .int (nI ((oa + 1) % 24)), .int (nI (ak - 1)), .int fa, .int fi])) tg (oO 4 [.ref k2, .ref w, .int pl, .int wy, .int se, .int to, .int lf, .int ta])) k2 (oJ 13 (cpJ q q2))) tg = some (oO 4 [.ref k2, .ref w, .int pl, .int wy, .int se, .int to, .int lf, .int ta]) := (fx_up_n _ _ (fx_ne h3_tg h3_k2 rfl)).trans h3_tg
  have h4_k2 : (fx_up (fx_up (fx_up f x (oO 10 [.ref ra, .ref tp, .ref tc, .ref ro, .ref tr, .ref ia, .ref aa, .int (nI ((oa + 1) % 24)), .int (nI (ak - 1)), .int fa, .int fi])) tg (oO 4 [.ref k2, .ref w, .int pl, .int wy, .int se, .int to, .int lf, .int ta])) k2 (oJ 13 (cpJ q q2))) k2 = some (oJ 13 (cpJ q q2)) := fx_up_s _ _ _
  have hH : fx_H G base s (fx_up (fx_up (fx_up f x (oO 10 [.ref ra, .ref tp, .ref tc, .ref ro, .ref tr, .ref ia, .ref aa, .int (nI ((oa + 1) % 24)), .int (nI (ak - 1)), .int fa, .int fi])) tg (oO 4 [.ref k2, .ref w, .int pl, .int wy, .int se, .int to, .int lf, .int ta])) k2 (oJ 13 (cpJ q q2))) sz H locs := hH
  refine lv_aload_n hx hb dX11_keepAct_56 rfl (lv_at hl 0 rfl) ?_
  refine lv_dup hx hb dX11_keepAct_57 rfl ?_
  refine fx_get C hH (k := 8) (v := .int (nI (ak - 1))) h4_x ff_X11_130_10 rfl dX11_keepAct_58 ?_
  refine lv_iconst (v := nI 1) hx hb dX11_keepAct_61 (by decide) ?_
  refine lv_iadd hx hb dX11_keepAct_62 ?_
  refine fx_ti (y := nI (ak - 1 + 1)) (nI_add _ _) ?_
  refine fx_putT C hH (k := 8) h4_x ff_X11_130_10 fL_10 fT_10_8 rfl rfl (Nat.le_of_ble_eq_true rfl) dX11_keepAct_63 (fun H locs hH => ?_)
  have hH : fx_H G base s (fx_up (fx_up (fx_up (fx_up f x (oO 10 [.ref ra, .ref tp, .ref tc, .ref ro, .ref tr, .ref ia, .ref aa, .int (nI ((oa + 1) % 24)), .int (nI (ak - 1)), .int fa, .int fi])) tg (oO 4 [.ref k2, .ref w, .int pl, .int wy, .int se, .int to, .int lf, .int ta])) k2 (oJ 13 (cpJ q q2))) x (oO 10 [.ref ra, .ref tp, .ref tc, .ref ro, .ref tr, .ref ia, .ref aa, .int (nI ((oa + 1) % 24)), .int (nI (ak - 1 + 1)), .int fa, .int fi])) sz H locs := hH
  rw [fx_up_c _ _ _ (fx_ne h4_k2 h4_x rfl), fx_up_c _ _ _ (fx_ne h4_tg h4_x rfl), fx_up_up] at hH
  have hH : fx_H G base s (fx_up (fx_up (fx_up f x (oO 10 [.ref ra, .ref tp, .ref tc, .ref ro, .ref tr, .ref ia, .ref aa, .int (nI ((oa + 1) % 24)), .int (nI (ak - 1 + 1)), .int fa, .int fi])) tg (oO 4 [.ref k2, .ref w, .int pl, .int wy, .int se, .int to, .int lf, .int ta])) k2 (oJ 13 (cpJ q q2))) sz H locs := hH
  have heq5 : fx_up (fx_up (fx_up (fx_up f x (oO 10 [.ref ra, .ref tp, .ref tc, .ref ro, .ref tr, .ref ia, .ref aa, .int (nI ((oa + 1) % 24)), .int (nI (ak - 1)), .int fa, .int fi])) tg (oO 4 [.ref k2, .ref w, .int pl, .int wy, .int se, .int to, .int lf, .int ta])) k2 (oJ 13 (cpJ q q2))) x (oO 10 [.ref ra, .ref tp, .ref tc, .ref ro, .ref tr, .ref ia, .ref aa, .int (nI ((oa + 1) % 24)), .int (nI (ak - 1 + 1)), .int fa, .int fi]) = fx_up (fx_up (fx_up f x (oO 10 [.ref ra, .ref tp, .ref tc, .ref ro, .ref tr, .ref ia, .ref aa, .int (nI ((oa + 1) % 24)), .int (nI (ak - 1 + 1)), .int fa, .int fi])) tg (oO 4 [.ref k2, .ref w, .int pl, .int wy, .int se, .int to, .int lf, .int ta])) k2 (oJ 13 (cpJ q q2)) := by rw [fx_up_c _ _ _ (fx_ne h4_k2 h4_x rfl), fx_up_c _ _ _ (fx_ne h4_tg h4_x rfl), fx_up_up]
  have h5_ro : (fx_up (fx_up (fx_up f x (oO 10 [.ref ra, .ref tp, .ref tc, .ref ro, .ref tr, .ref ia, .ref aa, .int (nI ((oa + 1) % 24)), .int (nI (ak - 1 + 1)), .int fa, .int fi])) tg (oO 4 [.ref k2, .ref w, .int pl, .int wy, .int se, .int to, .int lf, .int ta])) k2 (oJ 13 (cpJ q q2))) ro = some (oO 4 [.ref k, .ref w, .int pl, .int wy, .int se, .int to, .int lf, .int ta]) := (congrFun heq5 ro).symm.trans ((fx_up_n _ _ (fx_ne h4_ro h4_x rfl)).trans h4_ro)
  have h5_k : (fx_up (fx_up (fx_up f x (oO 10 [.ref ra, .ref tp, .ref tc, .ref ro, .ref tr, .ref ia, .ref aa, .int (nI ((oa + 1) % 24)), .int (nI (ak - 1 + 1)), .int fa, .int fi])) tg (oO 4 [.ref k2, .ref w, .int pl, .int wy, .int se, .int to, .int lf, .int ta])) k2 (oJ 13 (cpJ q q2))) k = some (oJ 13 q) := (congrFun heq5 k).symm.trans ((fx_up_n _ _ (fx_ne h4_k h4_x rfl)).trans h4_k)
  have h5_aa : (fx_up (fx_up (fx_up f x (oO 10 [.ref ra, .ref tp, .ref tc, .ref ro, .ref tr, .ref ia, .ref aa, .int (nI ((oa + 1) % 24)), .int (nI (ak - 1 + 1)), .int fa, .int fi])) tg (oO 4 [.ref k2, .ref w, .int pl, .int wy, .int se, .int to, .int lf, .int ta])) k2 (oJ 13 (cpJ q q2))) aa = some (oR 3 24 ga) := (congrFun heq5 aa).symm.trans ((fx_up_n _ _ (fx_ne h4_aa h4_x rfl)).trans h4_aa)
  have h5_tg : (fx_up (fx_up (fx_up f x (oO 10 [.ref ra, .ref tp, .ref tc, .ref ro, .ref tr, .ref ia, .ref aa, .int (nI ((oa + 1) % 24)), .int (nI (ak - 1 + 1)), .int fa, .int fi])) tg (oO 4 [.ref k2, .ref w, .int pl, .int wy, .int se, .int to, .int lf, .int ta])) k2 (oJ 13 (cpJ q q2))) tg = some (oO 4 [.ref k2, .ref w, .int pl, .int wy, .int se, .int to, .int lf, .int ta]) := (congrFun heq5 tg).symm.trans ((fx_up_n _ _ (fx_ne h4_tg h4_x rfl)).trans h4_tg)
  have h5_k2 : (fx_up (fx_up (fx_up f x (oO 10 [.ref ra, .ref tp, .ref tc, .ref ro, .ref tr, .ref ia, .ref aa, .int (nI ((oa + 1) % 24)), .int (nI (ak - 1 + 1)), .int fa, .int fi])) tg (oO 4 [.ref k2, .ref w, .int pl, .int wy, .int se, .int to, .int lf, .int ta])) k2 (oJ 13 (cpJ q q2))) k2 = some (oJ 13 (cpJ q q2)) := (congrFun heq5 k2).symm.trans ((fx_up_n _ _ (fx_ne h4_k2 h4_x rfl)).trans h4_k2)
  have h5_x : (fx_up (fx_up (fx_up f x (oO 10 [.ref ra, .ref tp, .ref tc, .ref ro, .ref tr, .ref ia, .ref aa, .int (nI ((oa + 1) % 24)), .int (nI (ak - 1 + 1)), .int fa, .int fi])) tg (oO 4 [.ref k2, .ref w, .int pl, .int wy, .int se, .int to, .int lf, .int ta])) k2 (oJ 13 (cpJ q q2))) x = some (oO 10 [.ref ra, .ref tp, .ref tc, .ref ro, .ref tr, .ref ia, .ref aa, .int (nI ((oa + 1) % 24)), .int (nI (ak - 1 + 1)), .int fa, .int fi]) := (congrFun heq5 x).symm.trans (fx_up_s _ _ _)
  exact fx_vret C hr hk hH rfl rfl (Nat.zero_le _) (Nat.zero_le _) dX11_keepAct_66
