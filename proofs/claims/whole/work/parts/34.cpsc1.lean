abbrev rm_X11_row : Room := { frames := 2, cells := 0, slots := 0, locals := 43 }
set_option maxHeartbeats 4000000 in
set_option maxRecDepth 100000 in
theorem c_X11_row_n {G : GG} {base : Nat} {l : Launch} {f : Hp} {sz : Nat} {Po : Option Value → Hp → Nat → Prop} {x : Nat} {r : Int32} {ln : Int32} {n : Int32} {ra : Nat} {tp : Nat} {tc : Nat} {ro : Nat} {tr : Nat} {ia : Nat} {aa : Nat} {oa : Int32} {ak : Int32} {fa : Int32} {fi : Int32} (h_x : f x = some (oO 10 [.ref ra, .ref tp, .ref tc, .ref ro, .ref tr, .ref ia, .ref aa, .int oa, .int ak, .int fa, .int fi])) (hr0 : ¬ (¬ r < nI 0 ∧ ¬ nI 7 < r)) (K1 : Po (some (.int (-1000001))) f sz) : fx_MP G base l yX11_row cX11_row 5 (some .int) rm_X11_row [.ref x, .int r, .int ln, .int n] f sz Po := by
  refine fx_ofP (by decide +kernel) (Nat.le_of_ble_eq_true rfl) ?_
  intro p e s m args below meth c C hr hk hnm hH ls hl
  obtain ⟨locs, hlocs⟩ : ∃ L : List Loc, L = [] := ⟨_, rfl⟩
  rw [← hlocs] at hH ⊢
  generalize s.heap = H at hH ⊢
  have hx := C.1
  have hb := C.2.1
  have hl : lv_has ls 5 [(0, .ref x), (1, .int r), (2, .int ln), (3, .int n)] := hl
  refine lv_aload_n hx hb dX11_row_0 rfl (lv_at hl 0 rfl) ?_
  refine lv_iload_n hx hb dX11_row_1 rfl (lv_at hl 1 rfl) ?_
  refine fx_go1 hH (fx_runV C hH hl.1 (As := [.int r]) (rest := []) (c_X11_rowAt_n (G := G) (base := base) (l := l) (f := f) (sz := sz) (x := x) (r := r) (ra := ra) (tp := tp) (tc := tc) (ro := ro) (tr := tr) (ia := ia) (aa := aa) (oa := oa) (ak := ak) (fa := fa) (fi := fi) h_x hr0) mY_X11_rowAt ml_X11_52 im_X11_rowAt se_X11_X11_rowAt h_x rfl rfl ⟨(Nat.le_of_ble_eq_true rfl), (Nat.le_of_ble_eq_true rfl)⟩ rfl (Nat.le_of_ble_eq_true rfl) ⟨(Nat.le_of_ble_eq_true rfl), (Nat.le_of_ble_eq_true rfl)⟩ dX11_row_2) (fun H locs hH => ?_)
  refine lv_astoreN (lv' := [(4, .null), (0, .ref x), (1, .int r), (2, .int ln), (3, .int n)]) hx hb dX11_row_5 hl (by decide) rfl (fun ls hl => ?_)
  refine lv_aloadN hx hb dX11_row_7 (lv_at hl 0 rfl) ?_
  refine lv_ifnullN (tgt := 27) hx hb dX11_row_9 (by decide) ?_
  refine lv_ldc (v := (-1000001)) hx hb C.2.2.2.1 (C.2.2.2.2.1 _ kI_X11_60 rfl args) dX11_row_27 ?_
  exact fx_iretP C hr hk hH (K1 ) (Nat.zero_le _) (Nat.zero_le _) dX11_row_29
set_option maxHeartbeats 4000000 in
set_option maxRecDepth 100000 in
theorem c_X11_row_k {G : GG} {base : Nat} {l : Launch} {f : Hp} {sz : Nat} {Po : Option Value → Hp → Nat → Prop} {x : Nat} {kk : Nat} {ln : Int32} {n : Int32} {ra : Nat} {tp : Nat} {tc : Nat} {ro : Nat} {tr : Nat} {ia : Nat} {aa : Nat} {oa : Int32} {ak : Int32} {fa : Int32} {fi : Int32} {gr : Nat → Option Nat} {rr : Nat} {ri_ : Nat} {mi : Int32} {la : Int32} {sn : Nat} {g : Nat → Int32} (h_x : f x = some (oO 10 [.ref ra, .ref tp, .ref tc, .ref ro, .ref tr, .ref ia, .ref aa, .int oa, .int ak, .int fa, .int fi])) (h_ra : f ra = some (oR 4 8 gr)) (h_rr : f rr = some (oO 6 [.ref ri_, .int mi, .int la, .int (nI sn)])) (h_ri_ : f ri_ = some (oI 40 g)) (hkk : kk < 8) (hg : gr kk = some rr) (hsn : sn ≤ 40) (K1 : ∀ (c18 : ¬ (¬ ln < (nI 0) ∧ ¬ (nI 2) < ln)), Po (some (.int (-1000001))) f sz)
    (K2 : ∀ (c18 : (¬ ln < (nI 0) ∧ ¬ (nI 2) < ln)), ∀ (c24 : n ≤ (nI 40)), ∀ (c31 : (0 : Int32) ≤ n), Po (some (.int n)) (fx_up (fx_up (fx_up f rr (oO 6 [.ref ri_, .int (nI 0), .int ln, .int n])) ri_ (oI 40 (fI g 0 (fun _ => nI 0) 40))) x (oO 10 [.ref ra, .ref tp, .ref tc, .ref ro, .ref tr, .ref ia, .ref aa, .int oa, .int ak, .int fa, .int (nI 0)])) sz)
    (K3 : ∀ (c18 : (¬ ln < (nI 0) ∧ ¬ (nI 2) < ln)), ∀ (c24 : n ≤ (nI 40)), ∀ (c31 : ¬ (0 : Int32) ≤ n), Po (some (.int ((-1000010) - (nI 4)))) (fx_up f x (oO 10 [.ref ra, .ref tp, .ref tc, .ref ro, .ref tr, .ref ia, .ref aa, .int oa, .int ak, .int fa, .int (nI 4)])) sz)
    (K4 : ∀ (c18 : (¬ ln < (nI 0) ∧ ¬ (nI 2) < ln)), ∀ (c24 : ¬ n ≤ (nI 40)), Po (some (.int (-1000001))) f sz) : fx_MP G base l yX11_row cX11_row 5 (some .int) rm_X11_row [.ref x, .int (nI kk), .int ln, .int n] f sz Po := by
  refine fx_ofP (by decide +kernel) (Nat.le_of_ble_eq_true rfl) ?_
  intro p e s m args below meth c C hr hk hnm hH ls hl
  obtain ⟨locs, hlocs⟩ : ∃ L : List Loc, L = [] := ⟨_, rfl⟩
  rw [← hlocs] at hH ⊢
  generalize s.heap = H at hH ⊢
  have hx := C.1
  have hb := C.2.1
  have hl : lv_has ls 5 [(0, .ref x), (1, .int (nI kk)), (2, .int ln), (3, .int n)] := hl
  refine lv_aload_n hx hb dX11_row_0 rfl (lv_at hl 0 rfl) ?_
  refine lv_iload_n hx hb dX11_row_1 rfl (lv_at hl 1 rfl) ?_
  refine fx_go1 hH (fx_runV C hH hl.1 (As := [.int (nI kk)]) (rest := []) (c_X11_rowAt_k (G := G) (base := base) (l := l) (f := f) (sz := sz) (rr := rr) (x := x) (kk := kk) (ra := ra) (tp := tp) (tc := tc) (ro := ro) (tr := tr) (ia := ia) (aa := aa) (oa := oa) (ak := ak) (fa := fa) (fi := fi) (gr := gr) h_x h_ra (by omega) hg) mY_X11_rowAt ml_X11_52 im_X11_rowAt se_X11_X11_rowAt h_x rfl rfl ⟨(Nat.le_of_ble_eq_true rfl), (Nat.le_of_ble_eq_true rfl)⟩ rfl (Nat.le_of_ble_eq_true rfl) ⟨(Nat.le_of_ble_eq_true rfl), (Nat.le_of_ble_eq_true rfl)⟩ dX11_row_2) (fun H locs hH => ?_)
  refine lv_astore (lv' := [(4, .ref rr), (0, .ref x), (1, .int (nI kk)), (2, .int ln), (3, .int n)]) hx hb dX11_row_5 hl (by decide) rfl (fun ls hl => ?_)
  refine lv_aload hx hb dX11_row_7 (lv_at hl 0 rfl) ?_
  refine lv_ifnull hx hb dX11_row_9 ?_
  refine lv_iload_n hx hb dX11_row_12 rfl (lv_at hl 3 rfl) ?_
  refine lv_iconst (v := nI 0) hx hb dX11_row_13 (by decide) ?_
  refine lv_iconst (v := nI 2) hx hb dX11_row_14 (by decide) ?_
  refine fx_go1 hH (fx_runS C hH hl.1 (As := [.int ln, .int (nI 0), .int (nI 2)]) (rest := []) (c_X11_within (G := G) (base := base) (l := l) (f := f) (sz := sz) (n := ln) (lo := nI 0) (hi := nI 2) ) mY_X11_within ml_X11_56 st_X11_within rfl ⟨(Nat.le_of_ble_eq_true rfl), (Nat.le_of_ble_eq_true rfl)⟩ rfl (Nat.le_of_ble_eq_true rfl) ⟨(Nat.le_of_ble_eq_true rfl), (Nat.le_of_ble_eq_true rfl)⟩ dX11_row_15) (fun H locs hH => ?_)
  refine fx_b_eq hx hb (tgt := 27) dX11_row_18 (by decide) (fun c18 => ?_) (fun c18 => ?_)
  · refine lv_ldc (v := (-1000001)) hx hb C.2.2.2.1 (C.2.2.2.2.1 _ kI_X11_60 rfl args) dX11_row_27 ?_
    exact fx_iretP C hr hk hH (K1 c18) (Nat.zero_le _) (Nat.zero_le _) dX11_row_29
  · refine lv_iload_n hx hb dX11_row_21 rfl (lv_at hl 4 rfl) ?_
    refine lv_bipush (v := nI 40) hx hb dX11_row_22 (by decide) ?_
    refine lv_icmp_le hx hb (tgt := 30) dX11_row_24 (by decide) (fun c24 => ?_) (fun c24 => ?_)
    · refine lv_iload_n hx hb dX11_row_30 rfl (lv_at hl 4 rfl) ?_
      refine lv_if_ge hx hb (tgt := 40) dX11_row_31 (by decide) (fun c31 => ?_) (fun c31 => ?_)
      · refine lv_aload hx hb dX11_row_40 (lv_at hl 0 rfl) ?_
        refine lv_iload_n hx hb dX11_row_42 rfl (lv_at hl 3 rfl) ?_
        refine lv_iload_n hx hb dX11_row_43 rfl (lv_at hl 4 rfl) ?_
        refine fx_go0 hH (fx_runV C hH hl.1 (As := [.int ln, .int n]) (rest := []) (c_X6_lay (G := G) (base := base) (l := l) (f := f) (sz := sz) (r := rr) (ln := ln) (n := n) (it := ri_) (mi := mi) (la := la) (si := nI sn) (g := g) h_rr h_ri_) mY_X6_lay ml_X11_65 im_X6_lay se_X6_X6_lay h_rr rfl rfl ⟨(Nat.le_of_ble_eq_true rfl), (Nat.le_of_ble_eq_true rfl)⟩ rfl (Nat.le_of_ble_eq_true rfl) ⟨(Nat.le_of_ble_eq_true rfl), (Nat.le_of_ble_eq_true rfl)⟩ dX11_row_44) (fun H locs hH => ?_)
        have hH : fx_H G base s (fx_up (fx_up f rr (oO 6 [.ref ri_, .int (nI 0), .int ln, .int n])) ri_ (oI 40 (fI g 0 (fun _ => nI 0) 40))) sz H locs := hH
        have h1_x : (fx_up f rr (oO 6 [.ref ri_, .int (nI 0), .int ln, .int n])) x = some (oO 10 [.ref ra, .ref tp, .ref tc, .ref ro, .ref tr, .ref ia, .ref aa, .int oa, .int ak, .int fa, .int fi]) := (fx_up_n _ _ (fx_ne h_x h_rr rfl)).trans h_x
        have h1_ra : (fx_up f rr (oO 6 [.ref ri_, .int (nI 0), .int ln, .int n])) ra = some (oR 4 8 gr) := (fx_up_n _ _ (fx_ne h_ra h_rr rfl)).trans h_ra
        have h1_ri_ : (fx_up f rr (oO 6 [.ref ri_, .int (nI 0), .int ln, .int n])) ri_ = some (oI 40 g) := (fx_up_n _ _ (fx_ne h_ri_ h_rr rfl)).trans h_ri_
        have h1_rr : (fx_up f rr (oO 6 [.ref ri_, .int (nI 0), .int ln, .int n])) rr = some (oO 6 [.ref ri_, .int (nI 0), .int ln, .int n]) := fx_up_s _ _ _
        have h2_x : (fx_up (fx_up f rr (oO 6 [.ref ri_, .int (nI 0), .int ln, .int n])) ri_ (oI 40 (fI g 0 (fun _ => nI 0) 40))) x = some (oO 10 [.ref ra, .ref tp, .ref tc, .ref ro, .ref tr, .ref ia, .ref aa, .int oa, .int ak, .int fa, .int fi]) := (fx_up_n _ _ (fx_ne h1_x h1_ri_ rfl)).trans h1_x
        have h2_ra : (fx_up (fx_up f rr (oO 6 [.ref ri_, .int (nI 0), .int ln, .int n])) ri_ (oI 40 (fI g 0 (fun _ => nI 0) 40))) ra = some (oR 4 8 gr) := (fx_up_n _ _ (fx_ne h1_ra h1_ri_ rfl)).trans h1_ra
        have h2_rr : (fx_up (fx_up f rr (oO 6 [.ref ri_, .int (nI 0), .int ln, .int n])) ri_ (oI 40 (fI g 0 (fun _ => nI 0) 40))) rr = some (oO 6 [.ref ri_, .int (nI 0), .int ln, .int n]) := (fx_up_n _ _ (fx_ne h1_rr h1_ri_ rfl)).trans h1_rr
        have h2_ri_ : (fx_up (fx_up f rr (oO 6 [.ref ri_, .int (nI 0), .int ln, .int n])) ri_ (oI 40 (fI g 0 (fun _ => nI 0) 40))) ri_ = some (oI 40 (fI g 0 (fun _ => nI 0) 40)) := fx_up_s _ _ _
        have hH : fx_H G base s (fx_up (fx_up f rr (oO 6 [.ref ri_, .int (nI 0), .int ln, .int n])) ri_ (oI 40 (fI g 0 (fun _ => nI 0) 40))) sz H locs := hH
        refine lv_aload_n hx hb dX11_row_47 rfl (lv_at hl 1 rfl) ?_
        refine lv_iload_n hx hb dX11_row_48 rfl (lv_at hl 4 rfl) ?_
        refine fx_go1 hH (fx_runV C hH hl.1 (As := [.int n]) (rest := []) (c_X11_unfound (G := G) (base := base) (l := l) (f := fx_up (fx_up f rr (oO 6 [.ref ri_, .int (nI 0), .int ln, .int n])) ri_ (oI 40 (fI g 0 (fun _ => nI 0) 40))) (sz := sz) (x := x) (nn := n) (ra := ra) (tp := tp) (tc := tc) (ro := ro) (tr := tr) (ia := ia) (aa := aa) (oa := oa) (ak := ak) (fa := fa) (fi := fi) h2_x) mY_X11_unfound ml_X11_69 im_X11_unfound se_X11_X11_unfound h2_x rfl rfl ⟨(Nat.le_of_ble_eq_true rfl), (Nat.le_of_ble_eq_true rfl)⟩ rfl (Nat.le_of_ble_eq_true rfl) ⟨(Nat.le_of_ble_eq_true rfl), (Nat.le_of_ble_eq_true rfl)⟩ dX11_row_49) (fun H locs hH => ?_)
        have hH : fx_H G base s (fx_up (fx_up (fx_up f rr (oO 6 [.ref ri_, .int (nI 0), .int ln, .int n])) ri_ (oI 40 (fI g 0 (fun _ => nI 0) 40))) x (oO 10 [.ref ra, .ref tp, .ref tc, .ref ro, .ref tr, .ref ia, .ref aa, .int oa, .int ak, .int fa, .int (nI 0)])) sz H locs := hH
        have h3_ra : (fx_up (fx_up (fx_up f rr (oO 6 [.ref ri_, .int (nI 0), .int ln, .int n])) ri_ (oI 40 (fI g 0 (fun _ => nI 0) 40))) x (oO 10 [.ref ra, .ref tp, .ref tc, .ref ro, .ref tr, .ref ia, .ref aa, .int oa, .int ak, .int fa, .int (nI 0)])) ra = some (oR 4 8 gr) := (fx_up_n _ _ (fx_ne h2_ra h2_x rfl)).trans h2_ra
        have h3_rr : (fx_up (fx_up (fx_up f rr (oO 6 [.ref ri_, .int (nI 0), .int ln, .int n])) ri_ (oI 40 (fI g 0 (fun _ => nI 0) 40))) x (oO 10 [.ref ra, .ref tp, .ref tc, .ref ro, .ref tr, .ref ia, .ref aa, .int oa, .int ak, .int fa, .int (nI 0)])) rr = some (oO 6 [.ref ri_, .int (nI 0), .int ln, .int n]) := (fx_up_n _ _ (fx_ne h2_rr h2_x rfl)).trans h2_rr
        have h3_ri_ : (fx_up (fx_up (fx_up f rr (oO 6 [.ref ri_, .int (nI 0), .int ln, .int n])) ri_ (oI 40 (fI g 0 (fun _ => nI 0) 40))) x (oO 10 [.ref ra, .ref tp, .ref tc, .ref ro, .ref tr, .ref ia, .ref aa, .int oa, .int ak, .int fa, .int (nI 0)])) ri_ = some (oI 40 (fI g 0 (fun _ => nI 0) 40)) := (fx_up_n _ _ (fx_ne h2_ri_ h2_x rfl)).trans h2_ri_
        have h3_x : (fx_up (fx_up (fx_up f rr (oO 6 [.ref ri_, .int (nI 0), .int ln, .int n])) ri_ (oI 40 (fI g 0 (fun _ => nI 0) 40))) x (oO 10 [.ref ra, .ref tp, .ref tc, .ref ro, .ref tr, .ref ia, .ref aa, .int oa, .int ak, .int fa, .int (nI 0)])) x = some (oO 10 [.ref ra, .ref tp, .ref tc, .ref ro, .ref tr, .ref ia, .ref aa, .int oa, .int ak, .int fa, .int (nI 0)]) := fx_up_s _ _ _
        have hH : fx_H G base s (fx_up (fx_up (fx_up f rr (oO 6 [.ref ri_, .int (nI 0), .int ln, .int n])) ri_ (oI 40 (fI g 0 (fun _ => nI 0) 40))) x (oO 10 [.ref ra, .ref tp, .ref tc, .ref ro, .ref tr, .ref ia, .ref aa, .int oa, .int ak, .int fa, .int (nI 0)])) sz H locs := hH
        exact fx_iretP C hr hk hH (K2 c18 c24 c31) (Nat.zero_le _) (Nat.zero_le _) dX11_row_52
      · refine lv_aload_n hx hb dX11_row_34 rfl (lv_at hl 1 rfl) ?_
        refine lv_iconst (v := nI 4) hx hb dX11_row_35 (by decide) ?_
        refine fx_go1 hH (fx_runV C hH hl.1 (As := [.int (nI 4)]) (rest := []) (c_X11_finding (G := G) (base := base) (l := l) (f := f) (sz := sz) (x := x) (nn := nI 4) (ra := ra) (tp := tp) (tc := tc) (ro := ro) (tr := tr) (ia := ia) (aa := aa) (oa := oa) (ak := ak) (fa := fa) (fi := fi) h_x) mY_X11_finding ml_X11_61 im_X11_finding se_X11_X11_finding h_x rfl rfl ⟨(Nat.le_of_ble_eq_true rfl), (Nat.le_of_ble_eq_true rfl)⟩ rfl (Nat.le_of_ble_eq_true rfl) ⟨(Nat.le_of_ble_eq_true rfl), (Nat.le_of_ble_eq_true rfl)⟩ dX11_row_36) (fun H locs hH => ?_)
        have hH : fx_H G base s (fx_up f x (oO 10 [.ref ra, .ref tp, .ref tc, .ref ro, .ref tr, .ref ia, .ref aa, .int oa, .int ak, .int fa, .int (nI 4)])) sz H locs := hH
        have h4_ra : (fx_up f x (oO 10 [.ref ra, .ref tp, .ref tc, .ref ro, .ref tr, .ref ia, .ref aa, .int oa, .int ak, .int fa, .int (nI 4)])) ra = some (oR 4 8 gr) := (fx_up_n _ _ (fx_ne h_ra h_x rfl)).trans h_ra
        have h4_rr : (fx_up f x (oO 10 [.ref ra, .ref tp, .ref tc, .ref ro, .ref tr, .ref ia, .ref aa, .int oa, .int ak, .int fa, .int (nI 4)])) rr = some (oO 6 [.ref ri_, .int mi, .int la, .int (nI sn)]) := (fx_up_n _ _ (fx_ne h_rr h_x rfl)).trans h_rr
        have h4_ri_ : (fx_up f x (oO 10 [.ref ra, .ref tp, .ref tc, .ref ro, .ref tr, .ref ia, .ref aa, .int oa, .int ak, .int fa, .int (nI 4)])) ri_ = some (oI 40 g) := (fx_up_n _ _ (fx_ne h_ri_ h_x rfl)).trans h_ri_
        have h4_x : (fx_up f x (oO 10 [.ref ra, .ref tp, .ref tc, .ref ro, .ref tr, .ref ia, .ref aa, .int oa, .int ak, .int fa, .int (nI 4)])) x = some (oO 10 [.ref ra, .ref tp, .ref tc, .ref ro, .ref tr, .ref ia, .ref aa, .int oa, .int ak, .int fa, .int (nI 4)]) := fx_up_s _ _ _
        have hH : fx_H G base s (fx_up f x (oO 10 [.ref ra, .ref tp, .ref tc, .ref ro, .ref tr, .ref ia, .ref aa, .int oa, .int ak, .int fa, .int (nI 4)])) sz H locs := hH
        exact fx_iretP C hr hk hH (K3 c18 c24 c31) (Nat.zero_le _) (Nat.zero_le _) dX11_row_39
    · refine lv_ldc (v := (-1000001)) hx hb C.2.2.2.1 (C.2.2.2.2.1 _ kI_X11_60 rfl args) dX11_row_27 ?_
      exact fx_iretP C hr hk hH (K4 c18 c24) (Nat.zero_le _) (Nat.zero_le _) dX11_row_29
abbrev rm_X11_set : Room := { frames := 2, cells := 0, slots := 0, locals := 43 }
set_option maxHeartbeats 4000000 in
set_option maxRecDepth 100000 in
theorem c_X11_set_n {G : GG} {base : Nat} {l : Launch} {f : Hp} {sz : Nat} {Po : Option Value → Hp → Nat → Prop} {x : Nat} {r : Int32} {i : Int32} {v : Int32} {ra : Nat} {tp : Nat} {tc : Nat} {ro : Nat} {tr : Nat} {ia : Nat} {aa : Nat} {oa : Int32} {ak : Int32} {fa : Int32} {fi : Int32} (h_x : f x = some (oO 10 [.ref ra, .ref tp, .ref tc, .ref ro, .ref tr, .ref ia, .ref aa, .int oa, .int ak, .int fa, .int fi])) (hr0 : ¬ (¬ r < nI 0 ∧ ¬ nI 7 < r)) (K1 : Po (some (.int (-1000001))) f sz) : fx_MP G base l yX11_set cX11_set 5 (some .int) rm_X11_set [.ref x, .int r, .int i, .int v] f sz Po := by
  refine fx_ofP (by decide +kernel) (Nat.le_of_ble_eq_true rfl) ?_
  intro p e s m args below meth c C hr hk hnm hH ls hl
  obtain ⟨locs, hlocs⟩ : ∃ L : List Loc, L = [] := ⟨_, rfl⟩
  rw [← hlocs] at hH ⊢
  generalize s.heap = H at hH ⊢
  have hx := C.1
  have hb := C.2.1
  have hl : lv_has ls 5 [(0, .ref x), (1, .int r), (2, .int i), (3, .int v)] := hl
  refine lv_aload_n hx hb dX11_set_0 rfl (lv_at hl 0 rfl) ?_
  refine lv_iload_n hx hb dX11_set_1 rfl (lv_at hl 1 rfl) ?_
  refine fx_go1 hH (fx_runV C hH hl.1 (As := [.int r]) (rest := []) (c_X11_rowAt_n (G := G) (base := base) (l := l) (f := f) (sz := sz) (x := x) (r := r) (ra := ra) (tp := tp) (tc := tc) (ro := ro) (tr := tr) (ia := ia) (aa := aa) (oa := oa) (ak := ak) (fa := fa) (fi := fi) h_x hr0) mY_X11_rowAt ml_X11_52 im_X11_rowAt se_X11_X11_rowAt h_x rfl rfl ⟨(Nat.le_of_ble_eq_true rfl), (Nat.le_of_ble_eq_true rfl)⟩ rfl (Nat.le_of_ble_eq_true rfl) ⟨(Nat.le_of_ble_eq_true rfl), (Nat.le_of_ble_eq_true rfl)⟩ dX11_set_2) (fun H locs hH => ?_)
  refine lv_astoreN (lv' := [(4, .null), (0, .ref x), (1, .int r), (2, .int i), (3, .int v)]) hx hb dX11_set_5 hl (by decide) rfl (fun ls hl => ?_)
  refine lv_aloadN hx hb dX11_set_7 (lv_at hl 0 rfl) ?_
  refine lv_ifnonnullN hx hb dX11_set_9 ?_
  refine lv_ldc (v := (-1000001)) hx hb C.2.2.2.1 (C.2.2.2.2.1 _ kI_X11_60 rfl args) dX11_set_12 ?_
  exact fx_iretP C hr hk hH (K1 ) (Nat.zero_le _) (Nat.zero_le _) dX11_set_14
set_option maxHeartbeats 4000000 in
set_option maxRecDepth 100000 in
theorem c_X11_set_k {G : GG} {base : Nat} {l : Launch} {f : Hp} {sz : Nat} {Po : Option Value → Hp → Nat → Prop} {x : Nat} {kk : Nat} {i : Int32} {v : Int32} {ra : Nat} {tp : Nat} {tc : Nat} {ro : Nat} {tr : Nat} {ia : Nat} {aa : Nat} {oa : Int32} {ak : Int32} {fa : Int32} {fi : Int32} {gr : Nat → Option Nat} {rr : Nat} {ri_ : Nat} {mi : Int32} {la : Int32} {sn : Nat} {g : Nat → Int32} (h_x : f x = some (oO 10 [.ref ra, .ref tp, .ref tc, .ref ro, .ref tr, .ref ia, .ref aa, .int oa, .int ak, .int fa, .int fi])) (h_ra : f ra = some (oR 4 8 gr)) (h_rr : f rr = some (oO 6 [.ref ri_, .int mi, .int la, .int (nI sn)])) (h_ri_ : f ri_ = some (oI 40 g)) (hkk : kk < 8) (hg : gr kk = some rr) (hsn : sn ≤ 40) (K1 : ∀ (c20 : mi = (0 : Int32)), ∀ (c36 : (¬ i < 0 ∧ ¬ (nI 1) < 0 ∧ ¬ (nI sn).toInt64 < i.toInt64 + (nI 1).toInt64)), ∀ (ix : Nat), ∀ (hix : ix + 1 ≤ sn), ∀ (hie : i = nI ix), Po (some (.int (pv la v))) (fx_up (fx_up f ri_ (oI 40 (upd g ix (pv la v)))) x (oO 10 [.ref ra, .ref tp, .ref tc, .ref ro, .ref tr, .ref ia, .ref aa, .int oa, .int ak, .int fa, .int (nI 0)])) sz)
    (K2 : ∀ (c20 : mi = (0 : Int32)), ∀ (c36 : ¬ (¬ i < 0 ∧ ¬ (nI 1) < 0 ∧ ¬ (nI sn).toInt64 < i.toInt64 + (nI 1).toInt64)), Po (some (.int ((-1000010) - (nI 2)))) (fx_up f x (oO 10 [.ref ra, .ref tp, .ref tc, .ref ro, .ref tr, .ref ia, .ref aa, .int oa, .int ak, .int fa, .int (nI 2)])) sz)
    (K3 : ∀ (c20 : ¬ mi = (0 : Int32)), Po (some (.int ((-1000010) - (nI 1)))) (fx_up f x (oO 10 [.ref ra, .ref tp, .ref tc, .ref ro, .ref tr, .ref ia, .ref aa, .int oa, .int ak, .int fa, .int (nI 1)])) sz) : fx_MP G base l yX11_set cX11_set 5 (some .int) rm_X11_set [.ref x, .int (nI kk), .int i, .int v] f sz Po := by
  refine fx_ofP (by decide +kernel) (Nat.le_of_ble_eq_true rfl) ?_
  intro p e s m args below meth c C hr hk hnm hH ls hl
  obtain ⟨locs, hlocs⟩ : ∃ L : List Loc, L = [] := ⟨_, rfl⟩
  rw [← hlocs] at hH ⊢
  generalize s.heap = H at hH ⊢
  have hx := C.1
  have hb := C.2.1
  have hl : lv_has ls 5 [(0, .ref x), (1, .int (nI kk)), (2, .int i), (3, .int v)] := hl
  refine lv_aload_n hx hb dX11_set_0 rfl (lv_at hl 0 rfl) ?_
  refine lv_iload_n hx hb dX11_set_1 rfl (lv_at hl 1 rfl) ?_
  refine fx_go1 hH (fx_runV C hH hl.1 (As := [.int (nI kk)]) (rest := []) (c_X11_rowAt_k (G := G) (base := base) (l := l) (f := f) (sz := sz) (rr := rr) (x := x) (kk := kk) (ra := ra) (tp := tp) (tc := tc) (ro := ro) (tr := tr) (ia := ia) (aa := aa) (oa := oa) (ak := ak) (fa := fa) (fi := fi) (gr := gr) h_x h_ra (by omega) hg) mY_X11_rowAt ml_X11_52 im_X11_rowAt se_X11_X11_rowAt h_x rfl rfl ⟨(Nat.le_of_ble_eq_true rfl), (Nat.le_of_ble_eq_true rfl)⟩ rfl (Nat.le_of_ble_eq_true rfl) ⟨(Nat.le_of_ble_eq_true rfl), (Nat.le_of_ble_eq_true rfl)⟩ dX11_set_2) (fun H locs hH => ?_)
  refine lv_astore (lv' := [(4, .ref rr), (0, .ref x), (1, .int (nI kk)), (2, .int i), (3, .int v)]) hx hb dX11_set_5 hl (by decide) rfl (fun ls hl => ?_)
  refine lv_aload hx hb dX11_set_7 (lv_at hl 0 rfl) ?_
  refine lv_ifnonnull (tgt := 15) hx hb dX11_set_9 (by decide) ?_
  refine lv_aload hx hb dX11_set_15 (lv_at hl 0 rfl) ?_
  refine fx_get C hH (k := 1) (v := .int mi) h_rr ff_X11_72_6 rfl dX11_set_17 ?_
  refine lv_if_eq hx hb (tgt := 29) dX11_set_20 (by decide) (fun c20 => ?_) (fun c20 => ?_)
  · refine lv_aload hx hb dX11_set_29 (lv_at hl 0 rfl) ?_
    refine lv_iload_n hx hb dX11_set_31 rfl (lv_at hl 3 rfl) ?_
    refine lv_iconst (v := nI 1) hx hb dX11_set_32 (by decide) ?_
    refine fx_go1 hH (fx_runV C hH hl.1 (As := [.int i, .int (nI 1)]) (rest := []) (c_X6_holds (G := G) (base := base) (l := l) (f := f) (sz := sz) (r := rr) (i := i) (n := nI 1) (it := ri_) (mi := mi) (la := la) (si := nI sn) h_rr) mY_X6_holds ml_X11_76 im_X6_holds se_X6_X6_holds h_rr rfl rfl ⟨(Nat.le_of_ble_eq_true rfl), (Nat.le_of_ble_eq_true rfl)⟩ rfl (Nat.le_of_ble_eq_true rfl) ⟨(Nat.le_of_ble_eq_true rfl), (Nat.le_of_ble_eq_true rfl)⟩ dX11_set_33) (fun H locs hH => ?_)
    refine fx_b_ne hx hb (tgt := 45) dX11_set_36 (by decide) (fun c36 => ?_) (fun c36 => ?_)
    · obtain ⟨ix, b_, hix, rfl, hb_⟩ := hld (by omega) c36
      have hb_ : b_ = 1 := by have := congrArg Int32.toInt hb_; rw [nI_toInt (by omega), nI_toInt (by omega)] at this; omega
      · skip
        refine lv_aload_n hx hb dX11_set_45 rfl (lv_at hl 1 rfl) ?_
        refine lv_aload hx hb dX11_set_46 (lv_at hl 0 rfl) ?_
        refine lv_iload_n hx hb dX11_set_48 rfl (lv_at hl 3 rfl) ?_
        refine lv_iload_n hx hb dX11_set_49 rfl (lv_at hl 4 rfl) ?_
        refine fx_go1 hH (fx_runV C hH hl.1 (As := [.int (nI ix), .int v]) (rest := [.ref x]) (c_X6_put (G := G) (base := base) (l := l) (f := f) (sz := sz) (r := rr) (i := ix) (v := v) (it := ri_) (mi := mi) (la := la) (si := nI sn) (g := g) h_rr h_ri_ (by omega)) mY_X6_put ml_X11_80 im_X6_put se_X6_X6_put h_rr rfl rfl ⟨(Nat.le_of_ble_eq_true rfl), (Nat.le_of_ble_eq_true rfl)⟩ rfl (Nat.le_of_ble_eq_true rfl) ⟨(Nat.le_of_ble_eq_true rfl), (Nat.le_of_ble_eq_true rfl)⟩ dX11_set_50) (fun H locs hH => ?_)
        have hH : fx_H G base s (fx_up f ri_ (oI 40 (upd g ix (pv la v)))) sz H locs := hH
        have h1_x : (fx_up f ri_ (oI 40 (upd g ix (pv la v)))) x = some (oO 10 [.ref ra, .ref tp, .ref tc, .ref ro, .ref tr, .ref ia, .ref aa, .int oa, .int ak, .int fa, .int fi]) := (fx_up_n _ _ (fx_ne h_x h_ri_ rfl)).trans h_x
        have h1_ra : (fx_up f ri_ (oI 40 (upd g ix (pv la v)))) ra = some (oR 4 8 gr) := (fx_up_n _ _ (fx_ne h_ra h_ri_ rfl)).trans h_ra
        have h1_rr : (fx_up f ri_ (oI 40 (upd g ix (pv la v)))) rr = some (oO 6 [.ref ri_, .int mi, .int la, .int (nI sn)]) := (fx_up_n _ _ (fx_ne h_rr h_ri_ rfl)).trans h_rr
        have h1_ri_ : (fx_up f ri_ (oI 40 (upd g ix (pv la v)))) ri_ = some (oI 40 (upd g ix (pv la v))) := fx_up_s _ _ _
        have hH : fx_H G base s (fx_up f ri_ (oI 40 (upd g ix (pv la v)))) sz H locs := hH
        refine fx_go1 hH (fx_runV C hH hl.1 (As := [.int (pv la v)]) (rest := []) (c_X11_unfound (G := G) (base := base) (l := l) (f := fx_up f ri_ (oI 40 (upd g ix (pv la v)))) (sz := sz) (x := x) (nn := pv la v) (ra := ra) (tp := tp) (tc := tc) (ro := ro) (tr := tr) (ia := ia) (aa := aa) (oa := oa) (ak := ak) (fa := fa) (fi := fi) h1_x) mY_X11_unfound ml_X11_69 im_X11_unfound se_X11_X11_unfound h1_x rfl rfl ⟨(Nat.le_of_ble_eq_true rfl), (Nat.le_of_ble_eq_true rfl)⟩ rfl (Nat.le_of_ble_eq_true rfl) ⟨(Nat.le_of_ble_eq_true rfl), (Nat.le_of_ble_eq_true rfl)⟩ dX11_set_53) (fun H locs hH => ?_)
        have hH : fx_H G base s (fx_up (fx_up f ri_ (oI 40 (upd g ix (pv la v)))) x (oO 10 [.ref ra, .ref tp, .ref tc, .ref ro, .ref tr, .ref ia, .ref aa, .int oa, .int ak, .int fa, .int (nI 0)])) sz H locs := hH
        have h2_ra : (fx_up (fx_up f ri_ (oI 40 (upd g ix (pv la v)))) x (oO 10 [.ref ra, .ref tp, .ref tc, .ref ro, .ref tr, .ref ia, .ref aa, .int oa, .int ak, .int fa, .int (nI 0)])) ra = some (oR 4 8 gr) := (fx_up_n _ _ (fx_ne h1_ra h1_x rfl)).trans h1_ra
        have h2_rr : (fx_up (fx_up f ri_ (oI 40 (upd g ix (pv la v)))) x (oO 10 [.ref ra, .ref tp, .ref tc, .ref ro, .ref tr, .ref ia, .ref aa, .int oa, .int ak, .int fa, .int (nI 0)])) rr = some (oO 6 [.ref ri_, .int mi, .int la, .int (nI sn)]) := (fx_up_n _ _ (fx_ne h1_rr h1_x rfl)).trans h1_rr
        have h2_ri_ : (fx_up (fx_up f ri_ (oI 40 (upd g ix (pv la v)))) x (oO 10 [.ref ra, .ref tp, .ref tc, .ref ro, .ref tr, .ref ia, .ref aa, .int oa, .int ak, .int fa, .int (nI 0)])) ri_ = some (oI 40 (upd g ix (pv la v))) := (fx_up_n _ _ (fx_ne h1_ri_ h1_x rfl)).trans h1_ri_
        have h2_x : (fx_up (fx_up f ri_ (oI 40 (upd g ix (pv la v)))) x (oO 10 [.ref ra, .ref tp, .ref tc, .ref ro, .ref tr, .ref ia, .ref aa, .int oa, .int ak, .int fa, .int (nI 0)])) x = some (oO 10 [.ref ra, .ref tp, .ref tc, .ref ro, .ref tr, .ref ia, .ref aa, .int oa, .int ak, .int fa, .int (nI 0)]) := fx_up_s _ _ _
        have hH : fx_H G base s (fx_up (fx_up f ri_ (oI 40 (upd g ix (pv la v)))) x (oO 10 [.ref ra, .ref tp, .ref tc, .ref ro, .ref tr, .ref ia, .ref aa, .int oa, .int ak, .int fa, .int (nI 0)])) sz H locs := hH
        exact fx_iretP C hr hk hH (K1 c20 c36 ix (by omega) rfl) (Nat.zero_le _) (Nat.zero_le _) dX11_set_56
    · refine lv_aload_n hx hb dX11_set_39 rfl (lv_at hl 1 rfl) ?_
      refine lv_iconst (v := nI 2) hx hb dX11_set_40 (by decide) ?_
      refine fx_go1 hH (fx_runV C hH hl.1 (As := [.int (nI 2)]) (rest := []) (c_X11_finding (G := G) (base := base) (l := l) (f := f) (sz := sz) (x := x) (nn := nI 2) (ra := ra) (tp := tp) (tc := tc) (ro := ro) (tr := tr) (ia := ia) (aa := aa) (oa := oa) (ak := ak) (fa := fa) (fi := fi) h_x) mY_X11_finding ml_X11_61 im_X11_finding se_X11_X11_finding h_x rfl rfl ⟨(Nat.le_of_ble_eq_true rfl), (Nat.le_of_ble_eq_true rfl)⟩ rfl (Nat.le_of_ble_eq_true rfl) ⟨(Nat.le_of_ble_eq_true rfl), (Nat.le_of_ble_eq_true rfl)⟩ dX11_set_41) (fun H locs hH => ?_)
      have hH : fx_H G base s (fx_up f x (oO 10 [.ref ra, .ref tp, .ref tc, .ref ro, .ref tr, .ref ia, .ref aa, .int oa, .int ak, .int fa, .int (nI 2)])) sz H locs := hH
      have h3_ra : (fx_up f x (oO 10 [.ref ra, .ref tp, .ref tc, .ref ro, .ref tr, .ref ia, .ref aa, .int oa, .int ak, .int fa, .int (nI 2)])) ra = some (oR 4 8 gr) := (fx_up_n _ _ (fx_ne h_ra h_x rfl)).trans h_ra
      have h3_rr : (fx_up f x (oO 10 [.ref ra, .ref tp, .ref tc, .ref ro, .ref tr, .ref ia, .ref aa, .int oa, .int ak, .int fa, .int (nI 2)])) rr = some (oO 6 [.ref ri_, .int mi, .int la, .int (nI sn)]) := (fx_up_n _ _ (fx_ne h_rr h_x rfl)).trans h_rr
      have h3_ri_ : (fx_up f x (oO 10 [.ref ra, .ref tp, .ref tc, .ref ro, .ref tr, .ref ia, .ref aa, .int oa, .int ak, .int fa, .int (nI 2)])) ri_ = some (oI 40 g) := (fx_up_n _ _ (fx_ne h_ri_ h_x rfl)).trans h_ri_
      have h3_x : (fx_up f x (oO 10 [.ref ra, .ref tp, .ref tc, .ref ro, .ref tr, .ref ia, .ref aa, .int oa, .int ak, .int fa, .int (nI 2)])) x = some (oO 10 [.ref ra, .ref tp, .ref tc, .ref ro, .ref tr, .ref ia, .ref aa, .int oa, .int ak, .int fa, .int (nI 2)]) := fx_up_s _ _ _
      have hH : fx_H G base s (fx_up f x (oO 10 [.ref ra, .ref tp, .ref tc, .ref ro, .ref tr, .ref ia, .ref aa, .int oa, .int ak, .int fa, .int (nI 2)])) sz H locs := hH
      exact fx_iretP C hr hk hH (K2 c20 c36) (Nat.zero_le _) (Nat.zero_le _) dX11_set_44
  · refine lv_aload_n hx hb dX11_set_23 rfl (lv_at hl 1 rfl) ?_
    refine lv_iconst (v := nI 1) hx hb dX11_set_24 (by decide) ?_
    refine fx_go1 hH (fx_runV C hH hl.1 (As := [.int (nI 1)]) (rest := []) (c_X11_finding (G := G) (base := base) (l := l) (f := f) (sz := sz) (x := x) (nn := nI 1) (ra := ra) (tp := tp) (tc := tc) (ro := ro) (tr := tr) (ia := ia) (aa := aa) (oa := oa) (ak := ak) (fa := fa) (fi := fi) h_x) mY_X11_finding ml_X11_61 im_X11_finding se_X11_X11_finding h_x rfl rfl ⟨(Nat.le_of_ble_eq_true rfl), (Nat.le_of_ble_eq_true rfl)⟩ rfl (Nat.le_of_ble_eq_true rfl) ⟨(Nat.le_of_ble_eq_true rfl), (Nat.le_of_ble_eq_true rfl)⟩ dX11_set_25) (fun H locs hH => ?_)
    have hH : fx_H G base s (fx_up f x (oO 10 [.ref ra, .ref tp, .ref tc, .ref ro, .ref tr, .ref ia, .ref aa, .int oa, .int ak, .int fa, .int (nI 1)])) sz H locs := hH
    have h4_ra : (fx_up f x (oO 10 [.ref ra, .ref tp, .ref tc, .ref ro, .ref tr, .ref ia, .ref aa, .int oa, .int ak, .int fa, .int (nI 1)])) ra = some (oR 4 8 gr) := (fx_up_n _ _ (fx_ne h_ra h_x rfl)).trans h_ra
    have h4_rr : (fx_up f x (oO 10 [.ref ra, .ref tp, .ref tc, .ref ro, .ref tr, .ref ia, .ref aa, .int oa, .int ak, .int fa, .int (nI 1)])) rr = some (oO 6 [.ref ri_, .int mi, .int la, .int (nI sn)]) := (fx_up_n _ _ (fx_ne h_rr h_x rfl)).trans h_rr
    have h4_ri_ : (fx_up f x (oO 10 [.ref ra, .ref tp, .ref tc, .ref ro, .ref tr, .ref ia, .ref aa, .int oa, .int ak, .int fa, .int (nI 1)])) ri_ = some (oI 40 g) := (fx_up_n _ _ (fx_ne h_ri_ h_x rfl)).trans h_ri_
    have h4_x : (fx_up f x (oO 10 [.ref ra, .ref tp, .ref tc, .ref ro, .ref tr, .ref ia, .ref aa, .int oa, .int ak, .int fa, .int (nI 1)])) x = some (oO 10 [.ref ra, .ref tp, .ref tc, .ref ro, .ref tr, .ref ia, .ref aa, .int oa, .int ak, .int fa, .int (nI 1)]) := fx_up_s _ _ _
    have hH : fx_H G base s (fx_up f x (oO 10 [.ref ra, .ref tp, .ref tc, .ref ro, .ref tr, .ref ia, .ref aa, .int oa, .int ak, .int fa, .int (nI 1)])) sz H locs := hH
    exact fx_iretP C hr hk hH (K3 c20) (Nat.zero_le _) (Nat.zero_le _) dX11_set_28
abbrev rm_X11_drop : Room := { frames := 2, cells := 0, slots := 0, locals := 43 }
set_option maxHeartbeats 4000000 in
set_option maxRecDepth 100000 in
theorem c_X11_drop_n {G : GG} {base : Nat} {l : Launch} {f : Hp} {sz : Nat} {Po : Option Value → Hp → Nat → Prop} {x : Nat} {r : Int32} {ra : Nat} {tp : Nat} {tc : Nat} {ro : Nat} {tr : Nat} {ia : Nat} {aa : Nat} {oa : Int32} {ak : Int32} {fa : Int32} {fi : Int32} (h_x : f x = some (oO 10 [.ref ra, .ref tp, .ref tc, .ref ro, .ref tr, .ref ia, .ref aa, .int oa, .int ak, .int fa, .int fi])) (hr0 : ¬ (¬ r < nI 0 ∧ ¬ nI 7 < r)) (K1 : Po (some (.int (-1000001))) f sz) : fx_MP G base l yX11_drop cX11_drop 3 (some .int) rm_X11_drop [.ref x, .int r] f sz Po := by
  refine fx_ofP (by decide +kernel) (Nat.le_of_ble_eq_true rfl) ?_
  intro p e s m args below meth c C hr hk hnm hH ls hl
  obtain ⟨locs, hlocs⟩ : ∃ L : List Loc, L = [] := ⟨_, rfl⟩
  rw [← hlocs] at hH ⊢
  generalize s.heap = H at hH ⊢
  have hx := C.1
  have hb := C.2.1
  have hl : lv_has ls 3 [(0, .ref x), (1, .int r)] := hl
  refine lv_aload_n hx hb dX11_drop_0 rfl (lv_at hl 0 rfl) ?_
  refine lv_iload_n hx hb dX11_drop_1 rfl (lv_at hl 1 rfl) ?_
  refine fx_go1 hH (fx_runV C hH hl.1 (As := [.int r]) (rest := []) (c_X11_rowAt_n (G := G) (base := base) (l := l) (f := f) (sz := sz) (x := x) (r := r) (ra := ra) (tp := tp) (tc := tc) (ro := ro) (tr := tr) (ia := ia) (aa := aa) (oa := oa) (ak := ak) (fa := fa) (fi := fi) h_x hr0) mY_X11_rowAt ml_X11_52 im_X11_rowAt se_X11_X11_rowAt h_x rfl rfl ⟨(Nat.le_of_ble_eq_true rfl), (Nat.le_of_ble_eq_true rfl)⟩ rfl (Nat.le_of_ble_eq_true rfl) ⟨(Nat.le_of_ble_eq_true rfl), (Nat.le_of_ble_eq_true rfl)⟩ dX11_drop_2) (fun H locs hH => ?_)
  refine lv_astore_nN (lv' := [(2, .null), (0, .ref x), (1, .int r)]) hx hb dX11_drop_5 rfl hl (by decide) rfl (fun ls hl => ?_)
  refine lv_aload_nN hx hb dX11_drop_6 rfl (lv_at hl 0 rfl) ?_
  refine lv_ifnonnullN hx hb dX11_drop_7 ?_
  refine lv_ldc (v := (-1000001)) hx hb C.2.2.2.1 (C.2.2.2.2.1 _ kI_X11_60 rfl args) dX11_drop_10 ?_
  exact fx_iretP C hr hk hH (K1 ) (Nat.zero_le _) (Nat.zero_le _) dX11_drop_12
set_option maxHeartbeats 4000000 in
set_option maxRecDepth 100000 in
theorem c_X11_drop_k {G : GG} {base : Nat} {l : Launch} {f : Hp} {sz : Nat} {Po : Option Value → Hp → Nat → Prop} {x : Nat} {kk : Nat} {ra : Nat} {tp : Nat} {tc : Nat} {ro : Nat} {tr : Nat} {ia : Nat} {aa : Nat} {oa : Int32} {ak : Int32} {fa : Int32} {fi : Int32} {gr : Nat → Option Nat} {rr : Nat} {ri_ : Nat} {mi : Int32} {la : Int32} {sn : Nat} {g : Nat → Int32} (h_x : f x = some (oO 10 [.ref ra, .ref tp, .ref tc, .ref ro, .ref tr, .ref ia, .ref aa, .int oa, .int ak, .int fa, .int fi])) (h_ra : f ra = some (oR 4 8 gr)) (h_rr : f rr = some (oO 6 [.ref ri_, .int mi, .int la, .int (nI sn)])) (h_ri_ : f ri_ = some (oI 40 g)) (hkk : kk < 8) (hg : gr kk = some rr) (hsn : sn ≤ 40) (K1 : ∀ (c17 : mi = (0 : Int32)), Po (some (.int (nI sn))) (fx_up (fx_up f rr (oO 6 [.ref ri_, .int (nI 1), .int la, .int (nI sn)])) x (oO 10 [.ref ra, .ref tp, .ref tc, .ref ro, .ref tr, .ref ia, .ref aa, .int oa, .int ak, .int fa, .int (nI 0)])) sz)
    (K2 : ∀ (c17 : ¬ mi = (0 : Int32)), Po (some (.int ((-1000010) - (nI 1)))) (fx_up f x (oO 10 [.ref ra, .ref tp, .ref tc, .ref ro, .ref tr, .ref ia, .ref aa, .int oa, .int ak, .int fa, .int (nI 1)])) sz) : fx_MP G base l yX11_drop cX11_drop 3 (some .int) rm_X11_drop [.ref x, .int (nI kk)] f sz Po := by
  refine fx_ofP (by decide +kernel) (Nat.le_of_ble_eq_true rfl) ?_
  intro p e s m args below meth c C hr hk hnm hH ls hl
  obtain ⟨locs, hlocs⟩ : ∃ L : List Loc, L = [] := ⟨_, rfl⟩
  rw [← hlocs] at hH ⊢
  generalize s.heap = H at hH ⊢
  have hx := C.1
  have hb := C.2.1
  have hl : lv_has ls 3 [(0, .ref x), (1, .int (nI kk))] := hl
  refine lv_aload_n hx hb dX11_drop_0 rfl (lv_at hl 0 rfl) ?_
  refine lv_iload_n hx hb dX11_drop_1 rfl (lv_at hl 1 rfl) ?_
  refine fx_go1 hH (fx_runV C hH hl.1 (As := [.int (nI kk)]) (rest := []) (c_X11_rowAt_k (G := G) (base := base) (l := l) (f := f) (sz := sz) (rr := rr) (x := x) (kk := kk) (ra := ra) (tp := tp) (tc := tc) (ro := ro) (tr := tr) (ia := ia) (aa := aa) (oa := oa) (ak := ak) (fa := fa) (fi := fi) (gr := gr) h_x h_ra (by omega) hg) mY_X11_rowAt ml_X11_52 im_X11_rowAt se_X11_X11_rowAt h_x rfl rfl ⟨(Nat.le_of_ble_eq_true rfl), (Nat.le_of_ble_eq_true rfl)⟩ rfl (Nat.le_of_ble_eq_true rfl) ⟨(Nat.le_of_ble_eq_true rfl), (Nat.le_of_ble_eq_true rfl)⟩ dX11_drop_2) (fun H locs hH => ?_)
  refine lv_astore_n (lv' := [(2, .ref rr), (0, .ref x), (1, .int (nI kk))]) hx hb dX11_drop_5 rfl hl (by decide) rfl (fun ls hl => ?_)
  refine lv_aload_n hx hb dX11_drop_6 rfl (lv_at hl 0 rfl) ?_
  refine lv_ifnonnull (tgt := 13) hx hb dX11_drop_7 (by decide) ?_
  refine lv_aload_n hx hb dX11_drop_13 rfl (lv_at hl 0 rfl) ?_
  refine fx_get C hH (k := 1) (v := .int mi) h_rr ff_X11_72_6 rfl dX11_drop_14 ?_
  refine lv_if_eq hx hb (tgt := 26) dX11_drop_17 (by decide) (fun c17 => ?_) (fun c17 => ?_)
  · refine lv_aload_n hx hb dX11_drop_26 rfl (lv_at hl 0 rfl) ?_
    refine lv_iconst (v := nI 1) hx hb dX11_drop_27 (by decide) ?_
    refine fx_putT C hH (k := 1) h_rr ff_X11_72_6 fL_6 fT_6_1 rfl rfl (Nat.le_of_ble_eq_true rfl) dX11_drop_28 (fun H locs hH => ?_)
    have hH : fx_H G base s (fx_up f rr (oO 6 [.ref ri_, .int (nI 1), .int la, .int (nI sn)])) sz H locs := hH
    have h1_x : (fx_up f rr (oO 6 [.ref ri_, .int (nI 1), .int la, .int (nI sn)])) x = some (oO 10 [.ref ra, .ref tp, .ref tc, .ref ro, .ref tr, .ref ia, .ref aa, .int oa, .int ak, .int fa, .int fi]) := (fx_up_n _ _ (fx_ne h_x h_rr rfl)).trans h_x
    have h1_ra : (fx_up f rr (oO 6 [.ref ri_, .int (nI 1), .int la, .int (nI sn)])) ra = some (oR 4 8 gr) := (fx_up_n _ _ (fx_ne h_ra h_rr rfl)).trans h_ra
    have h1_ri_ : (fx_up f rr (oO 6 [.ref ri_, .int (nI 1), .int la, .int (nI sn)])) ri_ = some (oI 40 g) := (fx_up_n _ _ (fx_ne h_ri_ h_rr rfl)).trans h_ri_
    have h1_rr : (fx_up f rr (oO 6 [.ref ri_, .int (nI 1), .int la, .int (nI sn)])) rr = some (oO 6 [.ref ri_, .int (nI 1), .int la, .int (nI sn)]) := fx_up_s _ _ _
    refine lv_aload_n hx hb dX11_drop_31 rfl (lv_at hl 1 rfl) ?_
    refine lv_aload_n hx hb dX11_drop_32 rfl (lv_at hl 0 rfl) ?_
    refine fx_get C hH (k := 3) (v := .int (nI sn)) h1_rr ff_X11_98_6 rfl dX11_drop_33 ?_
    refine fx_go1 hH (fx_runV C hH hl.1 (As := [.int (nI sn)]) (rest := []) (c_X11_unfound (G := G) (base := base) (l := l) (f := fx_up f rr (oO 6 [.ref ri_, .int (nI 1), .int la, .int (nI sn)])) (sz := sz) (x := x) (nn := nI sn) (ra := ra) (tp := tp) (tc := tc) (ro := ro) (tr := tr) (ia := ia) (aa := aa) (oa := oa) (ak := ak) (fa := fa) (fi := fi) h1_x) mY_X11_unfound ml_X11_69 im_X11_unfound se_X11_X11_unfound h1_x rfl rfl ⟨(Nat.le_of_ble_eq_true rfl), (Nat.le_of_ble_eq_true rfl)⟩ rfl (Nat.le_of_ble_eq_true rfl) ⟨(Nat.le_of_ble_eq_true rfl), (Nat.le_of_ble_eq_true rfl)⟩ dX11_drop_36) (fun H locs hH => ?_)
    have hH : fx_H G base s (fx_up (fx_up f rr (oO 6 [.ref ri_, .int (nI 1), .int la, .int (nI sn)])) x (oO 10 [.ref ra, .ref tp, .ref tc, .ref ro, .ref tr, .ref ia, .ref aa, .int oa, .int ak, .int fa, .int (nI 0)])) sz H locs := hH
    have h2_ra : (fx_up (fx_up f rr (oO 6 [.ref ri_, .int (nI 1), .int la, .int (nI sn)])) x (oO 10 [.ref ra, .ref tp, .ref tc, .ref ro, .ref tr, .ref ia, .ref aa, .int oa, .int ak, .int fa, .int (nI 0)])) ra = some (oR 4 8 gr) := (fx_up_n _ _ (fx_ne h1_ra h1_x rfl)).trans h1_ra
    have h2_ri_ : (fx_up (fx_up f rr (oO 6 [.ref ri_, .int (nI 1), .int la, .int (nI sn)])) x (oO 10 [.ref ra, .ref tp, .ref tc, .ref ro, .ref tr, .ref ia, .ref aa, .int oa, .int ak, .int fa, .int (nI 0)])) ri_ = some (oI 40 g) := (fx_up_n _ _ (fx_ne h1_ri_ h1_x rfl)).trans h1_ri_
    have h2_rr : (fx_up (fx_up f rr (oO 6 [.ref ri_, .int (nI 1), .int la, .int (nI sn)])) x (oO 10 [.ref ra, .ref tp, .ref tc, .ref ro, .ref tr, .ref ia, .ref aa, .int oa, .int ak, .int fa, .int (nI 0)])) rr = some (oO 6 [.ref ri_, .int (nI 1), .int la, .int (nI sn)]) := (fx_up_n _ _ (fx_ne h1_rr h1_x rfl)).trans h1_rr
    have h2_x : (fx_up (fx_up f rr (oO 6 [.ref ri_, .int (nI 1), .int la, .int (nI sn)])) x (oO 10 [.ref ra, .ref tp, .ref tc, .ref ro, .ref tr, .ref ia, .ref aa, .int oa, .int ak, .int fa, .int (nI 0)])) x = some (oO 10 [.ref ra, .ref tp, .ref tc, .ref ro, .ref tr, .ref ia, .ref aa, .int oa, .int ak, .int fa, .int (nI 0)]) := fx_up_s _ _ _
    have hH : fx_H G base s (fx_up (fx_up f rr (oO 6 [.ref ri_, .int (nI 1), .int la, .int (nI sn)])) x (oO 10 [.ref ra, .ref tp, .ref tc, .ref ro, .ref tr, .ref ia, .ref aa, .int oa, .int ak, .int fa, .int (nI 0)])) sz H locs := hH
    exact fx_iretP C hr hk hH (K1 c17) (Nat.zero_le _) (Nat.zero_le _) dX11_drop_39
  · refine lv_aload_n hx hb dX11_drop_20 rfl (lv_at hl 1 rfl) ?_
    refine lv_iconst (v := nI 1) hx hb dX11_drop_21 (by decide) ?_
    refine fx_go1 hH (fx_runV C hH hl.1 (As := [.int (nI 1)]) (rest := []) (c_X11_finding (G := G) (base := base) (l := l) (f := f) (sz := sz) (x := x) (nn := nI 1) (ra := ra) (tp := tp) (tc := tc) (ro := ro) (tr := tr) (ia := ia) (aa := aa) (oa := oa) (ak := ak) (fa := fa) (fi := fi) h_x) mY_X11_finding ml_X11_61 im_X11_finding se_X11_X11_finding h_x rfl rfl ⟨(Nat.le_of_ble_eq_true rfl), (Nat.le_of_ble_eq_true rfl)⟩ rfl (Nat.le_of_ble_eq_true rfl) ⟨(Nat.le_of_ble_eq_true rfl), (Nat.le_of_ble_eq_true rfl)⟩ dX11_drop_22) (fun H locs hH => ?_)
    have hH : fx_H G base s (fx_up f x (oO 10 [.ref ra, .ref tp, .ref tc, .ref ro, .ref tr, .ref ia, .ref aa, .int oa, .int ak, .int fa, .int (nI 1)])) sz H locs := hH
    have h3_ra : (fx_up f x (oO 10 [.ref ra, .ref tp, .ref tc, .ref ro, .ref tr, .ref ia, .ref aa, .int oa, .int ak, .int fa, .int (nI 1)])) ra = some (oR 4 8 gr) := (fx_up_n _ _ (fx_ne h_ra h_x rfl)).trans h_ra
    have h3_rr : (fx_up f x (oO 10 [.ref ra, .ref tp, .ref tc, .ref ro, .ref tr, .ref ia, .ref aa, .int oa, .int ak, .int fa, .int (nI 1)])) rr = some (oO 6 [.ref ri_, .int mi, .int la, .int (nI sn)]) := (fx_up_n _ _ (fx_ne h_rr h_x rfl)).trans h_rr
    have h3_ri_ : (fx_up f x (oO 10 [.ref ra, .ref tp, .ref tc, .ref ro, .ref tr, .ref ia, .ref aa, .int oa, .int ak, .int fa, .int (nI 1)])) ri_ = some (oI 40 g) := (fx_up_n _ _ (fx_ne h_ri_ h_x rfl)).trans h_ri_
    have h3_x : (fx_up f x (oO 10 [.ref ra, .ref tp, .ref tc, .ref ro, .ref tr, .ref ia, .ref aa, .int oa, .int ak, .int fa, .int (nI 1)])) x = some (oO 10 [.ref ra, .ref tp, .ref tc, .ref ro, .ref tr, .ref ia, .ref aa, .int oa, .int ak, .int fa, .int (nI 1)]) := fx_up_s _ _ _
    have hH : fx_H G base s (fx_up f x (oO 10 [.ref ra, .ref tp, .ref tc, .ref ro, .ref tr, .ref ia, .ref aa, .int oa, .int ak, .int fa, .int (nI 1)])) sz H locs := hH
    exact fx_iretP C hr hk hH (K2 c17) (Nat.zero_le _) (Nat.zero_le _) dX11_drop_25
abbrev rm_X11_copy : Room := { frames := 2, cells := 0, slots := 0, locals := 43 }
set_option maxHeartbeats 4000000 in
set_option maxRecDepth 100000 in
theorem c_X11_copy_nn {G : GG} {base : Nat} {l : Launch} {f : Hp} {sz : Nat} {Po : Option Value → Hp → Nat → Prop} {x : Nat} {r : Int32} {i : Int32} {r2 : Int32} {j : Int32} {n : Int32} {ra : Nat} {tp : Nat} {tc : Nat} {ro : Nat} {tr : Nat} {ia : Nat} {aa : Nat} {oa : Int32} {ak : Int32} {fa : Int32} {fi : Int32} (h_x : f x = some (oO 10 [.ref ra, .ref tp, .ref tc, .ref ro, .ref tr, .ref ia, .ref aa, .int oa, .int ak, .int fa, .int fi])) (hr0 : ¬ (¬ r < nI 0 ∧ ¬ nI 7 < r)) (hr2 : ¬ (¬ r2 < nI 0 ∧ ¬ nI 7 < r2)) (K1 : Po (some (.int (-1000001))) f sz) : fx_MP G base l yX11_copy cX11_copy 8 (some .int) rm_X11_copy [.ref x, .int r, .int i, .int r2, .int j, .int n] f sz Po := by
  refine fx_ofP (by decide +kernel) (Nat.le_of_ble_eq_true rfl) ?_
  intro p e s m args below meth c C hr hk hnm hH ls hl
  obtain ⟨locs, hlocs⟩ : ∃ L : List Loc, L = [] := ⟨_, rfl⟩
  rw [← hlocs] at hH ⊢
  generalize s.heap = H at hH ⊢
  have hx := C.1
  have hb := C.2.1
  have hl : lv_has ls 8 [(0, .ref x), (1, .int r), (2, .int i), (3, .int r2), (4, .int j), (5, .int n)] := hl
  refine lv_aload_n hx hb dX11_copy_0 rfl (lv_at hl 0 rfl) ?_
  refine lv_iload_n hx hb dX11_copy_1 rfl (lv_at hl 1 rfl) ?_
  refine fx_go1 hH (fx_runV C hH hl.1 (As := [.int r]) (rest := []) (c_X11_rowAt_n (G := G) (base := base) (l := l) (f := f) (sz := sz) (x := x) (r := r) (ra := ra) (tp := tp) (tc := tc) (ro := ro) (tr := tr) (ia := ia) (aa := aa) (oa := oa) (ak := ak) (fa := fa) (fi := fi) h_x hr0) mY_X11_rowAt ml_X11_52 im_X11_rowAt se_X11_X11_rowAt h_x rfl rfl ⟨(Nat.le_of_ble_eq_true rfl), (Nat.le_of_ble_eq_true rfl)⟩ rfl (Nat.le_of_ble_eq_true rfl) ⟨(Nat.le_of_ble_eq_true rfl), (Nat.le_of_ble_eq_true rfl)⟩ dX11_copy_2) (fun H locs hH => ?_)
  refine lv_astoreN (lv' := [(6, .null), (0, .ref x), (1, .int r), (2, .int i), (3, .int r2), (4, .int j), (5, .int n)]) hx hb dX11_copy_5 hl (by decide) rfl (fun ls hl => ?_)
  refine lv_aload_n hx hb dX11_copy_7 rfl (lv_at hl 1 rfl) ?_
  refine lv_iload_n hx hb dX11_copy_8 rfl (lv_at hl 4 rfl) ?_
  refine fx_go1 hH (fx_runV C hH hl.1 (As := [.int r2]) (rest := []) (c_X11_rowAt_n (G := G) (base := base) (l := l) (f := f) (sz := sz) (x := x) (r := r2) (ra := ra) (tp := tp) (tc := tc) (ro := ro) (tr := tr) (ia := ia) (aa := aa) (oa := oa) (ak := ak) (fa := fa) (fi := fi) h_x hr2) mY_X11_rowAt ml_X11_52 im_X11_rowAt se_X11_X11_rowAt h_x rfl rfl ⟨(Nat.le_of_ble_eq_true rfl), (Nat.le_of_ble_eq_true rfl)⟩ rfl (Nat.le_of_ble_eq_true rfl) ⟨(Nat.le_of_ble_eq_true rfl), (Nat.le_of_ble_eq_true rfl)⟩ dX11_copy_9) (fun H locs hH => ?_)
  refine lv_astoreN (lv' := [(7, .null), (6, .null), (0, .ref x), (1, .int r), (2, .int i), (3, .int r2), (4, .int j), (5, .int n)]) hx hb dX11_copy_12 hl (by decide) rfl (fun ls hl => ?_)
  refine lv_aloadN hx hb dX11_copy_14 (lv_at hl 1 rfl) ?_
  refine lv_ifnullN (tgt := 24) hx hb dX11_copy_16 (by decide) ?_
  refine lv_ldc (v := (-1000001)) hx hb C.2.2.2.1 (C.2.2.2.2.1 _ kI_X11_60 rfl args) dX11_copy_24 ?_
  exact fx_iretP C hr hk hH (K1 ) (Nat.zero_le _) (Nat.zero_le _) dX11_copy_26
set_option maxHeartbeats 4000000 in
set_option maxRecDepth 100000 in
theorem c_X11_copy_kn {G : GG} {base : Nat} {l : Launch} {f : Hp} {sz : Nat} {Po : Option Value → Hp → Nat → Prop} {x : Nat} {kk : Nat} {i : Int32} {r2 : Int32} {j : Int32} {n : Int32} {ra : Nat} {tp : Nat} {tc : Nat} {ro : Nat} {tr : Nat} {ia : Nat} {aa : Nat} {oa : Int32} {ak : Int32} {fa : Int32} {fi : Int32} {gr : Nat → Option Nat} {rr : Nat} {ri_ : Nat} {mi : Int32} {la : Int32} {sn : Nat} {g : Nat → Int32} (h_x : f x = some (oO 10 [.ref ra, .ref tp, .ref tc, .ref ro, .ref tr, .ref ia, .ref aa, .int oa, .int ak, .int fa, .int fi])) (h_ra : f ra = some (oR 4 8 gr)) (h_rr : f rr = some (oO 6 [.ref ri_, .int mi, .int la, .int (nI sn)])) (h_ri_ : f ri_ = some (oI 40 g)) (hkk : kk < 8) (hg : gr kk = some rr) (hsn : sn ≤ 40) (hr2 : ¬ (¬ r2 < nI 0 ∧ ¬ nI 7 < r2)) (K1 : Po (some (.int (-1000001))) f sz) : fx_MP G base l yX11_copy cX11_copy 8 (some .int) rm_X11_copy [.ref x, .int (nI kk), .int i, .int r2, .int j, .int n] f sz Po := by
  refine fx_ofP (by decide +kernel) (Nat.le_of_ble_eq_true rfl) ?_
  intro p e s m args below meth c C hr hk hnm hH ls hl
  obtain ⟨locs, hlocs⟩ : ∃ L : List Loc, L = [] := ⟨_, rfl⟩
  rw [← hlocs] at hH ⊢
  generalize s.heap = H at hH ⊢
  have hx := C.1
  have hb := C.2.1
  have hl : lv_has ls 8 [(0, .ref x), (1, .int (nI kk)), (2, .int i), (3, .int r2), (4, .int j), (5, .int n)] := hl
  refine lv_aload_n hx hb dX11_copy_0 rfl (lv_at hl 0 rfl) ?_
  refine lv_iload_n hx hb dX11_copy_1 rfl (lv_at hl 1 rfl) ?_
  refine fx_go1 hH (fx_runV C hH hl.1 (As := [.int (nI kk)]) (rest := []) (c_X11_rowAt_k (G := G) (base := base) (l := l) (f := f) (sz := sz) (rr := rr) (x := x) (kk := kk) (ra := ra) (tp := tp) (tc := tc) (ro := ro) (tr := tr) (ia := ia) (aa := aa) (oa := oa) (ak := ak) (fa := fa) (fi := fi) (gr := gr) h_x h_ra (by omega) hg) mY_X11_rowAt ml_X11_52 im_X11_rowAt se_X11_X11_rowAt h_x rfl rfl ⟨(Nat.le_of_ble_eq_true rfl), (Nat.le_of_ble_eq_true rfl)⟩ rfl (Nat.le_of_ble_eq_true rfl) ⟨(Nat.le_of_ble_eq_true rfl), (Nat.le_of_ble_eq_true rfl)⟩ dX11_copy_2) (fun H locs hH => ?_)
  refine lv_astore (lv' := [(6, .ref rr), (0, .ref x), (1, .int (nI kk)), (2, .int i), (3, .int r2), (4, .int j), (5, .int n)]) hx hb dX11_copy_5 hl (by decide) rfl (fun ls hl => ?_)
  refine lv_aload_n hx hb dX11_copy_7 rfl (lv_at hl 1 rfl) ?_
  refine lv_iload_n hx hb dX11_copy_8 rfl (lv_at hl 4 rfl) ?_
  refine fx_go1 hH (fx_runV C hH hl.1 (As := [.int r2]) (rest := []) (c_X11_rowAt_n (G := G) (base := base) (l := l) (f := f) (sz := sz) (x := x) (r := r2) (ra := ra) (tp := tp) (tc := tc) (ro := ro) (tr := tr) (ia := ia) (aa := aa) (oa := oa) (ak := ak) (fa := fa) (fi := fi) h_x hr2) mY_X11_rowAt ml_X11_52 im_X11_rowAt se_X11_X11_rowAt h_x rfl rfl ⟨(Nat.le_of_ble_eq_true rfl), (Nat.le_of_ble_eq_true rfl)⟩ rfl (Nat.le_of_ble_eq_true rfl) ⟨(Nat.le_of_ble_eq_true rfl), (Nat.le_of_ble_eq_true rfl)⟩ dX11_copy_9) (fun H locs hH => ?_)
  refine lv_astoreN (lv' := [(7, .null), (6, .ref rr), (0, .ref x), (1, .int (nI kk)), (2, .int i), (3, .int r2), (4, .int j), (5, .int n)]) hx hb dX11_copy_12 hl (by decide) rfl (fun ls hl => ?_)
  refine lv_aload hx hb dX11_copy_14 (lv_at hl 1 rfl) ?_
  refine lv_ifnull hx hb dX11_copy_16 ?_
  refine lv_aloadN hx hb dX11_copy_19 (lv_at hl 0 rfl) ?_
  refine lv_ifnonnullN hx hb dX11_copy_21 ?_
  refine lv_ldc (v := (-1000001)) hx hb C.2.2.2.1 (C.2.2.2.2.1 _ kI_X11_60 rfl args) dX11_copy_24 ?_
  exact fx_iretP C hr hk hH (K1 ) (Nat.zero_le _) (Nat.zero_le _) dX11_copy_26
set_option maxHeartbeats 4000000 in
set_option maxRecDepth 100000 in
theorem c_X11_copy_nk {G : GG} {base : Nat} {l : Launch} {f : Hp} {sz : Nat} {Po : Option Value → Hp → Nat → Prop} {x : Nat} {r : Int32} {i : Int32} {kk2 : Nat} {j : Int32} {n : Int32} {ra : Nat} {tp : Nat} {tc : Nat} {ro : Nat} {tr : Nat} {ia : Nat} {aa : Nat} {oa : Int32} {ak : Int32} {fa : Int32} {fi : Int32} {gr : Nat → Option Nat} {rr2 : Nat} {ri2 : Nat} {mi2 : Int32} {la2 : Int32} {sn2 : Nat} {g2 : Nat → Int32} (h_x : f x = some (oO 10 [.ref ra, .ref tp, .ref tc, .ref ro, .ref tr, .ref ia, .ref aa, .int oa, .int ak, .int fa, .int fi])) (h_ra : f ra = some (oR 4 8 gr)) (h_rr2 : f rr2 = some (oO 6 [.ref ri2, .int mi2, .int la2, .int (nI sn2)])) (h_ri2 : f ri2 = some (oI 40 g2)) (hr0 : ¬ (¬ r < nI 0 ∧ ¬ nI 7 < r)) (hkk2 : kk2 < 8) (hg2 : gr kk2 = some rr2) (hsn2 : sn2 ≤ 40) (K1 : Po (some (.int (-1000001))) f sz) : fx_MP G base l yX11_copy cX11_copy 8 (some .int) rm_X11_copy [.ref x, .int r, .int i, .int (nI kk2), .int j, .int n] f sz Po := by
  refine fx_ofP (by decide +kernel) (Nat.le_of_ble_eq_true rfl) ?_
  intro p e s m args below meth c C hr hk hnm hH ls hl
  obtain ⟨locs, hlocs⟩ : ∃ L : List Loc, L = [] := ⟨_, rfl⟩
  rw [← hlocs] at hH ⊢
  generalize s.heap = H at hH ⊢
  have hx := C.1
  have hb := C.2.1
  have hl : lv_has ls 8 [(0, .ref x), (1, .int r), (2, .int i), (3, .int (nI kk2)), (4, .int j), (5, .int n)] := hl
  refine lv_aload_n hx hb dX11_copy_0 rfl (lv_at hl 0 rfl) ?_
  refine lv_iload_n hx hb dX11_copy_1 rfl (lv_at hl 1 rfl) ?_
  refine fx_go1 hH (fx_runV C hH hl.1 (As := [.int r]) (rest := []) (c_X11_rowAt_n (G := G) (base := base) (l := l) (f := f) (sz := sz) (x := x) (r := r) (ra := ra) (tp := tp) (tc := tc) (ro := ro) (tr := tr) (ia := ia) (aa := aa) (oa := oa) (ak := ak) (fa := fa) (fi := fi) h_x hr0) mY_X11_rowAt ml_X11_52 im_X11_rowAt se_X11_X11_rowAt h_x rfl rfl ⟨(Nat.le_of_ble_eq_true rfl), (Nat.le_of_ble_eq_true rfl)⟩ rfl (Nat.le_of_ble_eq_true rfl) ⟨(Nat.le_of_ble_eq_true rfl), (Nat.le_of_ble_eq_true rfl)⟩ dX11_copy_2) (fun H locs hH => ?_)
  refine lv_astoreN (lv' := [(6, .null), (0, .ref x), (1, .int r), (2, .int i), (3, .int (nI kk2)), (4, .int j), (5, .int n)]) hx hb dX11_copy_5 hl (by decide) rfl (fun ls hl => ?_)
  refine lv_aload_n hx hb dX11_copy_7 rfl (lv_at hl 1 rfl) ?_
  refine lv_iload_n hx hb dX11_copy_8 rfl (lv_at hl 4 rfl) ?_
  refine fx_go1 hH (fx_runV C hH hl.1 (As := [.int (nI kk2)]) (rest := []) (c_X11_rowAt_k (G := G) (base := base) (l := l) (f := f) (sz := sz) (rr := rr2) (x := x) (kk := kk2) (ra := ra) (tp := tp) (tc := tc) (ro := ro) (tr := tr) (ia := ia) (aa := aa) (oa := oa) (ak := ak) (fa := fa) (fi := fi) (gr := gr) h_x h_ra (by omega) hg2) mY_X11_rowAt ml_X11_52 im_X11_rowAt se_X11_X11_rowAt h_x rfl rfl ⟨(Nat.le_of_ble_eq_true rfl), (Nat.le_of_ble_eq_true rfl)⟩ rfl (Nat.le_of_ble_eq_true rfl) ⟨(Nat.le_of_ble_eq_true rfl), (Nat.le_of_ble_eq_true rfl)⟩ dX11_copy_9) (fun H locs hH => ?_)
  refine lv_astore (lv' := [(7, .ref rr2), (6, .null), (0, .ref x), (1, .int r), (2, .int i), (3, .int (nI kk2)), (4, .int j), (5, .int n)]) hx hb dX11_copy_12 hl (by decide) rfl (fun ls hl => ?_)
  refine lv_aloadN hx hb dX11_copy_14 (lv_at hl 1 rfl) ?_
  refine lv_ifnullN (tgt := 24) hx hb dX11_copy_16 (by decide) ?_
  refine lv_ldc (v := (-1000001)) hx hb C.2.2.2.1 (C.2.2.2.2.1 _ kI_X11_60 rfl args) dX11_copy_24 ?_
  exact fx_iretP C hr hk hH (K1 ) (Nat.zero_le _) (Nat.zero_le _) dX11_copy_26
set_option maxHeartbeats 4000000 in
set_option maxRecDepth 100000 in
theorem c_X11_copy_kk {G : GG} {base : Nat} {l : Launch} {f : Hp} {sz : Nat} {Po : Option Value → Hp → Nat → Prop} {x : Nat} {kk : Nat} {i : Int32} {kk2 : Nat} {j : Int32} {n : Int32} {ra : Nat} {tp : Nat} {tc : Nat} {ro : Nat} {tr : Nat} {ia : Nat} {aa : Nat} {oa : Int32} {ak : Int32} {fa : Int32} {fi : Int32} {gr : Nat → Option Nat} {rr : Nat} {ri_ : Nat} {mi : Int32} {la : Int32} {sn : Nat} {g : Nat → Int32} {rr2 : Nat} {ri2 : Nat} {mi2 : Int32} {la2 : Int32} {sn2 : Nat} {g2 : Nat → Int32} (h_x : f x = some (oO 10 [.ref ra, .ref tp, .ref tc, .ref ro, .ref tr, .ref ia, .ref aa, .int oa, .int ak, .int fa, .int fi])) (h_ra : f ra = some (oR 4 8 gr)) (h_rr : f rr = some (oO 6 [.ref ri_, .int mi, .int la, .int (nI sn)])) (h_ri_ : f ri_ = some (oI 40 g)) (h_rr2 : f rr2 = some (oO 6 [.ref ri2, .int mi2, .int la2, .int (nI sn2)])) (h_ri2 : f ri2 = some (oI 40 g2)) (hne_0 : rr ≠ rr2) (hne_1 : ri_ ≠ ri2) (hkk : kk < 8) (hg : gr kk = some rr) (hsn : sn ≤ 40) (hkk2 : kk2 < 8) (hg2 : gr kk2 = some rr2) (hsn2 : sn2 ≤ 40) (K1 : ∀ (c32 : ¬ mi = (0 : Int32)), Po (some (.int ((-1000010) - (nI 1)))) (fx_up f x (oO 10 [.ref ra, .ref tp, .ref tc, .ref ro, .ref tr, .ref ia, .ref aa, .int oa, .int ak, .int fa, .int (nI 1)])) sz)
    (K2 : ∀ (c32 : mi = (0 : Int32)), ∀ (c40 : mi2 = (0 : Int32)), ∀ (c59 : la = la2), ∀ (c76 : ¬ (¬ i < 0 ∧ ¬ n < 0 ∧ ¬ (nI sn).toInt64 < i.toInt64 + n.toInt64)), Po (some (.int ((-1000010) - (nI 2)))) (fx_up f x (oO 10 [.ref ra, .ref tp, .ref tc, .ref ro, .ref tr, .ref ia, .ref aa, .int oa, .int ak, .int fa, .int (nI 2)])) sz)
    (K3 : ∀ (c32 : mi = (0 : Int32)), ∀ (c40 : mi2 = (0 : Int32)), ∀ (c59 : la = la2), ∀ (c76 : (¬ i < 0 ∧ ¬ n < 0 ∧ ¬ (nI sn).toInt64 < i.toInt64 + n.toInt64)), ∀ (c88 : (¬ j < 0 ∧ ¬ n < 0 ∧ ¬ (nI sn2).toInt64 < j.toInt64 + n.toInt64)), ∀ (ix : Nat), ∀ (n2 : Nat), ∀ (jx : Nat), ∀ (hix : ix + n2 ≤ sn), ∀ (hjx : jx + n2 ≤ sn2), ∀ (hie : i = nI ix), ∀ (hne : n = nI n2), ∀ (hje : j = nI jx), Po (some (.int (nI n2))) (fx_up (fx_up f ri2 (oI 40 (va_cpy g g2 ix jx n2))) x (oO 10 [.ref ra, .ref tp, .ref tc, .ref ro, .ref tr, .ref ia, .ref aa, .int oa, .int ak, .int fa, .int (nI 0)])) sz)
    (K4 : ∀ (c32 : mi = (0 : Int32)), ∀ (c40 : mi2 = (0 : Int32)), ∀ (c59 : la = la2), ∀ (c76 : (¬ i < 0 ∧ ¬ n < 0 ∧ ¬ (nI sn).toInt64 < i.toInt64 + n.toInt64)), ∀ (c88 : ¬ (¬ j < 0 ∧ ¬ n < 0 ∧ ¬ (nI sn2).toInt64 < j.toInt64 + n.toInt64)), Po (some (.int ((-1000010) - (nI 2)))) (fx_up f x (oO 10 [.ref ra, .ref tp, .ref tc, .ref ro, .ref tr, .ref ia, .ref aa, .int oa, .int ak, .int fa, .int (nI 2)])) sz)
    (K5 : ∀ (c32 : mi = (0 : Int32)), ∀ (c40 : mi2 = (0 : Int32)), ∀ (c59 : ¬ la = la2), Po (some (.int ((-1000010) - (nI 5)))) (fx_up f x (oO 10 [.ref ra, .ref tp, .ref tc, .ref ro, .ref tr, .ref ia, .ref aa, .int oa, .int ak, .int fa, .int (nI 5)])) sz)
    (K6 : ∀ (c32 : mi = (0 : Int32)), ∀ (c40 : ¬ mi2 = (0 : Int32)), Po (some (.int ((-1000010) - (nI 1)))) (fx_up f x (oO 10 [.ref ra, .ref tp, .ref tc, .ref ro, .ref tr, .ref ia, .ref aa, .int oa, .int ak, .int fa, .int (nI 1)])) sz) : fx_MP G base l yX11_copy cX11_copy 8 (some .int) rm_X11_copy [.ref x, .int (nI kk), .int i, .int (nI kk2), .int j, .int n] f sz Po := by
  refine fx_ofP (by decide +kernel) (Nat.le_of_ble_eq_true rfl) ?_
  intro p e s m args below meth c C hr hk hnm hH ls hl
  obtain ⟨locs, hlocs⟩ : ∃ L : List Loc, L = [] := ⟨_, rfl⟩
  rw [← hlocs] at hH ⊢
  generalize s.heap = H at hH ⊢
  have hx := C.1
  have hb := C.2.1
  have hl : lv_has ls 8 [(0, .ref x), (1, .int (nI kk)), (2, .int i), (3, .int (nI kk2)), (4, .int j), (5, .int n)] := hl
  refine lv_aload_n hx hb dX11_copy_0 rfl (lv_at hl 0 rfl) ?_
  refine lv_iload_n hx hb dX11_copy_1 rfl (lv_at hl 1 rfl) ?_
  refine fx_go1 hH (fx_runV C hH hl.1 (As := [.int (nI kk)]) (rest := []) (c_X11_rowAt_k (G := G) (base := base) (l := l) (f := f) (sz := sz) (rr := rr) (x := x) (kk := kk) (ra := ra) (tp := tp) (tc := tc) (ro := ro) (tr := tr) (ia := ia) (aa := aa) (oa := oa) (ak := ak) (fa := fa) (fi := fi) (gr := gr) h_x h_ra (by omega) hg) mY_X11_rowAt ml_X11_52 im_X11_rowAt se_X11_X11_rowAt h_x rfl rfl ⟨(Nat.le_of_ble_eq_true rfl), (Nat.le_of_ble_eq_true rfl)⟩ rfl (Nat.le_of_ble_eq_true rfl) ⟨(Nat.le_of_ble_eq_true rfl), (Nat.le_of_ble_eq_true rfl)⟩ dX11_copy_2) (fun H locs hH => ?_)
  refine lv_astore (lv' := [(6, .ref rr), (0, .ref x), (1, .int (nI kk)), (2, .int i), (3, .int (nI kk2)), (4, .int j), (5, .int n)]) hx hb dX11_copy_5 hl (by decide) rfl (fun ls hl => ?_)
  refine lv_aload_n hx hb dX11_copy_7 rfl (lv_at hl 1 rfl) ?_
  refine lv_iload_n hx hb dX11_copy_8 rfl (lv_at hl 4 rfl) ?_
  refine fx_go1 hH (fx_runV C hH hl.1 (As := [.int (nI kk2)]) (rest := []) (c_X11_rowAt_k (G := G) (base := base) (l := l) (f := f) (sz := sz) (rr := rr2) (x := x) (kk := kk2) (ra := ra) (tp := tp) (tc := tc) (ro := ro) (tr := tr) (ia := ia) (aa := aa) (oa := oa) (ak := ak) (fa := fa) (fi := fi) (gr := gr) h_x h_ra (by omega) hg2) mY_X11_rowAt ml_X11_52 im_X11_rowAt se_X11_X11_rowAt h_x rfl rfl ⟨(Nat.le_of_ble_eq_true rfl), (Nat.le_of_ble_eq_true rfl)⟩ rfl (Nat.le_of_ble_eq_true rfl) ⟨(Nat.le_of_ble_eq_true rfl), (Nat.le_of_ble_eq_true rfl)⟩ dX11_copy_9) (fun H locs hH => ?_)
  refine lv_astore (lv' := [(7, .ref rr2), (6, .ref rr), (0, .ref x), (1, .int (nI kk)), (2, .int i), (3, .int (nI kk2)), (4, .int j), (5, .int n)]) hx hb dX11_copy_12 hl (by decide) rfl (fun ls hl => ?_)
  refine lv_aload hx hb dX11_copy_14 (lv_at hl 1 rfl) ?_
  refine lv_ifnull hx hb dX11_copy_16 ?_
  refine lv_aload hx hb dX11_copy_19 (lv_at hl 0 rfl) ?_
  refine lv_ifnonnull (tgt := 27) hx hb dX11_copy_21 (by decide) ?_
  refine lv_aload hx hb dX11_copy_27 (lv_at hl 1 rfl) ?_
  refine fx_get C hH (k := 1) (v := .int mi) h_rr ff_X11_72_6 rfl dX11_copy_29 ?_
  refine lv_if_ne hx hb (tgt := 43) dX11_copy_32 (by decide) (fun c32 => ?_) (fun c32 => ?_)
  · refine lv_aload_n hx hb dX11_copy_43 rfl (lv_at hl 2 rfl) ?_
    refine lv_iconst (v := nI 1) hx hb dX11_copy_44 (by decide) ?_
    refine fx_go1 hH (fx_runV C hH hl.1 (As := [.int (nI 1)]) (rest := []) (c_X11_finding (G := G) (base := base) (l := l) (f := f) (sz := sz) (x := x) (nn := nI 1) (ra := ra) (tp := tp) (tc := tc) (ro := ro) (tr := tr) (ia := ia) (aa := aa) (oa := oa) (ak := ak) (fa := fa) (fi := fi) h_x) mY_X11_finding ml_X11_61 im_X11_finding se_X11_X11_finding h_x rfl rfl ⟨(Nat.le_of_ble_eq_true rfl), (Nat.le_of_ble_eq_true rfl)⟩ rfl (Nat.le_of_ble_eq_true rfl) ⟨(Nat.le_of_ble_eq_true rfl), (Nat.le_of_ble_eq_true rfl)⟩ dX11_copy_45) (fun H locs hH => ?_)
    have hH : fx_H G base s (fx_up f x (oO 10 [.ref ra, .ref tp, .ref tc, .ref ro, .ref tr, .ref ia, .ref aa, .int oa, .int ak, .int fa, .int (nI 1)])) sz H locs := hH
    have h1_ra : (fx_up f x (oO 10 [.ref ra, .ref tp, .ref tc, .ref ro, .ref tr, .ref ia, .ref aa, .int oa, .int ak, .int fa, .int (nI 1)])) ra = some (oR 4 8 gr) := (fx_up_n _ _ (fx_ne h_ra h_x rfl)).trans h_ra
    have h1_rr : (fx_up f x (oO 10 [.ref ra, .ref tp, .ref tc, .ref ro, .ref tr, .ref ia, .ref aa, .int oa, .int ak, .int fa, .int (nI 1)])) rr = some (oO 6 [.ref ri_, .int mi, .int la, .int (nI sn)]) := (fx_up_n _ _ (fx_ne h_rr h_x rfl)).trans h_rr
    have h1_ri_ : (fx_up f x (oO 10 [.ref ra, .ref tp, .ref tc, .ref ro, .ref tr, .ref ia, .ref aa, .int oa, .int ak, .int fa, .int (nI 1)])) ri_ = some (oI 40 g) := (fx_up_n _ _ (fx_ne h_ri_ h_x rfl)).trans h_ri_
    have h1_rr2 : (fx_up f x (oO 10 [.ref ra, .ref tp, .ref tc, .ref ro, .ref tr, .ref ia, .ref aa, .int oa, .int ak, .int fa, .int (nI 1)])) rr2 = some (oO 6 [.ref ri2, .int mi2, .int la2, .int (nI sn2)]) := (fx_up_n _ _ (fx_ne h_rr2 h_x rfl)).trans h_rr2
    have h1_ri2 : (fx_up f x (oO 10 [.ref ra, .ref tp, .ref tc, .ref ro, .ref tr, .ref ia, .ref aa, .int oa, .int ak, .int fa, .int (nI 1)])) ri2 = some (oI 40 g2) := (fx_up_n _ _ (fx_ne h_ri2 h_x rfl)).trans h_ri2
    have h1_x : (fx_up f x (oO 10 [.ref ra, .ref tp, .ref tc, .ref ro, .ref tr, .ref ia, .ref aa, .int oa, .int ak, .int fa, .int (nI 1)])) x = some (oO 10 [.ref ra, .ref tp, .ref tc, .ref ro, .ref tr, .ref ia, .ref aa, .int oa, .int ak, .int fa, .int (nI 1)]) := fx_up_s _ _ _
    have hH : fx_H G base s (fx_up f x (oO 10 [.ref ra, .ref tp, .ref tc, .ref ro, .ref tr, .ref ia, .ref aa, .int oa, .int ak, .int fa, .int (nI 1)])) sz H locs := hH
    exact fx_iretP C hr hk hH (K1 c32) (Nat.zero_le _) (Nat.zero_le _) dX11_copy_48
  · refine lv_aload hx hb dX11_copy_35 (lv_at hl 0 rfl) ?_
    refine fx_get C hH (k := 1) (v := .int mi2) h_rr2 ff_X11_72_6 rfl dX11_copy_37 ?_
    refine lv_if_eq hx hb (tgt := 49) dX11_copy_40 (by decide) (fun c40 => ?_) (fun c40 => ?_)
    · refine lv_aload hx hb dX11_copy_49 (lv_at hl 1 rfl) ?_
      refine fx_get C hH (k := 2) (v := .int la) h_rr ff_X11_84_6 rfl dX11_copy_51 ?_
      refine lv_aload hx hb dX11_copy_54 (lv_at hl 0 rfl) ?_
      refine fx_get C hH (k := 2) (v := .int la2) h_rr2 ff_X11_84_6 rfl dX11_copy_56 ?_
      refine lv_icmp_eq hx hb (tgt := 68) dX11_copy_59 (by decide) (fun c59 => ?_) (fun c59 => ?_)
      · refine lv_aload hx hb dX11_copy_68 (lv_at hl 1 rfl) ?_
        refine lv_iload_n hx hb dX11_copy_70 rfl (lv_at hl 4 rfl) ?_
        refine lv_iload hx hb dX11_copy_71 (lv_at hl 7 rfl) ?_
        refine fx_go1 hH (fx_runV C hH hl.1 (As := [.int i, .int n]) (rest := []) (c_X6_holds (G := G) (base := base) (l := l) (f := f) (sz := sz) (r := rr) (i := i) (n := n) (it := ri_) (mi := mi) (la := la) (si := nI sn) h_rr) mY_X6_holds ml_X11_76 im_X6_holds se_X6_X6_holds h_rr rfl rfl ⟨(Nat.le_of_ble_eq_true rfl), (Nat.le_of_ble_eq_true rfl)⟩ rfl (Nat.le_of_ble_eq_true rfl) ⟨(Nat.le_of_ble_eq_true rfl), (Nat.le_of_ble_eq_true rfl)⟩ dX11_copy_73) (fun H locs hH => ?_)
        refine fx_b_eq hx hb (tgt := 91) dX11_copy_76 (by decide) (fun c76 => ?_) (fun c76 => ?_)
        · refine lv_aload_n hx hb dX11_copy_91 rfl (lv_at hl 2 rfl) ?_
          refine lv_iconst (v := nI 2) hx hb dX11_copy_92 (by decide) ?_
          refine fx_go1 hH (fx_runV C hH hl.1 (As := [.int (nI 2)]) (rest := []) (c_X11_finding (G := G) (base := base) (l := l) (f := f) (sz := sz) (x := x) (nn := nI 2) (ra := ra) (tp := tp) (tc := tc) (ro := ro) (tr := tr) (ia := ia) (aa := aa) (oa := oa) (ak := ak) (fa := fa) (fi := fi) h_x) mY_X11_finding ml_X11_61 im_X11_finding se_X11_X11_finding h_x rfl rfl ⟨(Nat.le_of_ble_eq_true rfl), (Nat.le_of_ble_eq_true rfl)⟩ rfl (Nat.le_of_ble_eq_true rfl) ⟨(Nat.le_of_ble_eq_true rfl), (Nat.le_of_ble_eq_true rfl)⟩ dX11_copy_93) (fun H locs hH => ?_)
          have hH : fx_H G base s (fx_up f x (oO 10 [.ref ra, .ref tp, .ref tc, .ref ro, .ref tr, .ref ia, .ref aa, .int oa, .int ak, .int fa, .int (nI 2)])) sz H locs := hH
          have h2_ra : (fx_up f x (oO 10 [.ref ra, .ref tp, .ref tc, .ref ro, .ref tr, .ref ia, .ref aa, .int oa, .int ak, .int fa, .int (nI 2)])) ra = some (oR 4 8 gr) := (fx_up_n _ _ (fx_ne h_ra h_x rfl)).trans h_ra
          have h2_rr : (fx_up f x (oO 10 [.ref ra, .ref tp, .ref tc, .ref ro, .ref tr, .ref ia, .ref aa, .int oa, .int ak, .int fa, .int (nI 2)])) rr = some (oO 6 [.ref ri_, .int mi, .int la, .int (nI sn)]) := (fx_up_n _ _ (fx_ne h_rr h_x rfl)).trans h_rr
          have h2_ri_ : (fx_up f x (oO 10 [.ref ra, .ref tp, .ref tc, .ref ro, .ref tr, .ref ia, .ref aa, .int oa, .int ak, .int fa, .int (nI 2)])) ri_ = some (oI 40 g) := (fx_up_n _ _ (fx_ne h_ri_ h_x rfl)).trans h_ri_
          have h2_rr2 : (fx_up f x (oO 10 [.ref ra, .ref tp, .ref tc, .ref ro, .ref tr, .ref ia, .ref aa, .int oa, .int ak, .int fa, .int (nI 2)])) rr2 = some (oO 6 [.ref ri2, .int mi2, .int la2, .int (nI sn2)]) := (fx_up_n _ _ (fx_ne h_rr2 h_x rfl)).trans h_rr2
          have h2_ri2 : (fx_up f x (oO 10 [.ref ra, .ref tp, .ref tc, .ref ro, .ref tr, .ref ia, .ref aa, .int oa, .int ak, .int fa, .int (nI 2)])) ri2 = some (oI 40 g2) := (fx_up_n _ _ (fx_ne h_ri2 h_x rfl)).trans h_ri2
          have h2_x : (fx_up f x (oO 10 [.ref ra, .ref tp, .ref tc, .ref ro, .ref tr, .ref ia, .ref aa, .int oa, .int ak, .int fa, .int (nI 2)])) x = some (oO 10 [.ref ra, .ref tp, .ref tc, .ref ro, .ref tr, .ref ia, .ref aa, .int oa, .int ak, .int fa, .int (nI 2)]) := fx_up_s _ _ _
          have hH : fx_H G base s (fx_up f x (oO 10 [.ref ra, .ref tp, .ref tc, .ref ro, .ref tr, .ref ia, .ref aa, .int oa, .int ak, .int fa, .int (nI 2)])) sz H locs := hH
          exact fx_iretP C hr hk hH (K2 c32 c40 c59 c76) (Nat.zero_le _) (Nat.zero_le _) dX11_copy_96
        · refine lv_aload hx hb dX11_copy_79 (lv_at hl 0 rfl) ?_
          refine lv_iload hx hb dX11_copy_81 (lv_at hl 6 rfl) ?_
          refine lv_iload hx hb dX11_copy_83 (lv_at hl 7 rfl) ?_
          refine fx_go1 hH (fx_runV C hH hl.1 (As := [.int j, .int n]) (rest := []) (c_X6_holds (G := G) (base := base) (l := l) (f := f) (sz := sz) (r := rr2) (i := j) (n := n) (it := ri2) (mi := mi2) (la := la2) (si := nI sn2) h_rr2) mY_X6_holds ml_X11_76 im_X6_holds se_X6_X6_holds h_rr2 rfl rfl ⟨(Nat.le_of_ble_eq_true rfl), (Nat.le_of_ble_eq_true rfl)⟩ rfl (Nat.le_of_ble_eq_true rfl) ⟨(Nat.le_of_ble_eq_true rfl), (Nat.le_of_ble_eq_true rfl)⟩ dX11_copy_85) (fun H locs hH => ?_)
          refine fx_b_ne hx hb (tgt := 97) dX11_copy_88 (by decide) (fun c88 => ?_) (fun c88 => ?_)
          · obtain ⟨ix, nn, hix, rfl, rfl⟩ := hld (by omega) c76
            obtain ⟨jx, n2, hjx, rfl, hn2⟩ := hld (by omega) c88
            have hn2 : n2 = nn := by have := congrArg Int32.toInt hn2; rw [nI_toInt (by omega), nI_toInt (by omega)] at this; omega
            subst hn2
            · skip
              refine lv_aload hx hb dX11_copy_97 (lv_at hl 1 rfl) ?_
              refine fx_get C hH (k := 0) (v := .ref ri_) h_rr ff_X11_88_6 rfl dX11_copy_99 ?_
              refine lv_iload_n hx hb dX11_copy_102 rfl (lv_at hl 4 rfl) ?_
              refine lv_aload hx hb dX11_copy_103 (lv_at hl 0 rfl) ?_
              refine fx_get C hH (k := 0) (v := .ref ri2) h_rr2 ff_X11_88_6 rfl dX11_copy_105 ?_
              refine lv_iload hx hb dX11_copy_108 (lv_at hl 6 rfl) ?_
              refine lv_iload hx hb dX11_copy_110 (lv_at hl 7 rfl) ?_
              refine fx_copyi C hH hl.1 ml_X11_92 nt_acp st_acp ni_J10 h_ri_ h_ri2 (nI_nlt (b := 0) (by omega) (by omega)) (nI_nlt (b := 0) (by omega) (by omega)) (nI_nlt (b := 0) (by omega) (by omega)) (by rw [nI_clamp (by omega), nI_clamp (by omega)]; omega) (by rw [nI_clamp (by omega), nI_clamp (by omega)]; omega) (Nat.le_of_ble_eq_true rfl) (Nat.le_of_ble_eq_true rfl) dX11_copy_112 (fun H locs hH => ?_)
              have hH : fx_H G base s (fx_up f ri2 (oI 40 (va_cpy g g2 (nI ix).toNatClampNeg (nI jx).toNatClampNeg (nI n2).toNatClampNeg))) sz H locs := hH
              have h3_x : (fx_up f ri2 (oI 40 (va_cpy g g2 (nI ix).toNatClampNeg (nI jx).toNatClampNeg (nI n2).toNatClampNeg))) x = some (oO 10 [.ref ra, .ref tp, .ref tc, .ref ro, .ref tr, .ref ia, .ref aa, .int oa, .int ak, .int fa, .int fi]) := (fx_up_n _ _ (fx_ne h_x h_ri2 rfl)).trans h_x
              have h3_ra : (fx_up f ri2 (oI 40 (va_cpy g g2 (nI ix).toNatClampNeg (nI jx).toNatClampNeg (nI n2).toNatClampNeg))) ra = some (oR 4 8 gr) := (fx_up_n _ _ (fx_ne h_ra h_ri2 rfl)).trans h_ra
              have h3_rr : (fx_up f ri2 (oI 40 (va_cpy g g2 (nI ix).toNatClampNeg (nI jx).toNatClampNeg (nI n2).toNatClampNeg))) rr = some (oO 6 [.ref ri_, .int mi, .int la, .int (nI sn)]) := (fx_up_n _ _ (fx_ne h_rr h_ri2 rfl)).trans h_rr
              have h3_ri_ : (fx_up f ri2 (oI 40 (va_cpy g g2 (nI ix).toNatClampNeg (nI jx).toNatClampNeg (nI n2).toNatClampNeg))) ri_ = some (oI 40 g) := (fx_up_n _ _ hne_1).trans h_ri_
              have h3_rr2 : (fx_up f ri2 (oI 40 (va_cpy g g2 (nI ix).toNatClampNeg (nI jx).toNatClampNeg (nI n2).toNatClampNeg))) rr2 = some (oO 6 [.ref ri2, .int mi2, .int la2, .int (nI sn2)]) := (fx_up_n _ _ (fx_ne h_rr2 h_ri2 rfl)).trans h_rr2
              have h3_ri2 : (fx_up f ri2 (oI 40 (va_cpy g g2 (nI ix).toNatClampNeg (nI jx).toNatClampNeg (nI n2).toNatClampNeg))) ri2 = some (oI 40 (va_cpy g g2 (nI ix).toNatClampNeg (nI jx).toNatClampNeg (nI n2).toNatClampNeg)) := fx_up_s _ _ _
              have hg4 : (va_cpy g g2 (nI ix).toNatClampNeg (nI jx).toNatClampNeg (nI n2).toNatClampNeg) = (va_cpy g g2 ix jx n2) := by rw [nI_clamp (by omega), nI_clamp (by omega), nI_clamp (by omega)]
              rw [hg4] at hH
              have hH : fx_H G base s (fx_up f ri2 (oI 40 (va_cpy g g2 ix jx n2))) sz H locs := hH
              have h4_x : (fx_up f ri2 (oI 40 (va_cpy g g2 ix jx n2))) x = some (oO 10 [.ref ra, .ref tp, .ref tc, .ref ro, .ref tr, .ref ia, .ref aa, .int oa, .int ak, .int fa, .int fi]) := by rw [← hg4]; exact h3_x
              have h4_ra : (fx_up f ri2 (oI 40 (va_cpy g g2 ix jx n2))) ra = some (oR 4 8 gr) := by rw [← hg4]; exact h3_ra
              have h4_rr : (fx_up f ri2 (oI 40 (va_cpy g g2 ix jx n2))) rr = some (oO 6 [.ref ri_, .int mi, .int la, .int (nI sn)]) := by rw [← hg4]; exact h3_rr
              have h4_ri_ : (fx_up f ri2 (oI 40 (va_cpy g g2 ix jx n2))) ri_ = some (oI 40 g) := by rw [← hg4]; exact h3_ri_
              have h4_rr2 : (fx_up f ri2 (oI 40 (va_cpy g g2 ix jx n2))) rr2 = some (oO 6 [.ref ri2, .int mi2, .int la2, .int (nI sn2)]) := by rw [← hg4]; exact h3_rr2
              have h4_ri2 : (fx_up f ri2 (oI 40 (va_cpy g g2 ix jx n2))) ri2 = some (oI 40 (va_cpy g g2 ix jx n2)) := by rw [← hg4]; exact h3_ri2
              refine lv_aload_n hx hb dX11_copy_115 rfl (lv_at hl 2 rfl) ?_
              refine lv_iload hx hb dX11_copy_116 (lv_at hl 7 rfl) ?_
              refine fx_go1 hH (fx_runV C hH hl.1 (As := [.int (nI n2)]) (rest := []) (c_X11_unfound (G := G) (base := base) (l := l) (f := fx_up f ri2 (oI 40 (va_cpy g g2 ix jx n2))) (sz := sz) (x := x) (nn := nI n2) (ra := ra) (tp := tp) (tc := tc) (ro := ro) (tr := tr) (ia := ia) (aa := aa) (oa := oa) (ak := ak) (fa := fa) (fi := fi) h4_x) mY_X11_unfound ml_X11_69 im_X11_unfound se_X11_X11_unfound h4_x rfl rfl ⟨(Nat.le_of_ble_eq_true rfl), (Nat.le_of_ble_eq_true rfl)⟩ rfl (Nat.le_of_ble_eq_true rfl) ⟨(Nat.le_of_ble_eq_true rfl), (Nat.le_of_ble_eq_true rfl)⟩ dX11_copy_118) (fun H locs hH => ?_)
              have hH : fx_H G base s (fx_up (fx_up f ri2 (oI 40 (va_cpy g g2 ix jx n2))) x (oO 10 [.ref ra, .ref tp, .ref tc, .ref ro, .ref tr, .ref ia, .ref aa, .int oa, .int ak, .int fa, .int (nI 0)])) sz H locs := hH
              have h5_ra : (fx_up (fx_up f ri2 (oI 40 (va_cpy g g2 ix jx n2))) x (oO 10 [.ref ra, .ref tp, .ref tc, .ref ro, .ref tr, .ref ia, .ref aa, .int oa, .int ak, .int fa, .int (nI 0)])) ra = some (oR 4 8 gr) := (fx_up_n _ _ (fx_ne h4_ra h4_x rfl)).trans h4_ra
              have h5_rr : (fx_up (fx_up f ri2 (oI 40 (va_cpy g g2 ix jx n2))) x (oO 10 [.ref ra, .ref tp, .ref tc, .ref ro, .ref tr, .ref ia, .ref aa, .int oa, .int ak, .int fa, .int (nI 0)])) rr = some (oO 6 [.ref ri_, .int mi, .int la, .int (nI sn)]) := (fx_up_n _ _ (fx_ne h4_rr h4_x rfl)).trans h4_rr
              have h5_ri_ : (fx_up (fx_up f ri2 (oI 40 (va_cpy g g2 ix jx n2))) x (oO 10 [.ref ra, .ref tp, .ref tc, .ref ro, .ref tr, .ref ia, .ref aa, .int oa, .int ak, .int fa, .int (nI 0)])) ri_ = some (oI 40 g) := (fx_up_n _ _ (fx_ne h4_ri_ h4_x rfl)).trans h4_ri_
              have h5_rr2 : (fx_up (fx_up f ri2 (oI 40 (va_cpy g g2 ix jx n2))) x (oO 10 [.ref ra, .ref tp, .ref tc, .ref ro, .ref tr, .ref ia, .ref aa, .int oa, .int ak, .int fa, .int (nI 0)])) rr2 = some (oO 6 [.ref ri2, .int mi2, .int la2, .int (nI sn2)]) := (fx_up_n _ _ (fx_ne h4_rr2 h4_x rfl)).trans h4_rr2
              have h5_ri2 : (fx_up (fx_up f ri2 (oI 40 (va_cpy g g2 ix jx n2))) x (oO 10 [.ref ra, .ref tp, .ref tc, .ref ro, .ref tr, .ref ia, .ref aa, .int oa, .int ak, .int fa, .int (nI 0)])) ri2 = some (oI 40 (va_cpy g g2 ix jx n2)) := (fx_up_n _ _ (fx_ne h4_ri2 h4_x rfl)).trans h4_ri2
              have h5_x : (fx_up (fx_up f ri2 (oI 40 (va_cpy g g2 ix jx n2))) x (oO 10 [.ref ra, .ref tp, .ref tc, .ref ro, .ref tr, .ref ia, .ref aa, .int oa, .int ak, .int fa, .int (nI 0)])) x = some (oO 10 [.ref ra, .ref tp, .ref tc, .ref ro, .ref tr, .ref ia, .ref aa, .int oa, .int ak, .int fa, .int (nI 0)]) := fx_up_s _ _ _
              have hH : fx_H G base s (fx_up (fx_up f ri2 (oI 40 (va_cpy g g2 ix jx n2))) x (oO 10 [.ref ra, .ref tp, .ref tc, .ref ro, .ref tr, .ref ia, .ref aa, .int oa, .int ak, .int fa, .int (nI 0)])) sz H locs := hH
              exact fx_iretP C hr hk hH (K3 c32 c40 c59 c76 c88 ix n2 jx hix hjx rfl rfl rfl) (Nat.zero_le _) (Nat.zero_le _) dX11_copy_121
          · refine lv_aload_n hx hb dX11_copy_91 rfl (lv_at hl 2 rfl) ?_
            refine lv_iconst (v := nI 2) hx hb dX11_copy_92 (by decide) ?_
            refine fx_go1 hH (fx_runV C hH hl.1 (As := [.int (nI 2)]) (rest := []) (c_X11_finding (G := G) (base := base) (l := l) (f := f) (sz := sz) (x := x) (nn := nI 2) (ra := ra) (tp := tp) (tc := tc) (ro := ro) (tr := tr) (ia := ia) (aa := aa) (oa := oa) (ak := ak) (fa := fa) (fi := fi) h_x) mY_X11_finding ml_X11_61 im_X11_finding se_X11_X11_finding h_x rfl rfl ⟨(Nat.le_of_ble_eq_true rfl), (Nat.le_of_ble_eq_true rfl)⟩ rfl (Nat.le_of_ble_eq_true rfl) ⟨(Nat.le_of_ble_eq_true rfl), (Nat.le_of_ble_eq_true rfl)⟩ dX11_copy_93) (fun H locs hH => ?_)
            have hH : fx_H G base s (fx_up f x (oO 10 [.ref ra, .ref tp, .ref tc, .ref ro, .ref tr, .ref ia, .ref aa, .int oa, .int ak, .int fa, .int (nI 2)])) sz H locs := hH
            have h6_ra : (fx_up f x (oO 10 [.ref ra, .ref tp, .ref tc, .ref ro, .ref tr, .ref ia, .ref aa, .int oa, .int ak, .int fa, .int (nI 2)])) ra = some (oR 4 8 gr) := (fx_up_n _ _ (fx_ne h_ra h_x rfl)).trans h_ra
            have h6_rr : (fx_up f x (oO 10 [.ref ra, .ref tp, .ref tc, .ref ro, .ref tr, .ref ia, .ref aa, .int oa, .int ak, .int fa, .int (nI 2)])) rr = some (oO 6 [.ref ri_, .int mi, .int la, .int (nI sn)]) := (fx_up_n _ _ (fx_ne h_rr h_x rfl)).trans h_rr
            have h6_ri_ : (fx_up f x (oO 10 [.ref ra, .ref tp, .ref tc, .ref ro, .ref tr, .ref ia, .ref aa, .int oa, .int ak, .int fa, .int (nI 2)])) ri_ = some (oI 40 g) := (fx_up_n _ _ (fx_ne h_ri_ h_x rfl)).trans h_ri_
            have h6_rr2 : (fx_up f x (oO 10 [.ref ra, .ref tp, .ref tc, .ref ro, .ref tr, .ref ia, .ref aa, .int oa, .int ak, .int fa, .int (nI 2)])) rr2 = some (oO 6 [.ref ri2, .int mi2, .int la2, .int (nI sn2)]) := (fx_up_n _ _ (fx_ne h_rr2 h_x rfl)).trans h_rr2
            have h6_ri2 : (fx_up f x (oO 10 [.ref ra, .ref tp, .ref tc, .ref ro, .ref tr, .ref ia, .ref aa, .int oa, .int ak, .int fa, .int (nI 2)])) ri2 = some (oI 40 g2) := (fx_up_n _ _ (fx_ne h_ri2 h_x rfl)).trans h_ri2
            have h6_x : (fx_up f x (oO 10 [.ref ra, .ref tp, .ref tc, .ref ro, .ref tr, .ref ia, .ref aa, .int oa, .int ak, .int fa, .int (nI 2)])) x = some (oO 10 [.ref ra, .ref tp, .ref tc, .ref ro, .ref tr, .ref ia, .ref aa, .int oa, .int ak, .int fa, .int (nI 2)]) := fx_up_s _ _ _
            have hH : fx_H G base s (fx_up f x (oO 10 [.ref ra, .ref tp, .ref tc, .ref ro, .ref tr, .ref ia, .ref aa, .int oa, .int ak, .int fa, .int (nI 2)])) sz H locs := hH
            exact fx_iretP C hr hk hH (K4 c32 c40 c59 c76 c88) (Nat.zero_le _) (Nat.zero_le _) dX11_copy_96
      · refine lv_aload_n hx hb dX11_copy_62 rfl (lv_at hl 2 rfl) ?_
        refine lv_iconst (v := nI 5) hx hb dX11_copy_63 (by decide) ?_
        refine fx_go1 hH (fx_runV C hH hl.1 (As := [.int (nI 5)]) (rest := []) (c_X11_finding (G := G) (base := base) (l := l) (f := f) (sz := sz) (x := x) (nn := nI 5) (ra := ra) (tp := tp) (tc := tc) (ro := ro) (tr := tr) (ia := ia) (aa := aa) (oa := oa) (ak := ak) (fa := fa) (fi := fi) h_x) mY_X11_finding ml_X11_61 im_X11_finding se_X11_X11_finding h_x rfl rfl ⟨(Nat.le_of_ble_eq_true rfl), (Nat.le_of_ble_eq_true rfl)⟩ rfl (Nat.le_of_ble_eq_true rfl) ⟨(Nat.le_of_ble_eq_true rfl), (Nat.le_of_ble_eq_true rfl)⟩ dX11_copy_64) (fun H locs hH => ?_)
        have hH : fx_H G base s (fx_up f x (oO 10 [.ref ra, .ref tp, .ref tc, .ref ro, .ref tr, .ref ia, .ref aa, .int oa, .int ak, .int fa, .int (nI 5)])) sz H locs := hH
        have h7_ra : (fx_up f x (oO 10 [.ref ra, .ref tp, .ref tc, .ref ro, .ref tr, .ref ia, .ref aa, .int oa, .int ak, .int fa, .int (nI 5)])) ra = some (oR 4 8 gr) := (fx_up_n _ _ (fx_ne h_ra h_x rfl)).trans h_ra
        have h7_rr : (fx_up f x (oO 10 [.ref ra, .ref tp, .ref tc, .ref ro, .ref tr, .ref ia, .ref aa, .int oa, .int ak, .int fa, .int (nI 5)])) rr = some (oO 6 [.ref ri_, .int mi, .int la, .int (nI sn)]) := (fx_up_n _ _ (fx_ne h_rr h_x rfl)).trans h_rr
        have h7_ri_ : (fx_up f x (oO 10 [.ref ra, .ref tp, .ref tc, .ref ro, .ref tr, .ref ia, .ref aa, .int oa, .int ak, .int fa, .int (nI 5)])) ri_ = some (oI 40 g) := (fx_up_n _ _ (fx_ne h_ri_ h_x rfl)).trans h_ri_
        have h7_rr2 : (fx_up f x (oO 10 [.ref ra, .ref tp, .ref tc, .ref ro, .ref tr, .ref ia, .ref aa, .int oa, .int ak, .int fa, .int (nI 5)])) rr2 = some (oO 6 [.ref ri2, .int mi2, .int la2, .int (nI sn2)]) := (fx_up_n _ _ (fx_ne h_rr2 h_x rfl)).trans h_rr2
        have h7_ri2 : (fx_up f x (oO 10 [.ref ra, .ref tp, .ref tc, .ref ro, .ref tr, .ref ia, .ref aa, .int oa, .int ak, .int fa, .int (nI 5)])) ri2 = some (oI 40 g2) := (fx_up_n _ _ (fx_ne h_ri2 h_x rfl)).trans h_ri2
        have h7_x : (fx_up f x (oO 10 [.ref ra, .ref tp, .ref tc, .ref ro, .ref tr, .ref ia, .ref aa, .int oa, .int ak, .int fa, .int (nI 5)])) x = some (oO 10 [.ref ra, .ref tp, .ref tc, .ref ro, .ref tr, .ref ia, .ref aa, .int oa, .int ak, .int fa, .int (nI 5)]) := fx_up_s _ _ _
        have hH : fx_H G base s (fx_up f x (oO 10 [.ref ra, .ref tp, .ref tc, .ref ro, .ref tr, .ref ia, .ref aa, .int oa, .int ak, .int fa, .int (nI 5)])) sz H locs := hH
        exact fx_iretP C hr hk hH (K5 c32 c40 c59) (Nat.zero_le _) (Nat.zero_le _) dX11_copy_67
    · refine lv_aload_n hx hb dX11_copy_43 rfl (lv_at hl 2 rfl) ?_
      refine lv_iconst (v := nI 1) hx hb dX11_copy_44 (by decide) ?_
      refine fx_go1 hH (fx_runV C hH hl.1 (As := [.int (nI 1)]) (rest := []) (c_X11_finding (G := G) (base := base) (l := l) (f := f) (sz := sz) (x := x) (nn := nI 1) (ra := ra) (tp := tp) (tc := tc) (ro := ro) (tr := tr) (ia := ia) (aa := aa) (oa := oa) (ak := ak) (fa := fa) (fi := fi) h_x) mY_X11_finding ml_X11_61 im_X11_finding se_X11_X11_finding h_x rfl rfl ⟨(Nat.le_of_ble_eq_true rfl), (Nat.le_of_ble_eq_true rfl)⟩ rfl (Nat.le_of_ble_eq_true rfl) ⟨(Nat.le_of_ble_eq_true rfl), (Nat.le_of_ble_eq_true rfl)⟩ dX11_copy_45) (fun H locs hH => ?_)
      have hH : fx_H G base s (fx_up f x (oO 10 [.ref ra, .ref tp, .ref tc, .ref ro, .ref tr, .ref ia, .ref aa, .int oa, .int ak, .int fa, .int (nI 1)])) sz H locs := hH
      have h8_ra : (fx_up f x (oO 10 [.ref ra, .ref tp, .ref tc, .ref ro, .ref tr, .ref ia, .ref aa, .int oa, .int ak, .int fa, .int (nI 1)])) ra = some (oR 4 8 gr) := (fx_up_n _ _ (fx_ne h_ra h_x rfl)).trans h_ra
      have h8_rr : (fx_up f x (oO 10 [.ref ra, .ref tp, .ref tc, .ref ro, .ref tr, .ref ia, .ref aa, .int oa, .int ak, .int fa, .int (nI 1)])) rr = some (oO 6 [.ref ri_, .int mi, .int la, .int (nI sn)]) := (fx_up_n _ _ (fx_ne h_rr h_x rfl)).trans h_rr
      have h8_ri_ : (fx_up f x (oO 10 [.ref ra, .ref tp, .ref tc, .ref ro, .ref tr, .ref ia, .ref aa, .int oa, .int ak, .int fa, .int (nI 1)])) ri_ = some (oI 40 g) := (fx_up_n _ _ (fx_ne h_ri_ h_x rfl)).trans h_ri_
      have h8_rr2 : (fx_up f x (oO 10 [.ref ra, .ref tp, .ref tc, .ref ro, .ref tr, .ref ia, .ref aa, .int oa, .int ak, .int fa, .int (nI 1)])) rr2 = some (oO 6 [.ref ri2, .int mi2, .int la2, .int (nI sn2)]) := (fx_up_n _ _ (fx_ne h_rr2 h_x rfl)).trans h_rr2
      have h8_ri2 : (fx_up f x (oO 10 [.ref ra, .ref tp, .ref tc, .ref ro, .ref tr, .ref ia, .ref aa, .int oa, .int ak, .int fa, .int (nI 1)])) ri2 = some (oI 40 g2) := (fx_up_n _ _ (fx_ne h_ri2 h_x rfl)).trans h_ri2
      have h8_x : (fx_up f x (oO 10 [.ref ra, .ref tp, .ref tc, .ref ro, .ref tr, .ref ia, .ref aa, .int oa, .int ak, .int fa, .int (nI 1)])) x = some (oO 10 [.ref ra, .ref tp, .ref tc, .ref ro, .ref tr, .ref ia, .ref aa, .int oa, .int ak, .int fa, .int (nI 1)]) := fx_up_s _ _ _
      have hH : fx_H G base s (fx_up f x (oO 10 [.ref ra, .ref tp, .ref tc, .ref ro, .ref tr, .ref ia, .ref aa, .int oa, .int ak, .int fa, .int (nI 1)])) sz H locs := hH
      exact fx_iretP C hr hk hH (K6 c32 c40) (Nat.zero_le _) (Nat.zero_le _) dX11_copy_48
set_option maxHeartbeats 4000000 in
set_option maxRecDepth 100000 in
theorem c_X11_copy_k {G : GG} {base : Nat} {l : Launch} {f : Hp} {sz : Nat} {Po : Option Value → Hp → Nat → Prop} {x : Nat} {kk : Nat} {i : Int32} {j : Int32} {n : Int32} {ra : Nat} {tp : Nat} {tc : Nat} {ro : Nat} {tr : Nat} {ia : Nat} {aa : Nat} {oa : Int32} {ak : Int32} {fa : Int32} {fi : Int32} {gr : Nat → Option Nat} {rr : Nat} {ri_ : Nat} {mi : Int32} {la : Int32} {sn : Nat} {g : Nat → Int32} (h_x : f x = some (oO 10 [.ref ra, .ref tp, .ref tc, .ref ro, .ref tr, .ref ia, .ref aa, .int oa, .int ak, .int fa, .int fi])) (h_ra : f ra = some (oR 4 8 gr)) (h_rr : f rr = some (oO 6 [.ref ri_, .int mi, .int la, .int (nI sn)])) (h_ri_ : f ri_ = some (oI 40 g)) (hkk : kk < 8) (hg : gr kk = some rr) (hsn : sn ≤ 40) (K1 : ∀ (c32 : ¬ mi = (0 : Int32)), Po (some (.int ((-1000010) - (nI 1)))) (fx_up f x (oO 10 [.ref ra, .ref tp, .ref tc, .ref ro, .ref tr, .ref ia, .ref aa, .int oa, .int ak, .int fa, .int (nI 1)])) sz)
    (K2 : ∀ (c32 : mi = (0 : Int32)), ∀ (c40 : mi = (0 : Int32)), ∀ (c59 : la = la), ∀ (c76 : ¬ (¬ i < 0 ∧ ¬ n < 0 ∧ ¬ (nI sn).toInt64 < i.toInt64 + n.toInt64)), Po (some (.int ((-1000010) - (nI 2)))) (fx_up f x (oO 10 [.ref ra, .ref tp, .ref tc, .ref ro, .ref tr, .ref ia, .ref aa, .int oa, .int ak, .int fa, .int (nI 2)])) sz)
    (K3 : ∀ (c32 : mi = (0 : Int32)), ∀ (c40 : mi = (0 : Int32)), ∀ (c59 : la = la), ∀ (c76 : (¬ i < 0 ∧ ¬ n < 0 ∧ ¬ (nI sn).toInt64 < i.toInt64 + n.toInt64)), ∀ (c88 : (¬ j < 0 ∧ ¬ n < 0 ∧ ¬ (nI sn).toInt64 < j.toInt64 + n.toInt64)), ∀ (ix : Nat), ∀ (n2 : Nat), ∀ (jx : Nat), ∀ (hix : ix + n2 ≤ sn), ∀ (hjx : jx + n2 ≤ sn), ∀ (hie : i = nI ix), ∀ (hne : n = nI n2), ∀ (hje : j = nI jx), Po (some (.int (nI n2))) (fx_up (fx_up f ri_ (oI 40 (va_cpy g g ix jx n2))) x (oO 10 [.ref ra, .ref tp, .ref tc, .ref ro, .ref tr, .ref ia, .ref aa, .int oa, .int ak, .int fa, .int (nI 0)])) sz)
    (K4 : ∀ (c32 : mi = (0 : Int32)), ∀ (c40 : mi = (0 : Int32)), ∀ (c59 : la = la), ∀ (c76 : (¬ i < 0 ∧ ¬ n < 0 ∧ ¬ (nI sn).toInt64 < i.toInt64 + n.toInt64)), ∀ (c88 : ¬ (¬ j < 0 ∧ ¬ n < 0 ∧ ¬ (nI sn).toInt64 < j.toInt64 + n.toInt64)), Po (some (.int ((-1000010) - (nI 2)))) (fx_up f x (oO 10 [.ref ra, .ref tp, .ref tc, .ref ro, .ref tr, .ref ia, .ref aa, .int oa, .int ak, .int fa, .int (nI 2)])) sz)
    (K5 : ∀ (c32 : mi = (0 : Int32)), ∀ (c40 : mi = (0 : Int32)), ∀ (c59 : ¬ la = la), Po (some (.int ((-1000010) - (nI 5)))) (fx_up f x (oO 10 [.ref ra, .ref tp, .ref tc, .ref ro, .ref tr, .ref ia, .ref aa, .int oa, .int ak, .int fa, .int (nI 5)])) sz)
    (K6 : ∀ (c32 : mi = (0 : Int32)), ∀ (c40 : ¬ mi = (0 : Int32)), Po (some (.int ((-1000010) - (nI 1)))) (fx_up f x (oO 10 [.ref ra, .ref tp, .ref tc, .ref ro, .ref tr, .ref ia, .ref aa, .int oa, .int ak, .int fa, .int (nI 1)])) sz) : fx_MP G base l yX11_copy cX11_copy 8 (some .int) rm_X11_copy [.ref x, .int (nI kk), .int i, .int (nI kk), .int j, .int n] f sz Po := by
  refine fx_ofP (by decide +kernel) (Nat.le_of_ble_eq_true rfl) ?_
  intro p e s m args below meth c C hr hk hnm hH ls hl
  obtain ⟨locs, hlocs⟩ : ∃ L : List Loc, L = [] := ⟨_, rfl⟩
  rw [← hlocs] at hH ⊢
  generalize s.heap = H at hH ⊢
  have hx := C.1
  have hb := C.2.1
  have hl : lv_has ls 8 [(0, .ref x), (1, .int (nI kk)), (2, .int i), (3, .int (nI kk)), (4, .int j), (5, .int n)] := hl
  refine lv_aload_n hx hb dX11_copy_0 rfl (lv_at hl 0 rfl) ?_
  refine lv_iload_n hx hb dX11_copy_1 rfl (lv_at hl 1 rfl) ?_
  refine fx_go1 hH (fx_runV C hH hl.1 (As := [.int (nI kk)]) (rest := []) (c_X11_rowAt_k (G := G) (base := base) (l := l) (f := f) (sz := sz) (rr := rr) (x := x) (kk := kk) (ra := ra) (tp := tp) (tc := tc) (ro := ro) (tr := tr) (ia := ia) (aa := aa) (oa := oa) (ak := ak) (fa := fa) (fi := fi) (gr := gr) h_x h_ra (by omega) hg) mY_X11_rowAt ml_X11_52 im_X11_rowAt se_X11_X11_rowAt h_x rfl rfl ⟨(Nat.le_of_ble_eq_true rfl), (Nat.le_of_ble_eq_true rfl)⟩ rfl (Nat.le_of_ble_eq_true rfl) ⟨(Nat.le_of_ble_eq_true rfl), (Nat.le_of_ble_eq_true rfl)⟩ dX11_copy_2) (fun H locs hH => ?_)
  refine lv_astore (lv' := [(6, .ref rr), (0, .ref x), (1, .int (nI kk)), (2, .int i), (3, .int (nI kk)), (4, .int j), (5, .int n)]) hx hb dX11_copy_5 hl (by decide) rfl (fun ls hl => ?_)
  refine lv_aload_n hx hb dX11_copy_7 rfl (lv_at hl 1 rfl) ?_
  refine lv_iload_n hx hb dX11_copy_8 rfl (lv_at hl 4 rfl) ?_
  refine fx_go1 hH (fx_runV C hH hl.1 (As := [.int (nI kk)]) (rest := []) (c_X11_rowAt_k (G := G) (base := base) (l := l) (f := f) (sz := sz) (rr := rr) (x := x) (kk := kk) (ra := ra) (tp := tp) (tc := tc) (ro := ro) (tr := tr) (ia := ia) (aa := aa) (oa := oa) (ak := ak) (fa := fa) (fi := fi) (gr := gr) h_x h_ra (by omega) hg) mY_X11_rowAt ml_X11_52 im_X11_rowAt se_X11_X11_rowAt h_x rfl rfl ⟨(Nat.le_of_ble_eq_true rfl), (Nat.le_of_ble_eq_true rfl)⟩ rfl (Nat.le_of_ble_eq_true rfl) ⟨(Nat.le_of_ble_eq_true rfl), (Nat.le_of_ble_eq_true rfl)⟩ dX11_copy_9) (fun H locs hH => ?_)
  refine lv_astore (lv' := [(7, .ref rr), (6, .ref rr), (0, .ref x), (1, .int (nI kk)), (2, .int i), (3, .int (nI kk)), (4, .int j), (5, .int n)]) hx hb dX11_copy_12 hl (by decide) rfl (fun ls hl => ?_)
  refine lv_aload hx hb dX11_copy_14 (lv_at hl 1 rfl) ?_
  refine lv_ifnull hx hb dX11_copy_16 ?_
  refine lv_aload hx hb dX11_copy_19 (lv_at hl 0 rfl) ?_
  refine lv_ifnonnull (tgt := 27) hx hb dX11_copy_21 (by decide) ?_
  refine lv_aload hx hb dX11_copy_27 (lv_at hl 1 rfl) ?_
  refine fx_get C hH (k := 1) (v := .int mi) h_rr ff_X11_72_6 rfl dX11_copy_29 ?_
  refine lv_if_ne hx hb (tgt := 43) dX11_copy_32 (by decide) (fun c32 => ?_) (fun c32 => ?_)
  · refine lv_aload_n hx hb dX11_copy_43 rfl (lv_at hl 2 rfl) ?_
    refine lv_iconst (v := nI 1) hx hb dX11_copy_44 (by decide) ?_
    refine fx_go1 hH (fx_runV C hH hl.1 (As := [.int (nI 1)]) (rest := []) (c_X11_finding (G := G) (base := base) (l := l) (f := f) (sz := sz) (x := x) (nn := nI 1) (ra := ra) (tp := tp) (tc := tc) (ro := ro) (tr := tr) (ia := ia) (aa := aa) (oa := oa) (ak := ak) (fa := fa) (fi := fi) h_x) mY_X11_finding ml_X11_61 im_X11_finding se_X11_X11_finding h_x rfl rfl ⟨(Nat.le_of_ble_eq_true rfl), (Nat.le_of_ble_eq_true rfl)⟩ rfl (Nat.le_of_ble_eq_true rfl) ⟨(Nat.le_of_ble_eq_true rfl), (Nat.le_of_ble_eq_true rfl)⟩ dX11_copy_45) (fun H locs hH => ?_)
    have hH : fx_H G base s (fx_up f x (oO 10 [.ref ra, .ref tp, .ref tc, .ref ro, .ref tr, .ref ia, .ref aa, .int oa, .int ak, .int fa, .int (nI 1)])) sz H locs := hH
    have h1_ra : (fx_up f x (oO 10 [.ref ra, .ref tp, .ref tc, .ref ro, .ref tr, .ref ia, .ref aa, .int oa, .int ak, .int fa, .int (nI 1)])) ra = some (oR 4 8 gr) := (fx_up_n _ _ (fx_ne h_ra h_x rfl)).trans h_ra
    have h1_rr : (fx_up f x (oO 10 [.ref ra, .ref tp, .ref tc, .ref ro, .ref tr, .ref ia, .ref aa, .int oa, .int ak, .int fa, .int (nI 1)])) rr = some (oO 6 [.ref ri_, .int mi, .int la, .int (nI sn)]) := (fx_up_n _ _ (fx_ne h_rr h_x rfl)).trans h_rr
    have h1_ri_ : (fx_up f x (oO 10 [.ref ra, .ref tp, .ref tc, .ref ro, .ref tr, .ref ia, .ref aa, .int oa, .int ak, .int fa, .int (nI 1)])) ri_ = some (oI 40 g) := (fx_up_n _ _ (fx_ne h_ri_ h_x rfl)).trans h_ri_
    have h1_x : (fx_up f x (oO 10 [.ref ra, .ref tp, .ref tc, .ref ro, .ref tr, .ref ia, .ref aa, .int oa, .int ak, .int fa, .int (nI 1)])) x = some (oO 10 [.ref ra, .ref tp, .ref tc, .ref ro, .ref tr, .ref ia, .ref aa, .int oa, .int ak, .int fa, .int (nI 1)]) := fx_up_s _ _ _
    have hH : fx_H G base s (fx_up f x (oO 10 [.ref ra, .ref tp, .ref tc, .ref ro, .ref tr, .ref ia, .ref aa, .int oa, .int ak, .int fa, .int (nI 1)])) sz H locs := hH
    exact fx_iretP C hr hk hH (K1 c32) (Nat.zero_le _) (Nat.zero_le _) dX11_copy_48
  · refine lv_aload hx hb dX11_copy_35 (lv_at hl 0 rfl) ?_
    refine fx_get C hH (k := 1) (v := .int mi) h_rr ff_X11_72_6 rfl dX11_copy_37 ?_
    refine lv_if_eq hx hb (tgt := 49) dX11_copy_40 (by decide) (fun c40 => ?_) (fun c40 => ?_)
    · refine lv_aload hx hb dX11_copy_49 (lv_at hl 1 rfl) ?_
      refine fx_get C hH (k := 2) (v := .int la) h_rr ff_X11_84_6 rfl dX11_copy_51 ?_
      refine lv_aload hx hb dX11_copy_54 (lv_at hl 0 rfl) ?_
      refine fx_get C hH (k := 2) (v := .int la) h_rr ff_X11_84_6 rfl dX11_copy_56 ?_
      refine lv_icmp_eq hx hb (tgt := 68) dX11_copy_59 (by decide) (fun c59 => ?_) (fun c59 => ?_)
      · refine lv_aload hx hb dX11_copy_68 (lv_at hl 1 rfl) ?_
        refine lv_iload_n hx hb dX11_copy_70 rfl (lv_at hl 4 rfl) ?_
        refine lv_iload hx hb dX11_copy_71 (lv_at hl 7 rfl) ?_
        refine fx_go1 hH (fx_runV C hH hl.1 (As := [.int i, .int n]) (rest := []) (c_X6_holds (G := G) (base := base) (l := l) (f := f) (sz := sz) (r := rr) (i := i) (n := n) (it := ri_) (mi := mi) (la := la) (si := nI sn) h_rr) mY_X6_holds ml_X11_76 im_X6_holds se_X6_X6_holds h_rr rfl rfl ⟨(Nat.le_of_ble_eq_true rfl), (Nat.le_of_ble_eq_true rfl)⟩ rfl (Nat.le_of_ble_eq_true rfl) ⟨(Nat.le_of_ble_eq_true rfl), (Nat.le_of_ble_eq_true rfl)⟩ dX11_copy_73) (fun H locs hH => ?_)
        refine fx_b_eq hx hb (tgt := 91) dX11_copy_76 (by decide) (fun c76 => ?_) (fun c76 => ?_)
        · refine lv_aload_n hx hb dX11_copy_91 rfl (lv_at hl 2 rfl) ?_
          refine lv_iconst (v := nI 2) hx hb dX11_copy_92 (by decide) ?_
          refine fx_go1 hH (fx_runV C hH hl.1 (As := [.int (nI 2)]) (rest := []) (c_X11_finding (G := G) (base := base) (l := l) (f := f) (sz := sz) (x := x) (nn := nI 2) (ra := ra) (tp := tp) (tc := tc) (ro := ro) (tr := tr) (ia := ia) (aa := aa) (oa := oa) (ak := ak) (fa := fa) (fi := fi) h_x) mY_X11_finding ml_X11_61 im_X11_finding se_X11_X11_finding h_x rfl rfl ⟨(Nat.le_of_ble_eq_true rfl), (Nat.le_of_ble_eq_true rfl)⟩ rfl (Nat.le_of_ble_eq_true rfl) ⟨(Nat.le_of_ble_eq_true rfl), (Nat.le_of_ble_eq_true rfl)⟩ dX11_copy_93) (fun H locs hH => ?_)
          have hH : fx_H G base s (fx_up f x (oO 10 [.ref ra, .ref tp, .ref tc, .ref ro, .ref tr, .ref ia, .ref aa, .int oa, .int ak, .int fa, .int (nI 2)])) sz H locs := hH
          have h2_ra : (fx_up f x (oO 10 [.ref ra, .ref tp, .ref tc, .ref ro, .ref tr, .ref ia, .ref aa, .int oa, .int ak, .int fa, .int (nI 2)])) ra = some (oR 4 8 gr) := (fx_up_n _ _ (fx_ne h_ra h_x rfl)).trans h_ra
          have h2_rr : (fx_up f x (oO 10 [.ref ra, .ref tp, .ref tc, .ref ro, .ref tr, .ref ia, .ref aa, .int oa, .int ak, .int fa, .int (nI 2)])) rr = some (oO 6 [.ref ri_, .int mi, .int la, .int (nI sn)]) := (fx_up_n _ _ (fx_ne h_rr h_x rfl)).trans h_rr
          have h2_ri_ : (fx_up f x (oO 10 [.ref ra, .ref tp, .ref tc, .ref ro, .ref tr, .ref ia, .ref aa, .int oa, .int ak, .int fa, .int (nI 2)])) ri_ = some (oI 40 g) := (fx_up_n _ _ (fx_ne h_ri_ h_x rfl)).trans h_ri_
          have h2_x : (fx_up f x (oO 10 [.ref ra, .ref tp, .ref tc, .ref ro, .ref tr, .ref ia, .ref aa, .int oa, .int ak, .int fa, .int (nI 2)])) x = some (oO 10 [.ref ra, .ref tp, .ref tc, .ref ro, .ref tr, .ref ia, .ref aa, .int oa, .int ak, .int fa, .int (nI 2)]) := fx_up_s _ _ _
          have hH : fx_H G base s (fx_up f x (oO 10 [.ref ra, .ref tp, .ref tc, .ref ro, .ref tr, .ref ia, .ref aa, .int oa, .int ak, .int fa, .int (nI 2)])) sz H locs := hH
          exact fx_iretP C hr hk hH (K2 c32 c40 c59 c76) (Nat.zero_le _) (Nat.zero_le _) dX11_copy_96
        · refine lv_aload hx hb dX11_copy_79 (lv_at hl 0 rfl) ?_
          refine lv_iload hx hb dX11_copy_81 (lv_at hl 6 rfl) ?_
          refine lv_iload hx hb dX11_copy_83 (lv_at hl 7 rfl) ?_
          refine fx_go1 hH (fx_runV C hH hl.1 (As := [.int j, .int n]) (rest := []) (c_X6_holds (G := G) (base := base) (l := l) (f := f) (sz := sz) (r := rr) (i := j) (n := n) (it := ri_) (mi := mi) (la := la) (si := nI sn) h_rr) mY_X6_holds ml_X11_76 im_X6_holds se_X6_X6_holds h_rr rfl rfl ⟨(Nat.le_of_ble_eq_true rfl), (Nat.le_of_ble_eq_true rfl)⟩ rfl (Nat.le_of_ble_eq_true rfl) ⟨(Nat.le_of_ble_eq_true rfl), (Nat.le_of_ble_eq_true rfl)⟩ dX11_copy_85) (fun H locs hH => ?_)
          refine fx_b_ne hx hb (tgt := 97) dX11_copy_88 (by decide) (fun c88 => ?_) (fun c88 => ?_)
          · obtain ⟨ix, nn, hix, rfl, rfl⟩ := hld (by omega) c76
            obtain ⟨jx, n2, hjx, rfl, hn2⟩ := hld (by omega) c88
            have hn2 : n2 = nn := by have := congrArg Int32.toInt hn2; rw [nI_toInt (by omega), nI_toInt (by omega)] at this; omega
            subst hn2
            · skip
              refine lv_aload hx hb dX11_copy_97 (lv_at hl 1 rfl) ?_
              refine fx_get C hH (k := 0) (v := .ref ri_) h_rr ff_X11_88_6 rfl dX11_copy_99 ?_
              refine lv_iload_n hx hb dX11_copy_102 rfl (lv_at hl 4 rfl) ?_
              refine lv_aload hx hb dX11_copy_103 (lv_at hl 0 rfl) ?_
              refine fx_get C hH (k := 0) (v := .ref ri_) h_rr ff_X11_88_6 rfl dX11_copy_105 ?_
              refine lv_iload hx hb dX11_copy_108 (lv_at hl 6 rfl) ?_
              refine lv_iload hx hb dX11_copy_110 (lv_at hl 7 rfl) ?_
              refine fx_copyi C hH hl.1 ml_X11_92 nt_acp st_acp ni_J10 h_ri_ h_ri_ (nI_nlt (b := 0) (by omega) (by omega)) (nI_nlt (b := 0) (by omega) (by omega)) (nI_nlt (b := 0) (by omega) (by omega)) (by rw [nI_clamp (by omega), nI_clamp (by omega)]; omega) (by rw [nI_clamp (by omega), nI_clamp (by omega)]; omega) (Nat.le_of_ble_eq_true rfl) (Nat.le_of_ble_eq_true rfl) dX11_copy_112 (fun H locs hH => ?_)
              have hH : fx_H G base s (fx_up f ri_ (oI 40 (va_cpy g g (nI ix).toNatClampNeg (nI jx).toNatClampNeg (nI n2).toNatClampNeg))) sz H locs := hH
              have h3_x : (fx_up f ri_ (oI 40 (va_cpy g g (nI ix).toNatClampNeg (nI jx).toNatClampNeg (nI n2).toNatClampNeg))) x = some (oO 10 [.ref ra, .ref tp, .ref tc, .ref ro, .ref tr, .ref ia, .ref aa, .int oa, .int ak, .int fa, .int fi]) := (fx_up_n _ _ (fx_ne h_x h_ri_ rfl)).trans h_x
              have h3_ra : (fx_up f ri_ (oI 40 (va_cpy g g (nI ix).toNatClampNeg (nI jx).toNatClampNeg (nI n2).toNatClampNeg))) ra = some (oR 4 8 gr) := (fx_up_n _ _ (fx_ne h_ra h_ri_ rfl)).trans h_ra
              have h3_rr : (fx_up f ri_ (oI 40 (va_cpy g g (nI ix).toNatClampNeg (nI jx).toNatClampNeg (nI n2).toNatClampNeg))) rr = some (oO 6 [.ref ri_, .int mi, .int la, .int (nI sn)]) := (fx_up_n _ _ (fx_ne h_rr h_ri_ rfl)).trans h_rr
              have h3_ri_ : (fx_up f ri_ (oI 40 (va_cpy g g (nI ix).toNatClampNeg (nI jx).toNatClampNeg (nI n2).toNatClampNeg))) ri_ = some (oI 40 (va_cpy g g (nI ix).toNatClampNeg (nI jx).toNatClampNeg (nI n2).toNatClampNeg)) := fx_up_s _ _ _
              have hg4 : (va_cpy g g (nI ix).toNatClampNeg (nI jx).toNatClampNeg (nI n2).toNatClampNeg) = (va_cpy g g ix jx n2) := by rw [nI_clamp (by omega), nI_clamp (by omega), nI_clamp (by omega)]
              rw [hg4] at hH
              have hH : fx_H G base s (fx_up f ri_ (oI 40 (va_cpy g g ix jx n2))) sz H locs := hH
              have h4_x : (fx_up f ri_ (oI 40 (va_cpy g g ix jx n2))) x = some (oO 10 [.ref ra, .ref tp, .ref tc, .ref ro, .ref tr, .ref ia, .ref aa, .int oa, .int ak, .int fa, .int fi]) := by rw [← hg4]; exact h3_x
              have h4_ra : (fx_up f ri_ (oI 40 (va_cpy g g ix jx n2))) ra = some (oR 4 8 gr) := by rw [← hg4]; exact h3_ra
              have h4_rr : (fx_up f ri_ (oI 40 (va_cpy g g ix jx n2))) rr = some (oO 6 [.ref ri_, .int mi, .int la, .int (nI sn)]) := by rw [← hg4]; exact h3_rr
              have h4_ri_ : (fx_up f ri_ (oI 40 (va_cpy g g ix jx n2))) ri_ = some (oI 40 (va_cpy g g ix jx n2)) := by rw [← hg4]; exact h3_ri_
              refine lv_aload_n hx hb dX11_copy_115 rfl (lv_at hl 2 rfl) ?_
              refine lv_iload hx hb dX11_copy_116 (lv_at hl 7 rfl) ?_
              refine fx_go1 hH (fx_runV C hH hl.1 (As := [.int (nI n2)]) (rest := []) (c_X11_unfound (G := G) (base := base) (l := l) (f := fx_up f ri_ (oI 40 (va_cpy g g ix jx n2))) (sz := sz) (x := x) (nn := nI n2) (ra := ra) (tp := tp) (tc := tc) (ro := ro) (tr := tr) (ia := ia) (aa := aa) (oa := oa) (ak := ak) (fa := fa) (fi := fi) h4_x) mY_X11_unfound ml_X11_69 im_X11_unfound se_X11_X11_unfound h4_x rfl rfl ⟨(Nat.le_of_ble_eq_true rfl), (Nat.le_of_ble_eq_true rfl)⟩ rfl (Nat.le_of_ble_eq_true rfl) ⟨(Nat.le_of_ble_eq_true rfl), (Nat.le_of_ble_eq_true rfl)⟩ dX11_copy_118) (fun H locs hH => ?_)
              have hH : fx_H G base s (fx_up (fx_up f ri_ (oI 40 (va_cpy g g ix jx n2))) x (oO 10 [.ref ra, .ref tp, .ref tc, .ref ro, .ref tr, .ref ia, .ref aa, .int oa, .int ak, .int fa, .int (nI 0)])) sz H locs := hH
              have h5_ra : (fx_up (fx_up f ri_ (oI 40 (va_cpy g g ix jx n2))) x (oO 10 [.ref ra, .ref tp, .ref tc, .ref ro, .ref tr, .ref ia, .ref aa, .int oa, .int ak, .int fa, .int (nI 0)])) ra = some (oR 4 8 gr) := (fx_up_n _ _ (fx_ne h4_ra h4_x rfl)).trans h4_ra
              have h5_rr : (fx_up (fx_up f ri_ (oI 40 (va_cpy g g ix jx n2))) x (oO 10 [.ref ra, .ref tp, .ref tc, .ref ro, .ref tr, .ref ia, .ref aa, .int oa, .int ak, .int fa, .int (nI 0)])) rr = some (oO 6 [.ref ri_, .int mi, .int la, .int (nI sn)]) := (fx_up_n _ _ (fx_ne h4_rr h4_x rfl)).trans h4_rr
              have h5_ri_ : (fx_up (fx_up f ri_ (oI 40 (va_cpy g g ix jx n2))) x (oO 10 [.ref ra, .ref tp, .ref tc, .ref ro, .ref tr, .ref ia, .ref aa, .int oa, .int ak, .int fa, .int (nI 0)])) ri_ = some (oI 40 (va_cpy g g ix jx n2)) := (fx_up_n _ _ (fx_ne h4_ri_ h4_x rfl)).trans h4_ri_
              have h5_x : (fx_up (fx_up f ri_ (oI 40 (va_cpy g g ix jx n2))) x (oO 10 [.ref ra, .ref tp, .ref tc, .ref ro, .ref tr, .ref ia, .ref aa, .int oa, .int ak, .int fa, .int (nI 0)])) x = some (oO 10 [.ref ra, .ref tp, .ref tc, .ref ro, .ref tr, .ref ia, .ref aa, .int oa, .int ak, .int fa, .int (nI 0)]) := fx_up_s _ _ _
              have hH : fx_H G base s (fx_up (fx_up f ri_ (oI 40 (va_cpy g g ix jx n2))) x (oO 10 [.ref ra, .ref tp, .ref tc, .ref ro, .ref tr, .ref ia, .ref aa, .int oa, .int ak, .int fa, .int (nI 0)])) sz H locs := hH
              exact fx_iretP C hr hk hH (K3 c32 c40 c59 c76 c88 ix n2 jx hix hjx rfl rfl rfl) (Nat.zero_le _) (Nat.zero_le _) dX11_copy_121
          · refine lv_aload_n hx hb dX11_copy_91 rfl (lv_at hl 2 rfl) ?_
            refine lv_iconst (v := nI 2) hx hb dX11_copy_92 (by decide) ?_
            refine fx_go1 hH (fx_runV C hH hl.1 (As := [.int (nI 2)]) (rest := []) (c_X11_finding (G := G) (base := base) (l := l) (f := f) (sz := sz) (x := x) (nn := nI 2) (ra := ra) (tp := tp) (tc := tc) (ro := ro) (tr := tr) (ia := ia) (aa := aa) (oa := oa) (ak := ak) (fa := fa) (fi := fi) h_x) mY_X11_finding ml_X11_61 im_X11_finding se_X11_X11_finding h_x rfl rfl ⟨(Nat.le_of_ble_eq_true rfl), (Nat.le_of_ble_eq_true rfl)⟩ rfl (Nat.le_of_ble_eq_true rfl) ⟨(Nat.le_of_ble_eq_true rfl), (Nat.le_of_ble_eq_true rfl)⟩ dX11_copy_93) (fun H locs hH => ?_)
            have hH : fx_H G base s (fx_up f x (oO 10 [.ref ra, .ref tp, .ref tc, .ref ro, .ref tr, .ref ia, .ref aa, .int oa, .int ak, .int fa, .int (nI 2)])) sz H locs := hH
            have h6_ra : (fx_up f x (oO 10 [.ref ra, .ref tp, .ref tc, .ref ro, .ref tr, .ref ia, .ref aa, .int oa, .int ak, .int fa, .int (nI 2)])) ra = some (oR 4 8 gr) := (fx_up_n _ _ (fx_ne h_ra h_x rfl)).trans h_ra
            have h6_rr : (fx_up f x (oO 10 [.ref ra, .ref tp, .ref tc, .ref ro, .ref tr, .ref ia, .ref aa, .int oa, .int ak, .int fa, .int (nI 2)])) rr = some (oO 6 [.ref ri_, .int mi, .int la, .int (nI sn)]) := (fx_up_n _ _ (fx_ne h_rr h_x rfl)).trans h_rr
            have h6_ri_ : (fx_up f x (oO 10 [.ref ra, .ref tp, .ref tc, .ref ro, .ref tr, .ref ia, .ref aa, .int oa, .int ak, .int fa, .int (nI 2)])) ri_ = some (oI 40 g) := (fx_up_n _ _ (fx_ne h_ri_ h_x rfl)).trans h_ri_
            have h6_x : (fx_up f x (oO 10 [.ref ra, .ref tp, .ref tc, .ref ro, .ref tr, .ref ia, .ref aa, .int oa, .int ak, .int fa, .int (nI 2)])) x = some (oO 10 [.ref ra, .ref tp, .ref tc, .ref ro, .ref tr, .ref ia, .ref aa, .int oa, .int ak, .int fa, .int (nI 2)]) := fx_up_s _ _ _
            have hH : fx_H G base s (fx_up f x (oO 10 [.ref ra, .ref tp, .ref tc, .ref ro, .ref tr, .ref ia, .ref aa, .int oa, .int ak, .int fa, .int (nI 2)])) sz H locs := hH
            exact fx_iretP C hr hk hH (K4 c32 c40 c59 c76 c88) (Nat.zero_le _) (Nat.zero_le _) dX11_copy_96
      · refine lv_aload_n hx hb dX11_copy_62 rfl (lv_at hl 2 rfl) ?_
        refine lv_iconst (v := nI 5) hx hb dX11_copy_63 (by decide) ?_
        refine fx_go1 hH (fx_runV C hH hl.1 (As := [.int (nI 5)]) (rest := []) (c_X11_finding (G := G) (base := base) (l := l) (f := f) (sz := sz) (x := x) (nn := nI 5) (ra := ra) (tp := tp) (tc := tc) (ro := ro) (tr := tr) (ia := ia) (aa := aa) (oa := oa) (ak := ak) (fa := fa) (fi := fi) h_x) mY_X11_finding ml_X11_61 im_X11_finding se_X11_X11_finding h_x rfl rfl ⟨(Nat.le_of_ble_eq_true rfl), (Nat.le_of_ble_eq_true rfl)⟩ rfl (Nat.le_of_ble_eq_true rfl) ⟨(Nat.le_of_ble_eq_true rfl), (Nat.le_of_ble_eq_true rfl)⟩ dX11_copy_64) (fun H locs hH => ?_)
        have hH : fx_H G base s (fx_up f x (oO 10 [.ref ra, .ref tp, .ref tc, .ref ro, .ref tr, .ref ia, .ref aa, .int oa, .int ak, .int fa, .int (nI 5)])) sz H locs := hH
        have h7_ra : (fx_up f x (oO 10 [.ref ra, .ref tp, .ref tc, .ref ro, .ref tr, .ref ia, .ref aa, .int oa, .int ak, .int fa, .int (nI 5)])) ra = some (oR 4 8 gr) := (fx_up_n _ _ (fx_ne h_ra h_x rfl)).trans h_ra
        have h7_rr : (fx_up f x (oO 10 [.ref ra, .ref tp, .ref tc, .ref ro, .ref tr, .ref ia, .ref aa, .int oa, .int ak, .int fa, .int (nI 5)])) rr = some (oO 6 [.ref ri_, .int mi, .int la, .int (nI sn)]) := (fx_up_n _ _ (fx_ne h_rr h_x rfl)).trans h_rr
        have h7_ri_ : (fx_up f x (oO 10 [.ref ra, .ref tp, .ref tc, .ref ro, .ref tr, .ref ia, .ref aa, .int oa, .int ak, .int fa, .int (nI 5)])) ri_ = some (oI 40 g) := (fx_up_n _ _ (fx_ne h_ri_ h_x rfl)).trans h_ri_
        have h7_x : (fx_up f x (oO 10 [.ref ra, .ref tp, .ref tc, .ref ro, .ref tr, .ref ia, .ref aa, .int oa, .int ak, .int fa, .int (nI 5)])) x = some (oO 10 [.ref ra, .ref tp, .ref tc, .ref ro, .ref tr, .ref ia, .ref aa, .int oa, .int ak, .int fa, .int (nI 5)]) := fx_up_s _ _ _
        have hH : fx_H G base s (fx_up f x (oO 10 [.ref ra, .ref tp, .ref tc, .ref ro, .ref tr, .ref ia, .ref aa, .int oa, .int ak, .int fa, .int (nI 5)])) sz H locs := hH
        exact fx_iretP C hr hk hH (K5 c32 c40 c59) (Nat.zero_le _) (Nat.zero_le _) dX11_copy_67
    · refine lv_aload_n hx hb dX11_copy_43 rfl (lv_at hl 2 rfl) ?_
      refine lv_iconst (v := nI 1) hx hb dX11_copy_44 (by decide) ?_
      refine fx_go1 hH (fx_runV C hH hl.1 (As := [.int (nI 1)]) (rest := []) (c_X11_finding (G := G) (base := base) (l := l) (f := f) (sz := sz) (x := x) (nn := nI 1) (ra := ra) (tp := tp) (tc := tc) (ro := ro) (tr := tr) (ia := ia) (aa := aa) (oa := oa) (ak := ak) (fa := fa) (fi := fi) h_x) mY_X11_finding ml_X11_61 im_X11_finding se_X11_X11_finding h_x rfl rfl ⟨(Nat.le_of_ble_eq_true rfl), (Nat.le_of_ble_eq_true rfl)⟩ rfl (Nat.le_of_ble_eq_true rfl) ⟨(Nat.le_of_ble_eq_true rfl), (Nat.le_of_ble_eq_true rfl)⟩ dX11_copy_45) (fun H locs hH => ?_)
      have hH : fx_H G base s (fx_up f x (oO 10 [.ref ra, .ref tp, .ref tc, .ref ro, .ref tr, .ref ia, .ref aa, .int oa, .int ak, .int fa, .int (nI 1)])) sz H locs := hH
      have h8_ra : (fx_up f x (oO 10 [.ref ra, .ref tp, .ref tc, .ref ro, .ref tr, .ref ia, .ref aa, .int oa, .int ak, .int fa, .int (nI 1)])) ra = some (oR 4 8 gr) := (fx_up_n _ _ (fx_ne h_ra h_x rfl)).trans h_ra
      have h8_rr : (fx_up f x (oO 10 [.ref ra, .ref tp, .ref tc, .ref ro, .ref tr, .ref ia, .ref aa, .int oa, .int ak, .int fa, .int (nI 1)])) rr = some (oO 6 [.ref ri_, .int mi, .int la, .int (nI sn)]) := (fx_up_n _ _ (fx_ne h_rr h_x rfl)).trans h_rr
      have h8_ri_ : (fx_up f x (oO 10 [.ref ra, .ref tp, .ref tc, .ref ro, .ref tr, .ref ia, .ref aa, .int oa, .int ak, .int fa, .int (nI 1)])) ri_ = some (oI 40 g) := (fx_up_n _ _ (fx_ne h_ri_ h_x rfl)).trans h_ri_
      have h8_x : (fx_up f x (oO 10 [.ref ra, .ref tp, .ref tc, .ref ro, .ref tr, .ref ia, .ref aa, .int oa, .int ak, .int fa, .int (nI 1)])) x = some (oO 10 [.ref ra, .ref tp, .ref tc, .ref ro, .ref tr, .ref ia, .ref aa, .int oa, .int ak, .int fa, .int (nI 1)]) := fx_up_s _ _ _
      have hH : fx_H G base s (fx_up f x (oO 10 [.ref ra, .ref tp, .ref tc, .ref ro, .ref tr, .ref ia, .ref aa, .int oa, .int ak, .int fa, .int (nI 1)])) sz H locs := hH
      exact fx_iretP C hr hk hH (K6 c32 c40) (Nat.zero_le _) (Nat.zero_le _) dX11_copy_48
abbrev rm_X11_feed : Room := { frames := 1, cells := 0, slots := 0, locals := 22 }
set_option maxHeartbeats 4000000 in
set_option maxRecDepth 100000 in
theorem c_X11_feed {G : GG} {base : Nat} {l : Launch} {f : Hp} {sz : Nat} {Po : Option Value → Hp → Nat → Prop} {x : Nat} {b : Int32} {ra : Nat} {tp : Nat} {tc : Nat} {ro : Nat} {tr : Nat} {ia : Nat} {aa : Nat} {oa : Int32} {ak : Int32} {fa : Int32} {fi : Int32} {by_ : Nat} {tn : Nat} {at_ : Int32} {wr : Int32} {g : Nat → Int32} (h_x : f x = some (oO 10 [.ref ra, .ref tp, .ref tc, .ref ro, .ref tr, .ref ia, .ref aa, .int oa, .int ak, .int fa, .int fi])) (h_tp : f tp = some (oO 8 [.ref by_, .int (nI tn), .int at_, .int wr])) (h_by_ : f by_ = some (oI 120 g)) (htn : tn ≤ 120) (K1 : ∀ (c8 : (¬ b < (nI 0) ∧ ¬ (nI 255) < b)), ∀ (c23 : tn < 120), Po (some (.int (nI (tn + 1)))) (fx_up (fx_up f by_ (oI 120 (upd g tn b))) tp (oO 8 [.ref by_, .int (nI (tn + 1)), .int at_, .int wr])) sz)
    (K2 : ∀ (c8 : (¬ b < (nI 0) ∧ ¬ (nI 255) < b)), ∀ (c23 : 120 ≤ tn), Po (some (.int (-1000003))) f sz)
    (K3 : ∀ (c8 : ¬ (¬ b < (nI 0) ∧ ¬ (nI 255) < b)), Po (some (.int (-1000001))) f sz) : fx_MP G base l yX11_feed cX11_feed 2 (some .int) rm_X11_feed [.ref x, .int b] f sz Po := by
  refine fx_ofP (by decide +kernel) (Nat.le_of_ble_eq_true rfl) ?_
  intro p e s m args below meth c C hr hk hnm hH ls hl
  obtain ⟨locs, hlocs⟩ : ∃ L : List Loc, L = [] := ⟨_, rfl⟩
  rw [← hlocs] at hH ⊢
  generalize s.heap = H at hH ⊢
  have hx := C.1
  have hb := C.2.1
  have hl : lv_has ls 2 [(0, .ref x), (1, .int b)] := hl
  refine lv_iload_n hx hb dX11_feed_0 rfl (lv_at hl 1 rfl) ?_
  refine lv_iconst (v := nI 0) hx hb dX11_feed_1 (by decide) ?_
  refine lv_sipush (v := nI 255) hx hb dX11_feed_2 (by decide) ?_
  refine fx_go1 hH (fx_runS C hH hl.1 (As := [.int b, .int (nI 0), .int (nI 255)]) (rest := []) (c_X11_within (G := G) (base := base) (l := l) (f := f) (sz := sz) (n := b) (lo := nI 0) (hi := nI 255) ) mY_X11_within ml_X11_56 st_X11_within rfl ⟨(Nat.le_of_ble_eq_true rfl), (Nat.le_of_ble_eq_true rfl)⟩ rfl (Nat.le_of_ble_eq_true rfl) ⟨(Nat.le_of_ble_eq_true rfl), (Nat.le_of_ble_eq_true rfl)⟩ dX11_feed_5) (fun H locs hH => ?_)
  refine fx_b_ne hx hb (tgt := 14) dX11_feed_8 (by decide) (fun c8 => ?_) (fun c8 => ?_)
  · refine lv_aload_n hx hb dX11_feed_14 rfl (lv_at hl 0 rfl) ?_
    refine fx_get C hH (k := 1) (v := .ref tp) h_x ff_X11_18_10 rfl dX11_feed_15 ?_
    refine fx_get C hH (k := 1) (v := .int (nI tn)) h_tp ff_X11_101_8 rfl dX11_feed_18 ?_
    refine lv_bipush (v := nI 120) hx hb dX11_feed_21 (by decide) ?_
    refine fx_N_lt (a := tn) (b := 120) hx hb (by omega) (by omega) (tgt := 29) dX11_feed_23 (by decide) (fun c23 => ?_) (fun c23 => ?_)
    · refine lv_aload_n hx hb dX11_feed_29 rfl (lv_at hl 0 rfl) ?_
      refine fx_get C hH (k := 1) (v := .ref tp) h_x ff_X11_18_10 rfl dX11_feed_30 ?_
      refine lv_iload_n hx hb dX11_feed_33 rfl (lv_at hl 1 rfl) ?_
      refine fx_go0 hH (fx_runV C hH hl.1 (As := [.int b]) (rest := []) (c_X9_append (G := G) (base := base) (l := l) (f := f) (sz := sz) (t := tp) (b := b) (by_ := by_) (n := tn) (at_ := at_) (wr := wr) (g := g) h_tp h_by_ (by omega)) mY_X9_append ml_X11_103 im_X9_append se_X9_X9_append h_tp rfl rfl ⟨(Nat.le_of_ble_eq_true rfl), (Nat.le_of_ble_eq_true rfl)⟩ rfl (Nat.le_of_ble_eq_true rfl) ⟨(Nat.le_of_ble_eq_true rfl), (Nat.le_of_ble_eq_true rfl)⟩ dX11_feed_34) (fun H locs hH => ?_)
      have hH : fx_H G base s (fx_up (fx_up f by_ (oI 120 (upd g tn b))) tp (oO 8 [.ref by_, .int (nI (tn + 1)), .int at_, .int wr])) sz H locs := hH
      have h1_x : (fx_up f by_ (oI 120 (upd g tn b))) x = some (oO 10 [.ref ra, .ref tp, .ref tc, .ref ro, .ref tr, .ref ia, .ref aa, .int oa, .int ak, .int fa, .int fi]) := (fx_up_n _ _ (fx_ne h_x h_by_ rfl)).trans h_x
      have h1_tp : (fx_up f by_ (oI 120 (upd g tn b))) tp = some (oO 8 [.ref by_, .int (nI tn), .int at_, .int wr]) := (fx_up_n _ _ (fx_ne h_tp h_by_ rfl)).trans h_tp
      have h1_by_ : (fx_up f by_ (oI 120 (upd g tn b))) by_ = some (oI 120 (upd g tn b)) := fx_up_s _ _ _
      have h2_x : (fx_up (fx_up f by_ (oI 120 (upd g tn b))) tp (oO 8 [.ref by_, .int (nI (tn + 1)), .int at_, .int wr])) x = some (oO 10 [.ref ra, .ref tp, .ref tc, .ref ro, .ref tr, .ref ia, .ref aa, .int oa, .int ak, .int fa, .int fi]) := (fx_up_n _ _ (fx_ne h1_x h1_tp rfl)).trans h1_x
      have h2_by_ : (fx_up (fx_up f by_ (oI 120 (upd g tn b))) tp (oO 8 [.ref by_, .int (nI (tn + 1)), .int at_, .int wr])) by_ = some (oI 120 (upd g tn b)) := (fx_up_n _ _ (fx_ne h1_by_ h1_tp rfl)).trans h1_by_
      have h2_tp : (fx_up (fx_up f by_ (oI 120 (upd g tn b))) tp (oO 8 [.ref by_, .int (nI (tn + 1)), .int at_, .int wr])) tp = some (oO 8 [.ref by_, .int (nI (tn + 1)), .int at_, .int wr]) := fx_up_s _ _ _
      have hH : fx_H G base s (fx_up (fx_up f by_ (oI 120 (upd g tn b))) tp (oO 8 [.ref by_, .int (nI (tn + 1)), .int at_, .int wr])) sz H locs := hH
      refine lv_aload_n hx hb dX11_feed_37 rfl (lv_at hl 0 rfl) ?_
      refine fx_get C hH (k := 1) (v := .ref tp) h2_x ff_X11_18_10 rfl dX11_feed_38 ?_
      refine fx_get C hH (k := 1) (v := .int (nI (tn + 1))) h2_tp ff_X11_101_8 rfl dX11_feed_41 ?_
      exact fx_iretP C hr hk hH (K1 c8 c23) (Nat.zero_le _) (Nat.zero_le _) dX11_feed_44
    · refine lv_ldc (v := (-1000003)) hx hb C.2.2.2.1 (C.2.2.2.2.1 _ kI_X11_102 rfl args) dX11_feed_26 ?_
      exact fx_iretP C hr hk hH (K2 c8 c23) (Nat.zero_le _) (Nat.zero_le _) dX11_feed_28
  · refine lv_ldc (v := (-1000001)) hx hb C.2.2.2.1 (C.2.2.2.2.1 _ kI_X11_60 rfl args) dX11_feed_11 ?_
    exact fx_iretP C hr hk hH (K3 c8) (Nat.zero_le _) (Nat.zero_le _) dX11_feed_13
abbrev rm_X11_fault : Room := { frames := 0, cells := 0, slots := 0, locals := 0 }
set_option maxHeartbeats 4000000 in
set_option maxRecDepth 100000 in
theorem c_X11_fault {G : GG} {base : Nat} {l : Launch} {f : Hp} {sz : Nat} {Po : Option Value → Hp → Nat → Prop} {x : Nat} {ra : Nat} {tp : Nat} {tc : Nat} {ro : Nat} {tr : Nat} {ia : Nat} {aa : Nat} {oa : Int32} {ak : Int32} {fa : Int32} {fi : Int32} (h_x : f x = some (oO 10 [.ref ra, .ref tp, .ref tc, .ref ro, .ref tr, .ref ia, .ref aa, .int oa, .int ak, .int fa, .int fi])) (K1 : Po (some (.int fa)) f sz) : fx_MP G base l yX11_fault cX11_fault 1 (some .int) rm_X11_fault [.ref x] f sz Po := by
  refine fx_ofP (by decide +kernel) (Nat.le_of_ble_eq_true rfl) ?_
  intro p e s m args below meth c C hr hk hnm hH ls hl
  obtain ⟨locs, hlocs⟩ : ∃ L : List Loc, L = [] := ⟨_, rfl⟩
  rw [← hlocs] at hH ⊢
  generalize s.heap = H at hH ⊢
  have hx := C.1
  have hb := C.2.1
  have hl : lv_has ls 1 [(0, .ref x)] := hl
  refine lv_aload_n hx hb dX11_fault_0 rfl (lv_at hl 0 rfl) ?_
  refine fx_get C hH (k := 9) (v := .int fa) h_x ff_X11_114_10 rfl dX11_fault_1 ?_
  exact fx_iretP C hr hk hH (K1 ) (Nat.zero_le _) (Nat.zero_le _) dX11_fault_4
abbrev rm_X11_status : Room := { frames := 0, cells := 0, slots := 0, locals := 0 }
set_option maxHeartbeats 4000000 in
set_option maxRecDepth 100000 in
theorem c_X11_status {G : GG} {base : Nat} {l : Launch} {f : Hp} {sz : Nat} {Po : Option Value → Hp → Nat → Prop} {x : Nat} {ra : Nat} {tp : Nat} {tc : Nat} {ro : Nat} {tr : Nat} {ia : Nat} {aa : Nat} {oa : Int32} {ak : Int32} {fa : Int32} {fi : Int32} (h_x : f x = some (oO 10 [.ref ra, .ref tp, .ref tc, .ref ro, .ref tr, .ref ia, .ref aa, .int oa, .int ak, .int fa, .int fi])) (K1 : Po (some (.int fi)) f sz) : fx_MP G base l yX11_status cX11_status 1 (some .int) rm_X11_status [.ref x] f sz Po := by
  refine fx_ofP (by decide +kernel) (Nat.le_of_ble_eq_true rfl) ?_
  intro p e s m args below meth c C hr hk hnm hH ls hl
  obtain ⟨locs, hlocs⟩ : ∃ L : List Loc, L = [] := ⟨_, rfl⟩
  rw [← hlocs] at hH ⊢
  generalize s.heap = H at hH ⊢
  have hx := C.1
  have hb := C.2.1
  have hl : lv_has ls 1 [(0, .ref x)] := hl
  refine lv_aload_n hx hb dX11_status_0 rfl (lv_at hl 0 rfl) ?_
  refine fx_get C hH (k := 10) (v := .int fi) h_x ff_X11_265_10 rfl dX11_status_1 ?_
  exact fx_iretP C hr hk hH (K1 ) (Nat.zero_le _) (Nat.zero_le _) dX11_status_4
abbrev rm_X11_width : Room := { frames := 2, cells := 0, slots := 0, locals := 44 }
set_option maxHeartbeats 4000000 in
set_option maxRecDepth 100000 in
theorem c_X11_width {G : GG} {base : Nat} {l : Launch} {f : Hp} {sz : Nat} {Po : Option Value → Hp → Nat → Prop} {x : Nat} {w : Int32} {sl : Int32} {sd : Int32} {n : Int32}  (K1 : ∀ (c6 : ¬ ((¬ w < nI 1 ∧ ¬ nI 19 < w) ∧ (¬ sl < nI 1 ∧ ¬ nI 9 < sl) ∧ (¬ sd < nI 0 ∧ ¬ nI 1 < sd))), Po (some (.int (-1000001))) f sz)
    (K2 : ∀ (c6 : ((¬ w < nI 1 ∧ ¬ nI 19 < w) ∧ (¬ sl < nI 1 ∧ ¬ nI 9 < sl) ∧ (¬ sd < nI 0 ∧ ¬ nI 1 < sd))), ∀ (c17 : (¬ n < (nI 0) ∧ ¬ (nI 40) < n)), Po (some (.int (if sd = 0 then (if nI 0 < (w - sl * n) then (w - sl * n) else nI 0) else (if (w + sl * n) < nI 20 then (w + sl * n) else nI 20)))) f sz)
    (K3 : ∀ (c6 : ((¬ w < nI 1 ∧ ¬ nI 19 < w) ∧ (¬ sl < nI 1 ∧ ¬ nI 9 < sl) ∧ (¬ sd < nI 0 ∧ ¬ nI 1 < sd))), ∀ (c17 : ¬ (¬ n < (nI 0) ∧ ¬ (nI 40) < n)), Po (some (.int (-1000001))) f sz) : fx_MP G base l yX11_width cX11_width 5 (some .int) rm_X11_width [.ref x, .int w, .int sl, .int sd, .int n] f sz Po := by
  refine fx_ofP (by decide +kernel) (Nat.le_of_ble_eq_true rfl) ?_
  intro p e s m args below meth c C hr hk hnm hH ls hl
  obtain ⟨locs, hlocs⟩ : ∃ L : List Loc, L = [] := ⟨_, rfl⟩
  rw [← hlocs] at hH ⊢
  generalize s.heap = H at hH ⊢
  have hx := C.1
  have hb := C.2.1
  have hl : lv_has ls 5 [(0, .ref x), (1, .int w), (2, .int sl), (3, .int sd), (4, .int n)] := hl
  refine lv_iload_n hx hb dX11_width_0 rfl (lv_at hl 1 rfl) ?_
  refine lv_iload_n hx hb dX11_width_1 rfl (lv_at hl 2 rfl) ?_
  refine lv_iload_n hx hb dX11_width_2 rfl (lv_at hl 3 rfl) ?_
  refine fx_go1 hH (fx_runS C hH hl.1 (As := [.int w, .int sl, .int sd]) (rest := []) (c_X11_isSplinter (G := G) (base := base) (l := l) (f := f) (sz := sz) (w := w) (sl := sl) (sd := sd) ) mY_X11_isSplinter ml_X11_248 st_X11_isSplinter rfl ⟨(Nat.le_of_ble_eq_true rfl), (Nat.le_of_ble_eq_true rfl)⟩ rfl (Nat.le_of_ble_eq_true rfl) ⟨(Nat.le_of_ble_eq_true rfl), (Nat.le_of_ble_eq_true rfl)⟩ dX11_width_3) (fun H locs hH => ?_)
  refine fx_b_eq hx hb (tgt := 20) dX11_width_6 (by decide) (fun c6 => ?_) (fun c6 => ?_)
  · refine lv_ldc (v := (-1000001)) hx hb C.2.2.2.1 (C.2.2.2.2.1 _ kI_X11_60 rfl args) dX11_width_20 ?_
    exact fx_iretP C hr hk hH (K1 c6) (Nat.zero_le _) (Nat.zero_le _) dX11_width_22
  · refine lv_iload hx hb dX11_width_9 (lv_at hl 4 rfl) ?_
    refine lv_iconst (v := nI 0) hx hb dX11_width_11 (by decide) ?_
    refine lv_bipush (v := nI 40) hx hb dX11_width_12 (by decide) ?_
    refine fx_go1 hH (fx_runS C hH hl.1 (As := [.int n, .int (nI 0), .int (nI 40)]) (rest := []) (c_X11_within (G := G) (base := base) (l := l) (f := f) (sz := sz) (n := n) (lo := nI 0) (hi := nI 40) ) mY_X11_within ml_X11_56 st_X11_within rfl ⟨(Nat.le_of_ble_eq_true rfl), (Nat.le_of_ble_eq_true rfl)⟩ rfl (Nat.le_of_ble_eq_true rfl) ⟨(Nat.le_of_ble_eq_true rfl), (Nat.le_of_ble_eq_true rfl)⟩ dX11_width_14) (fun H locs hH => ?_)
    refine fx_b_ne hx hb (tgt := 23) dX11_width_17 (by decide) (fun c17 => ?_) (fun c17 => ?_)
    · refine lv_iload_n hx hb dX11_width_23 rfl (lv_at hl 1 rfl) ?_
      refine lv_iload_n hx hb dX11_width_24 rfl (lv_at hl 2 rfl) ?_
      refine lv_iload_n hx hb dX11_width_25 rfl (lv_at hl 3 rfl) ?_
      refine lv_iload hx hb dX11_width_26 (lv_at hl 4 rfl) ?_
      refine fx_go1 hH (fx_runS C hH hl.1 (As := [.int w, .int sl, .int sd, .int n]) (rest := []) (c_X11_widthBehind (G := G) (base := base) (l := l) (f := f) (sz := sz) (w := w) (sl := sl) (sd := sd) (n := n) ) mY_X11_widthBehind ml_X11_251 st_X11_widthBehind rfl ⟨(Nat.le_of_ble_eq_true rfl), (Nat.le_of_ble_eq_true rfl)⟩ rfl (Nat.le_of_ble_eq_true rfl) ⟨(Nat.le_of_ble_eq_true rfl), (Nat.le_of_ble_eq_true rfl)⟩ dX11_width_28) (fun H locs hH => ?_)
      exact fx_iretP C hr hk hH (K2 c6 c17) (Nat.zero_le _) (Nat.zero_le _) dX11_width_31
    · refine lv_ldc (v := (-1000001)) hx hb C.2.2.2.1 (C.2.2.2.2.1 _ kI_X11_60 rfl args) dX11_width_20 ?_
      exact fx_iretP C hr hk hH (K3 c6 c17) (Nat.zero_le _) (Nat.zero_le _) dX11_width_22
abbrev rm_X11_trace : Room := { frames := 1, cells := 0, slots := 0, locals := 22 }
set_option maxHeartbeats 4000000 in
set_option maxRecDepth 100000 in
theorem c_X11_trace {G : GG} {base : Nat} {l : Launch} {f : Hp} {sz : Nat} {Po : Option Value → Hp → Nat → Prop} {x : Nat} {i : Int32} {ra : Nat} {tp : Nat} {tc : Nat} {ro : Nat} {tr : Nat} {ia : Nat} {aa : Nat} {oa : Int32} {ak : Int32} {fa : Int32} {fi : Int32} {u : Nat} {tt : Nat} {g : Nat → Int32} (h_x : f x = some (oO 10 [.ref ra, .ref tp, .ref tc, .ref ro, .ref tr, .ref ia, .ref aa, .int oa, .int ak, .int fa, .int fi])) (h_tc : f tc = some (oO 9 [.ref u, .int (nI tt)])) (h_u : f u = some (oI 16 g)) (htt : tt ≤ 16) (K1 : ∀ (c14 : ¬ (¬ i < (nI 0) ∧ ¬ ((nI tt) - (nI 1)) < i)), Po (some (.int (-1000000))) f sz)
    (K2 : ∀ (c14 : (¬ i < (nI 0) ∧ ¬ ((nI tt) - (nI 1)) < i)), ∀ (ix : Nat), ∀ (hix : ix < tt), ∀ (hie : i = nI ix), Po (some (.int (g ix))) f sz) : fx_MP G base l yX11_trace cX11_trace 2 (some .int) rm_X11_trace [.ref x, .int i] f sz Po := by
  refine fx_ofP (by decide +kernel) (Nat.le_of_ble_eq_true rfl) ?_
  intro p e s m args below meth c C hr hk hnm hH ls hl
  obtain ⟨locs, hlocs⟩ : ∃ L : List Loc, L = [] := ⟨_, rfl⟩
  rw [← hlocs] at hH ⊢
  generalize s.heap = H at hH ⊢
  have hx := C.1
  have hb := C.2.1
  have hl : lv_has ls 2 [(0, .ref x), (1, .int i)] := hl
  refine lv_iload_n hx hb dX11_trace_0 rfl (lv_at hl 1 rfl) ?_
  refine lv_iconst (v := nI 0) hx hb dX11_trace_1 (by decide) ?_
  refine lv_aload_n hx hb dX11_trace_2 rfl (lv_at hl 0 rfl) ?_
  refine fx_get C hH (k := 2) (v := .ref tc) h_x ff_X11_25_10 rfl dX11_trace_3 ?_
  refine fx_get C hH (k := 1) (v := .int (nI tt)) h_tc ff_X11_295_9 rfl dX11_trace_6 ?_
  refine lv_iconst (v := nI 1) hx hb dX11_trace_9 (by decide) ?_
  refine lv_isub hx hb dX11_trace_10 ?_
  refine fx_go1 hH (fx_runS C hH hl.1 (As := [.int i, .int (nI 0), .int ((nI tt) - (nI 1))]) (rest := []) (c_X11_within (G := G) (base := base) (l := l) (f := f) (sz := sz) (n := i) (lo := nI 0) (hi := (nI tt) - (nI 1)) ) mY_X11_within ml_X11_56 st_X11_within rfl ⟨(Nat.le_of_ble_eq_true rfl), (Nat.le_of_ble_eq_true rfl)⟩ rfl (Nat.le_of_ble_eq_true rfl) ⟨(Nat.le_of_ble_eq_true rfl), (Nat.le_of_ble_eq_true rfl)⟩ dX11_trace_11) (fun H locs hH => ?_)
  refine fx_b_eq hx hb (tgt := 29) dX11_trace_14 (by decide) (fun c14 => ?_) (fun c14 => ?_)
  · refine lv_ldc (v := (-1000000)) hx hb C.2.2.2.1 (C.2.2.2.2.1 _ kI_X11_231 rfl args) dX11_trace_29 ?_
    exact fx_iretP C hr hk hH (K1 c14) (Nat.zero_le _) (Nat.zero_le _) dX11_trace_31
  · obtain ⟨ix, hix, rfl⟩ := rngS (by omega) c14
    · skip
      refine lv_aload_n hx hb dX11_trace_17 rfl (lv_at hl 0 rfl) ?_
      refine fx_get C hH (k := 2) (v := .ref tc) h_x ff_X11_25_10 rfl dX11_trace_18 ?_
      refine fx_get C hH (k := 0) (v := .ref u) h_tc ff_X11_303_9 rfl dX11_trace_21 ?_
      refine lv_iload_n hx hb dX11_trace_24 rfl (lv_at hl 1 rfl) ?_
      refine fx_ialdN C hH h_u (by omega) (by omega) dX11_trace_25 ?_
      refine lv_goto (tgt := 31) hx hb dX11_trace_26 (by decide) ?_
      exact fx_iretP C hr hk hH (K2 c14 ix hix rfl) (Nat.zero_le _) (Nat.zero_le _) dX11_trace_31
abbrev rm_X11_count : Room := { frames := 1, cells := 0, slots := 0, locals := 22 }
set_option maxHeartbeats 4000000 in
set_option maxRecDepth 100000 in
theorem c_X11_count {G : GG} {base : Nat} {l : Launch} {f : Hp} {sz : Nat} {Po : Option Value → Hp → Nat → Prop} {ad : Nat → Nat} {it : Nat → Nat} {mis : Nat → Int32} {las : Nat → Int32} {sis : Nat → Int32} {x : Nat} {wh : Int32} {ra : Nat} {tp : Nat} {tc : Nat} {ro : Nat} {tr : Nat} {ia : Nat} {aa : Nat} {oa : Int32} {ak : Nat} {fa : Int32} {fi : Int32} {k : Nat} {w : Nat} {pl : Nat} {wy : Int32} {se : Int32} {to : Nat} {lf : Nat} {ta : Int32} {wt : Nat} {ch : Nat} {sk : Nat} {P : Nat} {st : Nat} {ov : Int32} {mi : Int32} {ri : Nat} {tl : Nat} {gr : Nat → Option Nat} {by_ : Nat} {tn : Nat} {at_ : Int32} {wr : Int32} (h_x : f x = some (oO 10 [.ref ra, .ref tp, .ref tc, .ref ro, .ref tr, .ref ia, .ref aa, .int oa, .int (nI ak), .int fa, .int fi])) (h_ro : f ro = some (oO 4 [.ref k, .ref w, .int (nI pl), .int wy, .int se, .int (nI to), .int (nI lf), .int ta])) (h_w : f w = some (oO 2 [.ref wt, .ref ch, .ref sk, .int (nI P), .int (nI st), .int ov, .int mi, .int (nI ri), .int (nI tl)])) (h_ra : f ra = some (oR 4 8 gr)) (h_tp : f tp = some (oO 8 [.ref by_, .int (nI tn), .int at_, .int wr])) (hgr : ∀ i, i < 8 → gr i = some (ad i)) (hrow : ∀ i, i < 8 → f (ad i) = some (oO 6 [.ref (it i), .int (mis i), .int (las i), .int (sis i)])) (K1 : ∀ (s1_0 : wh = nI 0), Po (some (.int (nI (cnR mis 8)))) f sz)
    (K2 : ∀ (s1_1 : wh = nI 1), Po (some (.int (nI P))) f sz)
    (K3 : ∀ (s1_2 : wh = nI 2), Po (some (.int (nI ri))) f sz)
    (K4 : ∀ (s1_3 : wh = nI 3), Po (some (.int (nI tl))) f sz)
    (K5 : ∀ (s1_4 : wh = nI 4), Po (some (.int (nI ak))) f sz)
    (K6 : ∀ (s1_5 : wh = nI 5), Po (some (.int (nI tn))) f sz)
    (K7 : ∀ (s1_0 : ¬ wh = nI 0), ∀ (s1_1 : ¬ wh = nI 1), ∀ (s1_2 : ¬ wh = nI 2), ∀ (s1_3 : ¬ wh = nI 3), ∀ (s1_4 : ¬ wh = nI 4), ∀ (s1_5 : ¬ wh = nI 5), Po (some (.int (-1000001))) f sz) : fx_MP G base l yX11_count cX11_count 2 (some .int) rm_X11_count [.ref x, .int wh] f sz Po := by
  refine fx_ofP (by decide +kernel) (Nat.le_of_ble_eq_true rfl) ?_
  intro p e s m args below meth c C hr hk hnm hH ls hl
  obtain ⟨locs, hlocs⟩ : ∃ L : List Loc, L = [] := ⟨_, rfl⟩
  rw [← hlocs] at hH ⊢
  generalize s.heap = H at hH ⊢
  have hx := C.1
  have hb := C.2.1
  have hl : lv_has ls 2 [(0, .ref x), (1, .int wh)] := hl
  refine lv_iload_n hx hb dX11_count_0 rfl (lv_at hl 1 rfl) ?_
  by_cases s1_0 : wh = nI 0
  · refine fx_ti (y := nI 0) s1_0 ?_
    refine lv_tableIn (off := 39) (tgt := 40) hx hb dX11_count_1 (by decide) (by decide) (by decide) (by decide) ?_
    refine lv_aload_n hx hb dX11_count_40 rfl (lv_at hl 0 rfl) ?_
    refine fx_go1 hH (fx_runV C hH hl.1 (As := []) (rest := []) (c_X11_rowsThere (G := G) (base := base) (l := l) (f := f) (sz := sz) (ad := ad) (it := it) (mi := mis) (la := las) (si := sis) (x := x) (ra := ra) (tp := tp) (tc := tc) (ro := ro) (tr := tr) (ia := ia) (aa := aa) (oa := oa) (ak := nI ak) (fa := fa) (fi := fi) (gr := gr) h_x h_ra hgr hrow) mY_X11_rowsThere ml_X11_306 im_X11_rowsThere se_X11_X11_rowsThere h_x rfl rfl ⟨(Nat.le_of_ble_eq_true rfl), (Nat.le_of_ble_eq_true rfl)⟩ rfl (Nat.le_of_ble_eq_true rfl) ⟨(Nat.le_of_ble_eq_true rfl), (Nat.le_of_ble_eq_true rfl)⟩ dX11_count_41) (fun H locs hH => ?_)
    exact fx_iretP C hr hk hH (K1 s1_0) (Nat.zero_le _) (Nat.zero_le _) dX11_count_44
  by_cases s1_1 : wh = nI 1
  · refine fx_ti (y := nI 1) s1_1 ?_
    refine lv_tableIn (off := 44) (tgt := 45) hx hb dX11_count_1 (by decide) (by decide) (by decide) (by decide) ?_
    refine lv_aload_n hx hb dX11_count_45 rfl (lv_at hl 0 rfl) ?_
    refine fx_get C hH (k := 3) (v := .ref ro) h_x ff_X11_44_10 rfl dX11_count_46 ?_
    refine fx_get C hH (k := 1) (v := .ref w) h_ro ff_X11_197_4 rfl dX11_count_49 ?_
    refine fx_get C hH (k := 3) (v := .int (nI P)) h_w ff_X11_127_2 rfl dX11_count_52 ?_
    exact fx_iretP C hr hk hH (K2 s1_1) (Nat.zero_le _) (Nat.zero_le _) dX11_count_55
  by_cases s1_2 : wh = nI 2
  · refine fx_ti (y := nI 2) s1_2 ?_
    refine lv_tableIn (off := 55) (tgt := 56) hx hb dX11_count_1 (by decide) (by decide) (by decide) (by decide) ?_
    refine lv_aload_n hx hb dX11_count_56 rfl (lv_at hl 0 rfl) ?_
    refine fx_get C hH (k := 3) (v := .ref ro) h_x ff_X11_44_10 rfl dX11_count_57 ?_
    refine fx_get C hH (k := 1) (v := .ref w) h_ro ff_X11_197_4 rfl dX11_count_60 ?_
    refine fx_get C hH (k := 7) (v := .int (nI ri)) h_w ff_X11_309_2 rfl dX11_count_63 ?_
    exact fx_iretP C hr hk hH (K3 s1_2) (Nat.zero_le _) (Nat.zero_le _) dX11_count_66
  by_cases s1_3 : wh = nI 3
  · refine fx_ti (y := nI 3) s1_3 ?_
    refine lv_tableIn (off := 66) (tgt := 67) hx hb dX11_count_1 (by decide) (by decide) (by decide) (by decide) ?_
    refine lv_aload_n hx hb dX11_count_67 rfl (lv_at hl 0 rfl) ?_
    refine fx_get C hH (k := 3) (v := .ref ro) h_x ff_X11_44_10 rfl dX11_count_68 ?_
    refine fx_get C hH (k := 1) (v := .ref w) h_ro ff_X11_197_4 rfl dX11_count_71 ?_
    refine fx_get C hH (k := 8) (v := .int (nI tl)) h_w ff_X11_258_2 rfl dX11_count_74 ?_
    exact fx_iretP C hr hk hH (K4 s1_3) (Nat.zero_le _) (Nat.zero_le _) dX11_count_77
  by_cases s1_4 : wh = nI 4
  · refine fx_ti (y := nI 4) s1_4 ?_
    refine lv_tableIn (off := 77) (tgt := 78) hx hb dX11_count_1 (by decide) (by decide) (by decide) (by decide) ?_
    refine lv_aload_n hx hb dX11_count_78 rfl (lv_at hl 0 rfl) ?_
    refine fx_get C hH (k := 8) (v := .int (nI ak)) h_x ff_X11_130_10 rfl dX11_count_79 ?_
    exact fx_iretP C hr hk hH (K5 s1_4) (Nat.zero_le _) (Nat.zero_le _) dX11_count_82
  by_cases s1_5 : wh = nI 5
  · refine fx_ti (y := nI 5) s1_5 ?_
    refine lv_tableIn (off := 82) (tgt := 83) hx hb dX11_count_1 (by decide) (by decide) (by decide) (by decide) ?_
    refine lv_aload_n hx hb dX11_count_83 rfl (lv_at hl 0 rfl) ?_
    refine fx_get C hH (k := 1) (v := .ref tp) h_x ff_X11_18_10 rfl dX11_count_84 ?_
    refine fx_get C hH (k := 1) (v := .int (nI tn)) h_tp ff_X11_101_8 rfl dX11_count_87 ?_
    exact fx_iretP C hr hk hH (K6 s1_5) (Nat.zero_le _) (Nat.zero_le _) dX11_count_90
  refine lv_tableOut (tgt := 91) hx hb dX11_count_1 (fx_out6 s1_0 s1_1 s1_2 s1_3 s1_4 s1_5) (by decide) ?_
  refine lv_ldc (v := (-1000001)) hx hb C.2.2.2.1 (C.2.2.2.2.1 _ kI_X11_60 rfl args) dX11_count_91 ?_
  exact fx_iretP C hr hk hH (K7 s1_0 s1_1 s1_2 s1_3 s1_4 s1_5) (Nat.zero_le _) (Nat.zero_le _) dX11_count_93
abbrev rm_X11_nail : Room := { frames := 1, cells := 0, slots := 0, locals := 20 }
set_option maxHeartbeats 4000000 in
set_option maxRecDepth 100000 in
theorem c_X11_nail {G : GG} {base : Nat} {l : Launch} {f : Hp} {sz : Nat} {Po : Option Value → Hp → Nat → Prop} {x : Nat} {wh : Int32} {ra : Nat} {tp : Nat} {tc : Nat} {ro : Nat} {tr : Nat} {ia : Nat} {aa : Nat} {oa : Int32} {ak : Nat} {fa : Int32} {fi : Int32} {k : Nat} {w : Nat} {pl : Nat} {wy : Int32} {se : Int32} {to : Nat} {lf : Nat} {ta : Int32} {wt : Nat} {ch : Nat} {sk : Nat} {P : Nat} {st : Nat} {ov : Int32} {mi : Int32} {ri : Nat} {tl : Nat} (h_x : f x = some (oO 10 [.ref ra, .ref tp, .ref tc, .ref ro, .ref tr, .ref ia, .ref aa, .int oa, .int (nI ak), .int fa, .int fi])) (h_ro : f ro = some (oO 4 [.ref k, .ref w, .int (nI pl), .int wy, .int se, .int (nI to), .int (nI lf), .int ta])) (h_w : f w = some (oO 2 [.ref wt, .ref ch, .ref sk, .int (nI P), .int (nI st), .int ov, .int mi, .int (nI ri), .int (nI tl)])) (hP : P ≤ 12) (K1 : ∀ (c4 : ¬ (P = 0)), ∀ (s11_0 : wh = nI 0), Po (some (.int (nI pl))) f sz)
    (K2 : ∀ (c4 : ¬ (P = 0)), ∀ (s11_1 : wh = nI 1), Po (some (.int wy)) f sz)
    (K3 : ∀ (c4 : ¬ (P = 0)), ∀ (s11_2 : wh = nI 2), Po (some (.int se)) f sz)
    (K4 : ∀ (c4 : ¬ (P = 0)), ∀ (s11_3 : wh = nI 3), Po (some (.int (nI to))) f sz)
    (K5 : ∀ (c4 : ¬ (P = 0)), ∀ (s11_4 : wh = nI 4), Po (some (.int (nI lf))) f sz)
    (K6 : ∀ (c4 : ¬ (P = 0)), ∀ (s11_5 : wh = nI 5), Po (some (.int ta)) f sz)
    (K7 : ∀ (c4 : ¬ (P = 0)), ∀ (s11_0 : ¬ wh = nI 0), ∀ (s11_1 : ¬ wh = nI 1), ∀ (s11_2 : ¬ wh = nI 2), ∀ (s11_3 : ¬ wh = nI 3), ∀ (s11_4 : ¬ wh = nI 4), ∀ (s11_5 : ¬ wh = nI 5), Po (some (.int (-1000001))) f sz)
    (K8 : ∀ (c4 : (P = 0)), Po (some (.int (-1000002))) f sz) : fx_MP G base l yX11_nail cX11_nail 2 (some .int) rm_X11_nail [.ref x, .int wh] f sz Po := by
  refine fx_ofP (by decide +kernel) (Nat.le_of_ble_eq_true rfl) ?_
  intro p e s m args below meth c C hr hk hnm hH ls hl
  obtain ⟨locs, hlocs⟩ : ∃ L : List Loc, L = [] := ⟨_, rfl⟩
  rw [← hlocs] at hH ⊢
  generalize s.heap = H at hH ⊢
  have hx := C.1
  have hb := C.2.1
  have hl : lv_has ls 2 [(0, .ref x), (1, .int wh)] := hl
  refine lv_aload_n hx hb dX11_nail_0 rfl (lv_at hl 0 rfl) ?_
  refine fx_go1 hH (fx_runV C hH hl.1 (As := []) (rest := []) (c_X11_noRoll (G := G) (base := base) (l := l) (f := f) (sz := sz) (x := x) (ra := ra) (tp := tp) (tc := tc) (ro := ro) (tr := tr) (ia := ia) (aa := aa) (oa := oa) (ak := nI ak) (fa := fa) (fi := fi) (k := k) (w := w) (pl := nI pl) (wy := wy) (se := se) (to := nI to) (lf := nI lf) (ta := ta) (wt := wt) (ch := ch) (sk := sk) (P := P) (st := nI st) (ov := ov) (mi := mi) (ri := nI ri) (tl := tl) h_x h_ro h_w (by omega)) mY_X11_noRoll ml_X11_159 im_X11_noRoll se_X11_X11_noRoll h_x rfl rfl ⟨(Nat.le_of_ble_eq_true rfl), (Nat.le_of_ble_eq_true rfl)⟩ rfl (Nat.le_of_ble_eq_true rfl) ⟨(Nat.le_of_ble_eq_true rfl), (Nat.le_of_ble_eq_true rfl)⟩ dX11_nail_1) (fun H locs hH => ?_)
  refine fx_b_eq hx hb (tgt := 10) dX11_nail_4 (by decide) (fun c4 => ?_) (fun c4 => ?_)
  · refine lv_iload_n hx hb dX11_nail_10 rfl (lv_at hl 1 rfl) ?_
    by_cases s11_0 : wh = nI 0
    · refine fx_ti (y := nI 0) s11_0 ?_
      refine lv_tableIn (off := 37) (tgt := 48) hx hb dX11_nail_11 (by decide) (by decide) (by decide) (by decide) ?_
      refine lv_aload_n hx hb dX11_nail_48 rfl (lv_at hl 0 rfl) ?_
      refine fx_get C hH (k := 3) (v := .ref ro) h_x ff_X11_44_10 rfl dX11_nail_49 ?_
      refine fx_get C hH (k := 2) (v := .int (nI pl)) h_ro ff_X11_166_4 rfl dX11_nail_52 ?_
      exact fx_iretP C hr hk hH (K1 c4 s11_0) (Nat.zero_le _) (Nat.zero_le _) dX11_nail_55
    by_cases s11_1 : wh = nI 1
    · refine fx_ti (y := nI 1) s11_1 ?_
      refine lv_tableIn (off := 45) (tgt := 56) hx hb dX11_nail_11 (by decide) (by decide) (by decide) (by decide) ?_
      refine lv_aload_n hx hb dX11_nail_56 rfl (lv_at hl 0 rfl) ?_
      refine fx_get C hH (k := 3) (v := .ref ro) h_x ff_X11_44_10 rfl dX11_nail_57 ?_
      refine fx_get C hH (k := 3) (v := .int wy) h_ro ff_X11_172_4 rfl dX11_nail_60 ?_
      exact fx_iretP C hr hk hH (K2 c4 s11_1) (Nat.zero_le _) (Nat.zero_le _) dX11_nail_63
    by_cases s11_2 : wh = nI 2
    · refine fx_ti (y := nI 2) s11_2 ?_
      refine lv_tableIn (off := 53) (tgt := 64) hx hb dX11_nail_11 (by decide) (by decide) (by decide) (by decide) ?_
      refine lv_aload_n hx hb dX11_nail_64 rfl (lv_at hl 0 rfl) ?_
      refine fx_get C hH (k := 3) (v := .ref ro) h_x ff_X11_44_10 rfl dX11_nail_65 ?_
      refine fx_get C hH (k := 4) (v := .int se) h_ro ff_X11_191_4 rfl dX11_nail_68 ?_
      exact fx_iretP C hr hk hH (K3 c4 s11_2) (Nat.zero_le _) (Nat.zero_le _) dX11_nail_71
    by_cases s11_3 : wh = nI 3
    · refine fx_ti (y := nI 3) s11_3 ?_
      refine lv_tableIn (off := 61) (tgt := 72) hx hb dX11_nail_11 (by decide) (by decide) (by decide) (by decide) ?_
      refine lv_aload_n hx hb dX11_nail_72 rfl (lv_at hl 0 rfl) ?_
      refine fx_get C hH (k := 3) (v := .ref ro) h_x ff_X11_44_10 rfl dX11_nail_73 ?_
      refine fx_get C hH (k := 5) (v := .int (nI to)) h_ro ff_X11_153_4 rfl dX11_nail_76 ?_
      exact fx_iretP C hr hk hH (K4 c4 s11_3) (Nat.zero_le _) (Nat.zero_le _) dX11_nail_79
    by_cases s11_4 : wh = nI 4
    · refine fx_ti (y := nI 4) s11_4 ?_
      refine lv_tableIn (off := 69) (tgt := 80) hx hb dX11_nail_11 (by decide) (by decide) (by decide) (by decide) ?_
      refine lv_aload_n hx hb dX11_nail_80 rfl (lv_at hl 0 rfl) ?_
      refine fx_get C hH (k := 3) (v := .ref ro) h_x ff_X11_44_10 rfl dX11_nail_81 ?_
      refine fx_get C hH (k := 6) (v := .int (nI lf)) h_ro ff_X11_194_4 rfl dX11_nail_84 ?_
      exact fx_iretP C hr hk hH (K5 c4 s11_4) (Nat.zero_le _) (Nat.zero_le _) dX11_nail_87
    by_cases s11_5 : wh = nI 5
    · refine fx_ti (y := nI 5) s11_5 ?_
      refine lv_tableIn (off := 77) (tgt := 88) hx hb dX11_nail_11 (by decide) (by decide) (by decide) (by decide) ?_
      refine lv_aload_n hx hb dX11_nail_88 rfl (lv_at hl 0 rfl) ?_
      refine fx_get C hH (k := 3) (v := .ref ro) h_x ff_X11_44_10 rfl dX11_nail_89 ?_
      refine fx_get C hH (k := 7) (v := .int ta) h_ro ff_X11_188_4 rfl dX11_nail_92 ?_
      exact fx_iretP C hr hk hH (K6 c4 s11_5) (Nat.zero_le _) (Nat.zero_le _) dX11_nail_95
    refine lv_tableOut (tgt := 96) hx hb dX11_nail_11 (fx_out6 s11_0 s11_1 s11_2 s11_3 s11_4 s11_5) (by decide) ?_
    refine lv_ldc (v := (-1000001)) hx hb C.2.2.2.1 (C.2.2.2.2.1 _ kI_X11_60 rfl args) dX11_nail_96 ?_
    exact fx_iretP C hr hk hH (K7 c4 s11_0 s11_1 s11_2 s11_3 s11_4 s11_5) (Nat.zero_le _) (Nat.zero_le _) dX11_nail_98
  · refine lv_ldc (v := (-1000002)) hx hb C.2.2.2.1 (C.2.2.2.2.1 _ kI_X11_133 rfl args) dX11_nail_7 ?_
    exact fx_iretP C hr hk hH (K8 c4) (Nat.zero_le _) (Nat.zero_le _) dX11_nail_9
abbrev rm_X11_place : Room := { frames := 2, cells := 0, slots := 0, locals := 43 }
set_option maxHeartbeats 4000000 in
set_option maxRecDepth 100000 in
theorem c_X11_place {G : GG} {base : Nat} {l : Launch} {f : Hp} {sz : Nat} {Po : Option Value → Hp → Nat → Prop} {x : Nat} {pp : Int32} {wh : Int32} {ra : Nat} {tp : Nat} {tc : Nat} {ro : Nat} {tr : Nat} {ia : Nat} {aa : Nat} {oa : Int32} {ak : Nat} {fa : Int32} {fi : Int32} {k : Nat} {w : Nat} {pl : Nat} {wy : Int32} {se : Int32} {to : Nat} {lf : Nat} {ta : Int32} {wt : Nat} {ch : Nat} {sk : Nat} {P : Nat} {st : Nat} {ov : Int32} {mi : Int32} {ri : Nat} {tl : Nat} {gw : Nat → Int32} {gc : Nat → Int32} (h_x : f x = some (oO 10 [.ref ra, .ref tp, .ref tc, .ref ro, .ref tr, .ref ia, .ref aa, .int oa, .int (nI ak), .int fa, .int fi])) (h_ro : f ro = some (oO 4 [.ref k, .ref w, .int (nI pl), .int wy, .int se, .int (nI to), .int (nI lf), .int ta])) (h_w : f w = some (oO 2 [.ref wt, .ref ch, .ref sk, .int (nI P), .int (nI st), .int ov, .int mi, .int (nI ri), .int (nI tl)])) (h_wt : f wt = some (oI 12 gw)) (h_ch : f ch = some (oI 12 gc)) (hne_0 : wt ≠ ch) (hP : P ≤ 12) (K1 : ∀ (c5 : ¬ (¬ pp < nI 0 ∧ ¬ (nI P - nI 1) < pp)), Po (some (.int (-1000001))) f sz)
    (K2 : ∀ (c5 : (¬ pp < nI 0 ∧ ¬ (nI P - nI 1) < pp)), ∀ (c14 : (¬ wh < (nI 0) ∧ ¬ (nI 1) < wh)), ∀ (px : Nat), ∀ (hpx : px < P), ∀ (hpe : pp = nI px), ∀ (c21 : ¬ wh = (0 : Int32)), Po (some (.int (gc px))) f sz)
    (K3 : ∀ (c5 : (¬ pp < nI 0 ∧ ¬ (nI P - nI 1) < pp)), ∀ (c14 : (¬ wh < (nI 0) ∧ ¬ (nI 1) < wh)), ∀ (px : Nat), ∀ (hpx : px < P), ∀ (hpe : pp = nI px), ∀ (c21 : wh = (0 : Int32)), Po (some (.int (gw px))) f sz)
    (K4 : ∀ (c5 : (¬ pp < nI 0 ∧ ¬ (nI P - nI 1) < pp)), ∀ (c14 : ¬ (¬ wh < (nI 0) ∧ ¬ (nI 1) < wh)), Po (some (.int (-1000001))) f sz) : fx_MP G base l yX11_place cX11_place 3 (some .int) rm_X11_place [.ref x, .int pp, .int wh] f sz Po := by
  refine fx_ofP (by decide +kernel) (Nat.le_of_ble_eq_true rfl) ?_
  intro p e s m args below meth c C hr hk hnm hH ls hl
  obtain ⟨locs, hlocs⟩ : ∃ L : List Loc, L = [] := ⟨_, rfl⟩
  rw [← hlocs] at hH ⊢
  generalize s.heap = H at hH ⊢
  have hx := C.1
  have hb := C.2.1
  have hl : lv_has ls 3 [(0, .ref x), (1, .int pp), (2, .int wh)] := hl
  refine lv_aload_n hx hb dX11_place_0 rfl (lv_at hl 0 rfl) ?_
  refine lv_iload_n hx hb dX11_place_1 rfl (lv_at hl 1 rfl) ?_
  refine fx_go1 hH (fx_runV C hH hl.1 (As := [.int pp]) (rest := []) (c_X11_isPlace (G := G) (base := base) (l := l) (f := f) (sz := sz) (x := x) (pp := pp) (ra := ra) (tp := tp) (tc := tc) (ro := ro) (tr := tr) (ia := ia) (aa := aa) (oa := oa) (ak := nI ak) (fa := fa) (fi := fi) (k := k) (w := w) (pl := nI pl) (wy := wy) (se := se) (to := nI to) (lf := nI lf) (ta := ta) (wt := wt) (ch := ch) (sk := sk) (P := P) (st := nI st) (ov := ov) (mi := mi) (ri := nI ri) (tl := tl) h_x h_ro h_w) mY_X11_isPlace ml_X11_184 im_X11_isPlace se_X11_X11_isPlace h_x rfl rfl ⟨(Nat.le_of_ble_eq_true rfl), (Nat.le_of_ble_eq_true rfl)⟩ rfl (Nat.le_of_ble_eq_true rfl) ⟨(Nat.le_of_ble_eq_true rfl), (Nat.le_of_ble_eq_true rfl)⟩ dX11_place_2) (fun H locs hH => ?_)
  refine fx_b_eq hx hb (tgt := 17) dX11_place_5 (by decide) (fun c5 => ?_) (fun c5 => ?_)
  · refine lv_ldc (v := (-1000001)) hx hb C.2.2.2.1 (C.2.2.2.2.1 _ kI_X11_60 rfl args) dX11_place_17 ?_
    exact fx_iretP C hr hk hH (K1 c5) (Nat.zero_le _) (Nat.zero_le _) dX11_place_19
  · refine lv_iload_n hx hb dX11_place_8 rfl (lv_at hl 2 rfl) ?_
    refine lv_iconst (v := nI 0) hx hb dX11_place_9 (by decide) ?_
    refine lv_iconst (v := nI 1) hx hb dX11_place_10 (by decide) ?_
    refine fx_go1 hH (fx_runS C hH hl.1 (As := [.int wh, .int (nI 0), .int (nI 1)]) (rest := []) (c_X11_within (G := G) (base := base) (l := l) (f := f) (sz := sz) (n := wh) (lo := nI 0) (hi := nI 1) ) mY_X11_within ml_X11_56 st_X11_within rfl ⟨(Nat.le_of_ble_eq_true rfl), (Nat.le_of_ble_eq_true rfl)⟩ rfl (Nat.le_of_ble_eq_true rfl) ⟨(Nat.le_of_ble_eq_true rfl), (Nat.le_of_ble_eq_true rfl)⟩ dX11_place_11) (fun H locs hH => ?_)
    refine fx_b_ne hx hb (tgt := 20) dX11_place_14 (by decide) (fun c14 => ?_) (fun c14 => ?_)
    · obtain ⟨px, hpx, rfl⟩ := rngS (by omega) c5
      · skip
        refine lv_iload_n hx hb dX11_place_20 rfl (lv_at hl 2 rfl) ?_
        refine lv_if_ne hx hb (tgt := 39) dX11_place_21 (by decide) (fun c21 => ?_) (fun c21 => ?_)
        · refine lv_aload_n hx hb dX11_place_39 rfl (lv_at hl 0 rfl) ?_
          refine fx_get C hH (k := 3) (v := .ref ro) h_x ff_X11_44_10 rfl dX11_place_40 ?_
          refine fx_get C hH (k := 1) (v := .ref w) h_ro ff_X11_197_4 rfl dX11_place_43 ?_
          refine fx_get C hH (k := 1) (v := .ref ch) h_w ff_X11_204_2 rfl dX11_place_46 ?_
          refine lv_iload_n hx hb dX11_place_49 rfl (lv_at hl 1 rfl) ?_
          refine fx_ialdN C hH h_ch (by omega) (by omega) dX11_place_50 ?_
          exact fx_iretP C hr hk hH (K2 c5 c14 px hpx rfl c21) (Nat.zero_le _) (Nat.zero_le _) dX11_place_51
        · refine lv_aload_n hx hb dX11_place_24 rfl (lv_at hl 0 rfl) ?_
          refine fx_get C hH (k := 3) (v := .ref ro) h_x ff_X11_44_10 rfl dX11_place_25 ?_
          refine fx_get C hH (k := 1) (v := .ref w) h_ro ff_X11_197_4 rfl dX11_place_28 ?_
          refine fx_get C hH (k := 0) (v := .ref wt) h_w ff_X11_201_2 rfl dX11_place_31 ?_
          refine lv_iload_n hx hb dX11_place_34 rfl (lv_at hl 1 rfl) ?_
          refine fx_ialdN C hH h_wt (by omega) (by omega) dX11_place_35 ?_
          refine lv_goto (tgt := 51) hx hb dX11_place_36 (by decide) ?_
          exact fx_iretP C hr hk hH (K3 c5 c14 px hpx rfl c21) (Nat.zero_le _) (Nat.zero_le _) dX11_place_51
    · refine lv_ldc (v := (-1000001)) hx hb C.2.2.2.1 (C.2.2.2.2.1 _ kI_X11_60 rfl args) dX11_place_17 ?_
      exact fx_iretP C hr hk hH (K4 c5 c14) (Nat.zero_le _) (Nat.zero_le _) dX11_place_19
