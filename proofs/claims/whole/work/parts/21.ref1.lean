abbrev rm_X12_finding : Room := { frames := 0, cells := 0, slots := 0, locals := 0 }
set_option maxHeartbeats 4000000 in
set_option maxRecDepth 100000 in
theorem c_X12_finding {G : GG} {base : Nat} {l : Launch} {f : Hp} {sz : Nat} {mo : Nat} {nn : Int32} {th : Int32} {sa : Int32} {la : Nat} {ma : Nat} {it : Nat} {rl : Nat} {fr : Nat} {li : Nat} {wa : Nat} {ld : Nat} {ac : Int32} {tp : Nat} {tn : Int32} {cu : Int32} {sr : Int32} {tk : Int32} {va : Int32} {ft : Int32} {fA : Int32} {lt : Int32} {so : Nat} {ik : Nat} {kp : Nat} {kl : Nat} {tc : Nat} {tt : Int32} (h_mo : f mo = some (oO 11 [.int th, .int sa, .ref la, .ref ma, .ref it, .ref rl, .ref fr, .ref li, .ref wa, .ref ld, .int ac, .ref tp, .int tn, .int cu, .int sr, .int tk, .int va, .int ft, .int fA, .int lt, .ref so, .ref ik, .ref kp, .ref kl, .ref tc, .int tt])) : fx_M G base l yX12_finding cX12_finding 2 (some .int) rm_X12_finding [.ref mo, .int nn] f sz (some (.int ((-1000010) - nn))) (fx_up f mo (oO 11 [.int th, .int nn, .ref la, .ref ma, .ref it, .ref rl, .ref fr, .ref li, .ref wa, .ref ld, .int ac, .ref tp, .int tn, .int cu, .int sr, .int tk, .int va, .int ft, .int fA, .int lt, .ref so, .ref ik, .ref kp, .ref kl, .ref tc, .int tt])) sz := by
  refine fx_of (by decide +kernel) (Nat.le_of_ble_eq_true rfl) ?_
  intro p e s m args below meth c C hr hk hnm hH ls hl
  obtain ⟨locs, hlocs⟩ : ∃ L : List Loc, L = [] := ⟨_, rfl⟩
  rw [← hlocs] at hH ⊢
  generalize s.heap = H at hH ⊢
  have hx := C.1
  have hb := C.2.1
  have hl : lv_has ls 2 [(0, .ref mo), (1, .int nn)] := hl
  refine lv_aload_n hx hb dX12_finding_0 rfl (lv_at hl 0 rfl) ?_
  refine lv_iload_n hx hb dX12_finding_1 rfl (lv_at hl 1 rfl) ?_
  refine fx_putT C hH (k := 1) h_mo ff_X12_58_11 fL_11 fT_11_1 rfl rfl (Nat.le_of_ble_eq_true rfl) dX12_finding_2 (fun H locs hH => ?_)
  have hH : fx_H G base s (fx_up f mo (oO 11 [.int th, .int nn, .ref la, .ref ma, .ref it, .ref rl, .ref fr, .ref li, .ref wa, .ref ld, .int ac, .ref tp, .int tn, .int cu, .int sr, .int tk, .int va, .int ft, .int fA, .int lt, .ref so, .ref ik, .ref kp, .ref kl, .ref tc, .int tt])) sz H locs := hH
  have h1_mo : (fx_up f mo (oO 11 [.int th, .int nn, .ref la, .ref ma, .ref it, .ref rl, .ref fr, .ref li, .ref wa, .ref ld, .int ac, .ref tp, .int tn, .int cu, .int sr, .int tk, .int va, .int ft, .int fA, .int lt, .ref so, .ref ik, .ref kp, .ref kl, .ref tc, .int tt])) mo = some (oO 11 [.int th, .int nn, .ref la, .ref ma, .ref it, .ref rl, .ref fr, .ref li, .ref wa, .ref ld, .int ac, .ref tp, .int tn, .int cu, .int sr, .int tk, .int va, .int ft, .int fA, .int lt, .ref so, .ref ik, .ref kp, .ref kl, .ref tc, .int tt]) := fx_up_s _ _ _
  refine lv_ldc (v := (-1000010)) hx hb C.2.2.2.1 (C.2.2.2.2.1 _ kI_X12_61 rfl args) dX12_finding_5 ?_
  refine lv_iload_n hx hb dX12_finding_7 rfl (lv_at hl 1 rfl) ?_
  refine lv_isub hx hb dX12_finding_8 ?_
  exact fx_iret C hr hk hH rfl rfl rfl (Nat.zero_le _) (Nat.zero_le _) dX12_finding_9
abbrev rm_X12_isThere : Room := { frames := 0, cells := 0, slots := 0, locals := 0 }
set_option maxHeartbeats 4000000 in
set_option maxRecDepth 100000 in
theorem c_X12_isThere {G : GG} {base : Nat} {l : Launch} {f : Hp} {sz : Nat} {P : Nat} {mo : Nat} {th : Int32} {sa : Int32} {la : Nat} {ma : Nat} {it : Nat} {rl : Nat} {fr : Nat} {li : Nat} {wa : Nat} {ld : Nat} {ac : Int32} {tp : Nat} {tn : Int32} {cu : Int32} {sr : Int32} {tk : Int32} {va : Int32} {ft : Int32} {fA : Int32} {lt : Int32} {so : Nat} {ik : Nat} {kp : Nat} {kl : Nat} {tc : Nat} {tt : Int32} {rho : Nat → Int32} (h_mo : f mo = some (oO 11 [.int th, .int sa, .ref la, .ref ma, .ref it, .ref rl, .ref fr, .ref li, .ref wa, .ref ld, .int ac, .ref tp, .int tn, .int cu, .int sr, .int tk, .int va, .int ft, .int fA, .int lt, .ref so, .ref ik, .ref kp, .ref kl, .ref tc, .int tt])) (h_rl : f rl = some (oI 48 rho)) (hP : rho 0 = nI P) (hP2 : P ≤ 12) : fx_M G base l yX12_isThere cX12_isThere 1 (some .boolean) rm_X12_isThere [.ref mo] f sz (some (.int (bI (0 < P)))) f sz := by
  refine fx_of (by decide +kernel) (Nat.le_of_ble_eq_true rfl) ?_
  intro p e s m args below meth c C hr hk hnm hH ls hl
  obtain ⟨locs, hlocs⟩ : ∃ L : List Loc, L = [] := ⟨_, rfl⟩
  rw [← hlocs] at hH ⊢
  generalize s.heap = H at hH ⊢
  have hx := C.1
  have hb := C.2.1
  have hl : lv_has ls 1 [(0, .ref mo)] := hl
  refine lv_aload_n hx hb dX12_isThere_0 rfl (lv_at hl 0 rfl) ?_
  refine fx_get C hH (k := 5) (v := .ref rl) h_mo ff_X12_19_11 rfl dX12_isThere_1 ?_
  refine lv_iconst (v := nI 0) hx hb dX12_isThere_4 (by decide) ?_
  refine fx_ialdN C hH h_rl (by omega) (by omega) dX12_isThere_5 ?_
  refine fx_ti (y := nI P) hP ?_
  refine fx_O_le (a := P) hx hb (by omega) (tgt := 13) dX12_isThere_6 (by decide) (fun c6 => ?_) (fun c6 => ?_)
  · refine lv_iconst (v := nI 0) hx hb dX12_isThere_13 (by decide) ?_
    exact fx_zret C hr hk hH (by decide) (by first | rfl | (simp [bI, *]; done) | ((repeat (first | rw [if_pos (by assumption)] | rw [if_neg (by assumption)])); done) | (unfold bI; grind)) rfl rfl (Nat.zero_le _) (Nat.zero_le _) dX12_isThere_14
  · refine lv_iconst (v := nI 1) hx hb dX12_isThere_9 (by decide) ?_
    refine lv_goto (tgt := 14) hx hb dX12_isThere_10 (by decide) ?_
    exact fx_zret C hr hk hH (by decide) (by first | rfl | (simp [bI, *]; done) | ((repeat (first | rw [if_pos (by assumption)] | rw [if_neg (by assumption)])); done) | (unfold bI; grind)) rfl rfl (Nat.zero_le _) (Nat.zero_le _) dX12_isThere_14
abbrev rm_X12_isPlace : Room := { frames := 1, cells := 0, slots := 0, locals := 25 }
set_option maxHeartbeats 4000000 in
set_option maxRecDepth 100000 in
theorem c_X12_isPlace {G : GG} {base : Nat} {l : Launch} {f : Hp} {sz : Nat} {P : Nat} {mo : Nat} {pp : Int32} {th : Int32} {sa : Int32} {la : Nat} {ma : Nat} {it : Nat} {rl : Nat} {fr : Nat} {li : Nat} {wa : Nat} {ld : Nat} {ac : Int32} {tp : Nat} {tn : Int32} {cu : Int32} {sr : Int32} {tk : Int32} {va : Int32} {ft : Int32} {fA : Int32} {lt : Int32} {so : Nat} {ik : Nat} {kp : Nat} {kl : Nat} {tc : Nat} {tt : Int32} {rho : Nat → Int32} (h_mo : f mo = some (oO 11 [.int th, .int sa, .ref la, .ref ma, .ref it, .ref rl, .ref fr, .ref li, .ref wa, .ref ld, .int ac, .ref tp, .int tn, .int cu, .int sr, .int tk, .int va, .int ft, .int fA, .int lt, .ref so, .ref ik, .ref kp, .ref kl, .ref tc, .int tt])) (h_rl : f rl = some (oI 48 rho)) (hP : rho 0 = nI P) : fx_M G base l yX12_isPlace cX12_isPlace 2 (some .boolean) rm_X12_isPlace [.ref mo, .int pp] f sz (some (.int (bI (¬ pp < nI 0 ∧ ¬ (nI P - nI 1) < pp)))) f sz := by
  refine fx_of (by decide +kernel) (Nat.le_of_ble_eq_true rfl) ?_
  intro p e s m args below meth c C hr hk hnm hH ls hl
  obtain ⟨locs, hlocs⟩ : ∃ L : List Loc, L = [] := ⟨_, rfl⟩
  rw [← hlocs] at hH ⊢
  generalize s.heap = H at hH ⊢
  have hx := C.1
  have hb := C.2.1
  have hl : lv_has ls 2 [(0, .ref mo), (1, .int pp)] := hl
  refine lv_iload_n hx hb dX12_isPlace_0 rfl (lv_at hl 1 rfl) ?_
  refine lv_i2l (v := pp.toInt64) hx hb dX12_isPlace_1 rfl ?_
  refine lv_lconst (v := lN 0) hx hb dX12_isPlace_2 (by decide) ?_
  refine lv_aload_n hx hb dX12_isPlace_3 rfl (lv_at hl 0 rfl) ?_
  refine fx_get C hH (k := 5) (v := .ref rl) h_mo ff_X12_19_11 rfl dX12_isPlace_4 ?_
  refine lv_iconst (v := nI 0) hx hb dX12_isPlace_7 (by decide) ?_
  refine fx_ialdN C hH h_rl (by omega) (by omega) dX12_isPlace_8 ?_
  refine fx_ti (y := nI P) hP ?_
  refine lv_iconst (v := nI 1) hx hb dX12_isPlace_9 (by decide) ?_
  refine lv_isub hx hb dX12_isPlace_10 ?_
  refine lv_i2l (v := ((nI P) - (nI 1)).toInt64) hx hb dX12_isPlace_11 rfl ?_
  refine fx_go1 hH (fx_runS C hH hl.1 (As := [.long pp.toInt64, .long (lN 0), .long (((nI P) - (nI 1)).toInt64)]) (rest := []) (c_X12_in_j (G := G) (base := base) (l := l) (f := f) (sz := sz) (x := pp) (y := ((nI P) - (nI 1))) (lo := 0) (by omega)) mY_X12_in ml_X12_64 st_X12_in rfl ⟨(Nat.le_of_ble_eq_true rfl), (Nat.le_of_ble_eq_true rfl)⟩ rfl (Nat.le_of_ble_eq_true rfl) ⟨(Nat.le_of_ble_eq_true rfl), (Nat.le_of_ble_eq_true rfl)⟩ dX12_isPlace_12) (fun H locs hH => ?_)
  exact fx_zret C hr hk hH (bI_n _) (by first | rfl | (simp [bI, *]; done) | ((repeat (first | rw [if_pos (by assumption)] | rw [if_neg (by assumption)])); done) | (unfold bI; grind)) rfl rfl (Nat.zero_le _) (Nat.zero_le _) dX12_isPlace_15
abbrev rm_X12_isSeeker : Room := { frames := 1, cells := 0, slots := 0, locals := 25 }
set_option maxHeartbeats 4000000 in
set_option maxRecDepth 100000 in
theorem c_X12_isSeeker {G : GG} {base : Nat} {l : Launch} {f : Hp} {sz : Nat} {tl : Nat} {mo : Nat} {pp : Int32} {th : Int32} {sa : Int32} {la : Nat} {ma : Nat} {it : Nat} {rl : Nat} {fr : Nat} {li : Nat} {wa : Nat} {ld : Nat} {ac : Int32} {tp : Nat} {tn : Int32} {cu : Int32} {sr : Int32} {tk : Int32} {va : Int32} {ft : Int32} {fA : Int32} {lt : Int32} {so : Nat} {ik : Nat} {kp : Nat} {kl : Nat} {tc : Nat} {tt : Int32} {rho : Nat → Int32} (h_mo : f mo = some (oO 11 [.int th, .int sa, .ref la, .ref ma, .ref it, .ref rl, .ref fr, .ref li, .ref wa, .ref ld, .int ac, .ref tp, .int tn, .int cu, .int sr, .int tk, .int va, .int ft, .int fA, .int lt, .ref so, .ref ik, .ref kp, .ref kl, .ref tc, .int tt])) (h_rl : f rl = some (oI 48 rho)) (ht : rho 5 = nI tl) : fx_M G base l yX12_isSeeker cX12_isSeeker 2 (some .boolean) rm_X12_isSeeker [.ref mo, .int pp] f sz (some (.int (bI (¬ pp < nI 0 ∧ ¬ (nI tl - nI 1) < pp)))) f sz := by
  refine fx_of (by decide +kernel) (Nat.le_of_ble_eq_true rfl) ?_
  intro p e s m args below meth c C hr hk hnm hH ls hl
  obtain ⟨locs, hlocs⟩ : ∃ L : List Loc, L = [] := ⟨_, rfl⟩
  rw [← hlocs] at hH ⊢
  generalize s.heap = H at hH ⊢
  have hx := C.1
  have hb := C.2.1
  have hl : lv_has ls 2 [(0, .ref mo), (1, .int pp)] := hl
  refine lv_iload_n hx hb dX12_isSeeker_0 rfl (lv_at hl 1 rfl) ?_
  refine lv_i2l (v := pp.toInt64) hx hb dX12_isSeeker_1 rfl ?_
  refine lv_lconst (v := lN 0) hx hb dX12_isSeeker_2 (by decide) ?_
  refine lv_aload_n hx hb dX12_isSeeker_3 rfl (lv_at hl 0 rfl) ?_
  refine fx_get C hH (k := 5) (v := .ref rl) h_mo ff_X12_19_11 rfl dX12_isSeeker_4 ?_
  refine lv_iconst (v := nI 5) hx hb dX12_isSeeker_7 (by decide) ?_
  refine fx_ialdN C hH h_rl (by omega) (by omega) dX12_isSeeker_8 ?_
  refine fx_ti (y := nI tl) ht ?_
  refine lv_iconst (v := nI 1) hx hb dX12_isSeeker_9 (by decide) ?_
  refine lv_isub hx hb dX12_isSeeker_10 ?_
  refine lv_i2l (v := ((nI tl) - (nI 1)).toInt64) hx hb dX12_isSeeker_11 rfl ?_
  refine fx_go1 hH (fx_runS C hH hl.1 (As := [.long pp.toInt64, .long (lN 0), .long (((nI tl) - (nI 1)).toInt64)]) (rest := []) (c_X12_in_j (G := G) (base := base) (l := l) (f := f) (sz := sz) (x := pp) (y := ((nI tl) - (nI 1))) (lo := 0) (by omega)) mY_X12_in ml_X12_64 st_X12_in rfl ⟨(Nat.le_of_ble_eq_true rfl), (Nat.le_of_ble_eq_true rfl)⟩ rfl (Nat.le_of_ble_eq_true rfl) ⟨(Nat.le_of_ble_eq_true rfl), (Nat.le_of_ble_eq_true rfl)⟩ dX12_isSeeker_12) (fun H locs hH => ?_)
  exact fx_zret C hr hk hH (bI_n _) (by first | rfl | (simp [bI, *]; done) | ((repeat (first | rw [if_pos (by assumption)] | rw [if_neg (by assumption)])); done) | (unfold bI; grind)) rfl rfl (Nat.zero_le _) (Nat.zero_le _) dX12_isSeeker_15
abbrev rm_X12_of : Room := { frames := 0, cells := 0, slots := 0, locals := 0 }
set_option maxHeartbeats 4000000 in
set_option maxRecDepth 100000 in
theorem c_X12_of {G : GG} {base : Nat} {l : Launch} {f : Hp} {sz : Nat} {mo : Nat} {j : Nat} {wh : Nat} {th : Int32} {sa : Int32} {la : Nat} {ma : Nat} {it : Nat} {rl : Nat} {fr : Nat} {li : Nat} {wa : Nat} {ld : Nat} {ac : Int32} {tp : Nat} {tn : Int32} {cu : Int32} {sr : Int32} {tk : Int32} {va : Int32} {ft : Int32} {fA : Int32} {lt : Int32} {so : Nat} {ik : Nat} {kp : Nat} {kl : Nat} {tc : Nat} {tt : Int32} {rho : Nat → Int32} (h_mo : f mo = some (oO 11 [.int th, .int sa, .ref la, .ref ma, .ref it, .ref rl, .ref fr, .ref li, .ref wa, .ref ld, .int ac, .ref tp, .int tn, .int cu, .int sr, .int tk, .int va, .int ft, .int fA, .int lt, .ref so, .ref ik, .ref kp, .ref kl, .ref tc, .int tt])) (h_rl : f rl = some (oI 48 rho)) (hj : j < 4) (hw : wh < 3) : fx_M G base l yX12_of cX12_of 3 (some .int) rm_X12_of [.ref mo, .int (nI j), .int (nI wh)] f sz (some (.int (rho (36 + (3 * j) + wh)))) f sz := by
  refine fx_of (by decide +kernel) (Nat.le_of_ble_eq_true rfl) ?_
  intro p e s m args below meth c C hr hk hnm hH ls hl
  obtain ⟨locs, hlocs⟩ : ∃ L : List Loc, L = [] := ⟨_, rfl⟩
  rw [← hlocs] at hH ⊢
  generalize s.heap = H at hH ⊢
  have hx := C.1
  have hb := C.2.1
  have hl : lv_has ls 3 [(0, .ref mo), (1, .int (nI j)), (2, .int (nI wh))] := hl
  refine lv_aload_n hx hb dX12_of_0 rfl (lv_at hl 0 rfl) ?_
  refine fx_get C hH (k := 5) (v := .ref rl) h_mo ff_X12_19_11 rfl dX12_of_1 ?_
  refine lv_bipush (v := nI 36) hx hb dX12_of_4 (by decide) ?_
  refine lv_iconst (v := nI 3) hx hb dX12_of_6 (by decide) ?_
  refine lv_iload_n hx hb dX12_of_7 rfl (lv_at hl 1 rfl) ?_
  refine lv_imul hx hb dX12_of_8 ?_
  refine fx_ti (y := nI (3 * j)) (pk_mul _ _) ?_
  refine lv_iadd hx hb dX12_of_9 ?_
  refine fx_ti (y := nI (36 + (3 * j))) (nI_add _ _) ?_
  refine lv_iload_n hx hb dX12_of_10 rfl (lv_at hl 2 rfl) ?_
  refine lv_iadd hx hb dX12_of_11 ?_
  refine fx_ti (y := nI (36 + (3 * j) + wh)) (nI_add _ _) ?_
  refine fx_ialdN C hH h_rl (by omega) (by omega) dX12_of_12 ?_
  exact fx_iret C hr hk hH rfl rfl rfl (Nat.zero_le _) (Nat.zero_le _) dX12_of_13
abbrev rm_X12_feel : Room := { frames := 1, cells := 0, slots := 0, locals := 22 }
set_option maxHeartbeats 4000000 in
set_option maxRecDepth 100000 in
theorem c_X12_feel {G : GG} {base : Nat} {l : Launch} {f : Hp} {sz : Nat} {K : Nat} {wi : Nat} {ag : Nat} {mo : Nat} {j : Nat} {wy : Int32} {th : Int32} {sa : Int32} {la : Nat} {ma : Nat} {it : Nat} {rl : Nat} {fr : Nat} {li : Nat} {wa : Nat} {ld : Nat} {ac : Int32} {tp : Nat} {tn : Int32} {cu : Int32} {sr : Int32} {tk : Int32} {va : Int32} {ft : Int32} {fA : Int32} {lt : Int32} {so : Nat} {ik : Nat} {kp : Nat} {kl : Nat} {tc : Nat} {tt : Int32} {rho : Nat → Int32} (h_mo : f mo = some (oO 11 [.int th, .int sa, .ref la, .ref ma, .ref it, .ref rl, .ref fr, .ref li, .ref wa, .ref ld, .int ac, .ref tp, .int tn, .int cu, .int sr, .int tk, .int va, .int ft, .int fA, .int lt, .ref so, .ref ik, .ref kp, .ref kl, .ref tc, .int tt])) (h_rl : f rl = some (oI 48 rho)) (hj : j < 4) (hk0 : rho (36 + (3 * j) + 0) = nI K) (hk1 : rho (36 + (3 * j) + 1) = nI wi) (hk2 : rho (36 + (3 * j) + 2) = nI ag) (hK : 1 ≤ K ∧ K ≤ 5) (hwi : wi ≤ 10) (hag : ag ≤ 10) : fx_M G base l yX12_feel cX12_feel 6 (some .int) rm_X12_feel [.ref mo, .int (nI j), .int wy] f sz (some (.int (nI (feN K wi ag wy)))) f sz := by
  refine fx_of (by decide +kernel) (Nat.le_of_ble_eq_true rfl) ?_
  intro p e s m args below meth c C hr hk hnm hH ls hl
  obtain ⟨locs, hlocs⟩ : ∃ L : List Loc, L = [] := ⟨_, rfl⟩
  rw [← hlocs] at hH ⊢
  generalize s.heap = H at hH ⊢
  have hx := C.1
  have hb := C.2.1
  have hl : lv_has ls 6 [(0, .ref mo), (1, .int (nI j)), (2, .int wy)] := hl
  refine lv_aload_n hx hb dX12_feel_0 rfl (lv_at hl 0 rfl) ?_
  refine lv_iload_n hx hb dX12_feel_1 rfl (lv_at hl 1 rfl) ?_
  refine lv_iconst (v := nI 1) hx hb dX12_feel_2 (by decide) ?_
  refine fx_go1 hH (fx_runV C hH hl.1 (As := [.int (nI j), .int (nI 1)]) (rest := []) (c_X12_of (G := G) (base := base) (l := l) (f := f) (sz := sz) (mo := mo) (j := j) (wh := 1) (th := th) (sa := sa) (la := la) (ma := ma) (it := it) (rl := rl) (fr := fr) (li := li) (wa := wa) (ld := ld) (ac := ac) (tp := tp) (tn := tn) (cu := cu) (sr := sr) (tk := tk) (va := va) (ft := ft) (fA := fA) (lt := lt) (so := so) (ik := ik) (kp := kp) (kl := kl) (tc := tc) (tt := tt) (rho := rho) h_mo h_rl (by omega) (by omega)) mY_X12_of ml_X12_159 im_X12_of se_X12_X12_of h_mo rfl rfl ⟨(Nat.le_of_ble_eq_true rfl), (Nat.le_of_ble_eq_true rfl)⟩ rfl (Nat.le_of_ble_eq_true rfl) ⟨(Nat.le_of_ble_eq_true rfl), (Nat.le_of_ble_eq_true rfl)⟩ dX12_feel_3) (fun H locs hH => ?_)
  refine fx_ti (y := nI wi) hk1 ?_
  refine lv_istore_n (lv' := [(3, .int (nI wi)), (0, .ref mo), (1, .int (nI j)), (2, .int wy)]) hx hb dX12_feel_6 rfl hl (by decide) rfl (fun ls hl => ?_)
  refine lv_aload_n hx hb dX12_feel_7 rfl (lv_at hl 1 rfl) ?_
  refine lv_iload_n hx hb dX12_feel_8 rfl (lv_at hl 2 rfl) ?_
  refine lv_iconst (v := nI 2) hx hb dX12_feel_9 (by decide) ?_
  refine fx_go1 hH (fx_runV C hH hl.1 (As := [.int (nI j), .int (nI 2)]) (rest := []) (c_X12_of (G := G) (base := base) (l := l) (f := f) (sz := sz) (mo := mo) (j := j) (wh := 2) (th := th) (sa := sa) (la := la) (ma := ma) (it := it) (rl := rl) (fr := fr) (li := li) (wa := wa) (ld := ld) (ac := ac) (tp := tp) (tn := tn) (cu := cu) (sr := sr) (tk := tk) (va := va) (ft := ft) (fA := fA) (lt := lt) (so := so) (ik := ik) (kp := kp) (kl := kl) (tc := tc) (tt := tt) (rho := rho) h_mo h_rl (by omega) (by omega)) mY_X12_of ml_X12_159 im_X12_of se_X12_X12_of h_mo rfl rfl ⟨(Nat.le_of_ble_eq_true rfl), (Nat.le_of_ble_eq_true rfl)⟩ rfl (Nat.le_of_ble_eq_true rfl) ⟨(Nat.le_of_ble_eq_true rfl), (Nat.le_of_ble_eq_true rfl)⟩ dX12_feel_10) (fun H locs hH => ?_)
  refine fx_ti (y := nI ag) hk2 ?_
  refine lv_istore (lv' := [(4, .int (nI ag)), (3, .int (nI wi)), (0, .ref mo), (1, .int (nI j)), (2, .int wy)]) hx hb dX12_feel_13 hl (by decide) rfl (fun ls hl => ?_)
  refine lv_aload_n hx hb dX12_feel_15 rfl (lv_at hl 2 rfl) ?_
  refine lv_iload_n hx hb dX12_feel_16 rfl (lv_at hl 3 rfl) ?_
  refine lv_iconst (v := nI 0) hx hb dX12_feel_17 (by decide) ?_
  refine fx_go1 hH (fx_runV C hH hl.1 (As := [.int (nI j), .int (nI 0)]) (rest := []) (c_X12_of (G := G) (base := base) (l := l) (f := f) (sz := sz) (mo := mo) (j := j) (wh := 0) (th := th) (sa := sa) (la := la) (ma := ma) (it := it) (rl := rl) (fr := fr) (li := li) (wa := wa) (ld := ld) (ac := ac) (tp := tp) (tn := tn) (cu := cu) (sr := sr) (tk := tk) (va := va) (ft := ft) (fA := fA) (lt := lt) (so := so) (ik := ik) (kp := kp) (kl := kl) (tc := tc) (tt := tt) (rho := rho) h_mo h_rl (by omega) (by omega)) mY_X12_of ml_X12_159 im_X12_of se_X12_X12_of h_mo rfl rfl ⟨(Nat.le_of_ble_eq_true rfl), (Nat.le_of_ble_eq_true rfl)⟩ rfl (Nat.le_of_ble_eq_true rfl) ⟨(Nat.le_of_ble_eq_true rfl), (Nat.le_of_ble_eq_true rfl)⟩ dX12_feel_18) (fun H locs hH => ?_)
  refine fx_ti (y := nI K) hk0 ?_
  refine lv_iconst (v := nI 3) hx hb dX12_feel_21 (by decide) ?_
  refine fx_N_ne (a := K) (b := 3) hx hb (by omega) (by omega) (tgt := 39) dX12_feel_22 (by decide) (fun c22 => ?_) (fun c22 => ?_)
  · refine lv_iload_n hx hb dX12_feel_39 rfl (lv_at hl 4 rfl) ?_
    refine lv_iconst (v := nI 1) hx hb dX12_feel_40 (by decide) ?_
    refine lv_icmp_ne hx hb (tgt := 48) dX12_feel_41 (by decide) (fun c41 => ?_) (fun c41 => ?_)
    · refine lv_iconst (v := nI 0) hx hb dX12_feel_48 (by decide) ?_
      refine lv_istore (lv' := [(5, .int (nI 0)), (4, .int (nI ag)), (3, .int (nI wi)), (0, .ref mo), (1, .int (nI j)), (2, .int wy)]) hx hb dX12_feel_49 hl (by decide) rfl (fun ls hl => ?_)
      refine lv_iload hx hb dX12_feel_51 (lv_at hl 0 rfl) ?_
      refine fx_O_eq (a := 0) hx hb (by omega) (tgt := 60) dX12_feel_53 (by decide) (fun c53 => ?_) (fun c53 => absurd c53 (by omega))
      refine lv_iload hx hb dX12_feel_60 (lv_at hl 1 rfl) ?_
      exact fx_iret C hr hk hH (by rw [feN, if_neg c22, if_neg c41]) rfl rfl (Nat.zero_le _) (Nat.zero_le _) dX12_feel_62
    · refine lv_iconst (v := nI 1) hx hb dX12_feel_44 (by decide) ?_
      refine lv_goto (tgt := 49) hx hb dX12_feel_45 (by decide) ?_
      refine lv_istore (lv' := [(5, .int (nI 1)), (4, .int (nI ag)), (3, .int (nI wi)), (0, .ref mo), (1, .int (nI j)), (2, .int wy)]) hx hb dX12_feel_49 hl (by decide) rfl (fun ls hl => ?_)
      refine lv_iload hx hb dX12_feel_51 (lv_at hl 0 rfl) ?_
      refine fx_O_eq (a := 1) hx hb (by omega) (tgt := 60) dX12_feel_53 (by decide) (fun c53 => absurd c53 (by omega)) (fun c53 => ?_)
      refine lv_iload_n hx hb dX12_feel_56 rfl (lv_at hl 2 rfl) ?_
      refine lv_goto (tgt := 62) hx hb dX12_feel_57 (by decide) ?_
      exact fx_iret C hr hk hH (by rw [feN, if_neg c22, if_pos c41]) rfl rfl (Nat.zero_le _) (Nat.zero_le _) dX12_feel_62
  · refine lv_iload_n hx hb dX12_feel_25 rfl (lv_at hl 1 rfl) ?_
    refine lv_iload hx hb dX12_feel_26 (lv_at hl 0 rfl) ?_
    refine fx_N_le (a := wi) (b := ag) hx hb (by omega) (by omega) (tgt := 35) dX12_feel_28 (by decide) (fun c28 => ?_) (fun c28 => ?_)
    · refine lv_iconst (v := nI 0) hx hb dX12_feel_35 (by decide) ?_
      refine lv_goto (tgt := 49) hx hb dX12_feel_36 (by decide) ?_
      refine lv_istore (lv' := [(5, .int (nI 0)), (4, .int (nI ag)), (3, .int (nI wi)), (0, .ref mo), (1, .int (nI j)), (2, .int wy)]) hx hb dX12_feel_49 hl (by decide) rfl (fun ls hl => ?_)
      refine lv_iload hx hb dX12_feel_51 (lv_at hl 0 rfl) ?_
      refine fx_O_eq (a := 0) hx hb (by omega) (tgt := 60) dX12_feel_53 (by decide) (fun c53 => ?_) (fun c53 => absurd c53 (by omega))
      refine lv_iload hx hb dX12_feel_60 (lv_at hl 1 rfl) ?_
      exact fx_iret C hr hk hH (by rw [feN, if_pos c22]; by_cases h9 : wi < ag; rw [if_pos h9]; rw [if_neg h9, show wi = ag from by omega]) rfl rfl (Nat.zero_le _) (Nat.zero_le _) dX12_feel_62
    · refine lv_iconst (v := nI 1) hx hb dX12_feel_31 (by decide) ?_
      refine lv_goto (tgt := 49) hx hb dX12_feel_32 (by decide) ?_
      refine lv_istore (lv' := [(5, .int (nI 1)), (4, .int (nI ag)), (3, .int (nI wi)), (0, .ref mo), (1, .int (nI j)), (2, .int wy)]) hx hb dX12_feel_49 hl (by decide) rfl (fun ls hl => ?_)
      refine lv_iload hx hb dX12_feel_51 (lv_at hl 0 rfl) ?_
      refine fx_O_eq (a := 1) hx hb (by omega) (tgt := 60) dX12_feel_53 (by decide) (fun c53 => absurd c53 (by omega)) (fun c53 => ?_)
      refine lv_iload_n hx hb dX12_feel_56 rfl (lv_at hl 2 rfl) ?_
      refine lv_goto (tgt := 62) hx hb dX12_feel_57 (by decide) ?_
      exact fx_iret C hr hk hH (by rw [feN, if_pos c22, if_neg (by omega)]) rfl rfl (Nat.zero_le _) (Nat.zero_le _) dX12_feel_62
abbrev rm_X12_around : Room := { frames := 0, cells := 0, slots := 0, locals := 0 }
set_option maxHeartbeats 4000000 in
set_option maxRecDepth 100000 in
theorem c_X12_around {G : GG} {base : Nat} {l : Launch} {f : Hp} {sz : Nat} {P : Nat} {mo : Nat} {pp : Int32} {th : Int32} {sa : Int32} {la : Nat} {ma : Nat} {it : Nat} {rl : Nat} {fr : Nat} {li : Nat} {wa : Nat} {ld : Nat} {ac : Int32} {tp : Nat} {tn : Int32} {cu : Int32} {sr : Int32} {tk : Int32} {va : Int32} {ft : Int32} {fA : Int32} {lt : Int32} {so : Nat} {ik : Nat} {kp : Nat} {kl : Nat} {tc : Nat} {tt : Int32} {rho : Nat → Int32} (h_mo : f mo = some (oO 11 [.int th, .int sa, .ref la, .ref ma, .ref it, .ref rl, .ref fr, .ref li, .ref wa, .ref ld, .int ac, .ref tp, .int tn, .int cu, .int sr, .int tk, .int va, .int ft, .int fA, .int lt, .ref so, .ref ik, .ref kp, .ref kl, .ref tc, .int tt])) (h_rl : f rl = some (oI 48 rho)) (hP : rho 0 = nI P) (hP2 : 1 ≤ P ∧ P ≤ 12) : fx_M G base l yX12_around cX12_around 2 (some .int) rm_X12_around [.ref mo, .int pp] f sz (some (.int (rmI (pp + nI P) (nI P)))) f sz := by
  refine fx_of (by decide +kernel) (Nat.le_of_ble_eq_true rfl) ?_
  intro p e s m args below meth c C hr hk hnm hH ls hl
  obtain ⟨locs, hlocs⟩ : ∃ L : List Loc, L = [] := ⟨_, rfl⟩
  rw [← hlocs] at hH ⊢
  generalize s.heap = H at hH ⊢
  have hx := C.1
  have hb := C.2.1
  have hl : lv_has ls 2 [(0, .ref mo), (1, .int pp)] := hl
  refine lv_iload_n hx hb dX12_around_0 rfl (lv_at hl 1 rfl) ?_
  refine lv_aload_n hx hb dX12_around_1 rfl (lv_at hl 0 rfl) ?_
  refine fx_get C hH (k := 5) (v := .ref rl) h_mo ff_X12_19_11 rfl dX12_around_2 ?_
  refine lv_iconst (v := nI 0) hx hb dX12_around_5 (by decide) ?_
  refine fx_ialdN C hH h_rl (by omega) (by omega) dX12_around_6 ?_
  refine fx_ti (y := nI P) hP ?_
  refine lv_iadd hx hb dX12_around_7 ?_
  refine lv_aload_n hx hb dX12_around_8 rfl (lv_at hl 0 rfl) ?_
  refine fx_get C hH (k := 5) (v := .ref rl) h_mo ff_X12_19_11 rfl dX12_around_9 ?_
  refine lv_iconst (v := nI 0) hx hb dX12_around_12 (by decide) ?_
  refine fx_ialdN C hH h_rl (by omega) (by omega) dX12_around_13 ?_
  refine fx_ti (y := nI P) hP ?_
  refine lv_irem hx hb dX12_around_14 (fun q => absurd ((nI_eq (b := 0) (by omega) (by omega)).mp q) (by omega)) ?_
  exact fx_iret C hr hk hH rfl rfl rfl (Nat.zero_le _) (Nat.zero_le _) dX12_around_15
abbrev rm_X12_speaks : Room := { frames := 2, cells := 0, slots := 0, locals := 47 }
set_option maxHeartbeats 4000000 in
set_option maxRecDepth 100000 in
theorem c_X12_speaks {G : GG} {base : Nat} {l : Launch} {f : Hp} {sz : Nat} {K : Nat} {wi : Nat} {ag : Nat} {cv : Nat} {mo : Nat} {j : Nat} {nl : Nat} {en : Nat} {fe : Nat} {th : Int32} {sa : Int32} {la : Nat} {ma : Nat} {it : Nat} {rl : Nat} {fr : Nat} {li : Nat} {wa : Nat} {ld : Nat} {ac : Int32} {tp : Nat} {tn : Int32} {cu : Int32} {sr : Int32} {tk : Int32} {va : Int32} {ft : Int32} {fA : Int32} {lt : Int32} {so : Nat} {ik : Nat} {kp : Nat} {kl : Nat} {tc : Nat} {tt : Int32} {rho : Nat → Int32} (h_mo : f mo = some (oO 11 [.int th, .int sa, .ref la, .ref ma, .ref it, .ref rl, .ref fr, .ref li, .ref wa, .ref ld, .int ac, .ref tp, .int tn, .int cu, .int sr, .int tk, .int va, .int ft, .int fA, .int lt, .ref so, .ref ik, .ref kp, .ref kl, .ref tc, .int tt])) (h_rl : f rl = some (oI 48 rho)) (hj : j < 4) (hk0 : rho (36 + (3 * j) + 0) = nI K) (hk1 : rho (36 + (3 * j) + 1) = nI wi) (hk2 : rho (36 + (3 * j) + 2) = nI ag) (hK : 1 ≤ K ∧ K ≤ 5) (hwi : wi ≤ 10) (hag : ag ≤ 10) (hnl : nl < 12) (hen : en ≤ 12) (hcv : rho (24 + nl) = nI cv) (hcv2 : cv ≤ 10) (hfe : fe ≤ 1) : fx_M G base l yX12_speaks cX12_speaks 6 (some .int) rm_X12_speaks [.ref mo, .int (nI j), .int (nI nl), .int (nI en), .int (nI fe)] f sz (some (.int (nI (if fe = 1 then (if nl = en then feN K wi ag (rho 7) else cv) else (10 - (if nl = en then feN K wi ag (rho 7) else cv)))))) f sz := by
  refine fx_of (by decide +kernel) (Nat.le_of_ble_eq_true rfl) ?_
  intro p e s m args below meth c C hr hk hnm hH ls hl
  obtain ⟨locs, hlocs⟩ : ∃ L : List Loc, L = [] := ⟨_, rfl⟩
  rw [← hlocs] at hH ⊢
  generalize s.heap = H at hH ⊢
  have hx := C.1
  have hb := C.2.1
  have hl : lv_has ls 6 [(0, .ref mo), (1, .int (nI j)), (2, .int (nI nl)), (3, .int (nI en)), (4, .int (nI fe))] := hl
  have hfl : feN K wi ag (rho 7) ≤ 10 := feN_le hwi hag
  refine lv_iload_n hx hb dX12_speaks_0 rfl (lv_at hl 2 rfl) ?_
  refine lv_iload_n hx hb dX12_speaks_1 rfl (lv_at hl 3 rfl) ?_
  refine fx_N_ne (a := nl) (b := en) hx hb (by omega) (by omega) (tgt := 20) dX12_speaks_2 (by decide) (fun c2 => ?_) (fun c2 => ?_)
  · refine lv_aload_n hx hb dX12_speaks_20 rfl (lv_at hl 0 rfl) ?_
    refine fx_get C hH (k := 5) (v := .ref rl) h_mo ff_X12_19_11 rfl dX12_speaks_21 ?_
    refine lv_bipush (v := nI 24) hx hb dX12_speaks_24 (by decide) ?_
    refine lv_iload_n hx hb dX12_speaks_26 rfl (lv_at hl 2 rfl) ?_
    refine lv_iadd hx hb dX12_speaks_27 ?_
    refine fx_ti (y := nI (24 + nl)) (nI_add _ _) ?_
    refine fx_ialdN C hH h_rl (by omega) (by omega) dX12_speaks_28 ?_
    refine fx_ti (y := nI cv) hcv ?_
    refine lv_istore (lv' := [(5, .int (nI cv)), (0, .ref mo), (1, .int (nI j)), (2, .int (nI nl)), (3, .int (nI en)), (4, .int (nI fe))]) hx hb dX12_speaks_29 hl (by decide) rfl (fun ls hl => ?_)
    refine lv_iload hx hb dX12_speaks_31 (lv_at hl 5 rfl) ?_
    refine lv_iconst (v := nI 1) hx hb dX12_speaks_33 (by decide) ?_
    refine fx_N_ne (a := fe) (b := 1) hx hb (by omega) (by omega) (tgt := 42) dX12_speaks_34 (by decide) (fun c34 => ?_) (fun c34 => ?_)
    · refine lv_bipush (v := nI 10) hx hb dX12_speaks_42 (by decide) ?_
      refine lv_iload hx hb dX12_speaks_44 (lv_at hl 0 rfl) ?_
      refine lv_isub hx hb dX12_speaks_46 ?_
      refine fx_ti (y := nI (10 - cv)) (pk_sub (by omega)) ?_
      exact fx_iret C hr hk hH (by rw [if_neg c34, if_neg c2]) rfl rfl (Nat.zero_le _) (Nat.zero_le _) dX12_speaks_47
    · refine lv_iload hx hb dX12_speaks_37 (lv_at hl 0 rfl) ?_
      refine lv_goto (tgt := 47) hx hb dX12_speaks_39 (by decide) ?_
      exact fx_iret C hr hk hH (by rw [if_pos c34, if_neg c2]) rfl rfl (Nat.zero_le _) (Nat.zero_le _) dX12_speaks_47
  · refine lv_aload_n hx hb dX12_speaks_5 rfl (lv_at hl 0 rfl) ?_
    refine lv_iload_n hx hb dX12_speaks_6 rfl (lv_at hl 1 rfl) ?_
    refine lv_aload_n hx hb dX12_speaks_7 rfl (lv_at hl 0 rfl) ?_
    refine fx_get C hH (k := 5) (v := .ref rl) h_mo ff_X12_19_11 rfl dX12_speaks_8 ?_
    refine lv_bipush (v := nI 7) hx hb dX12_speaks_11 (by decide) ?_
    refine fx_ialdN C hH h_rl (by omega) (by omega) dX12_speaks_13 ?_
    refine fx_go1 hH (fx_runV C hH hl.1 (As := [.int (nI j), .int (rho 7)]) (rest := []) (c_X12_feel (G := G) (base := base) (l := l) (f := f) (sz := sz) (K := K) (wi := wi) (ag := ag) (mo := mo) (j := j) (wy := rho 7) (th := th) (sa := sa) (la := la) (ma := ma) (it := it) (rl := rl) (fr := fr) (li := li) (wa := wa) (ld := ld) (ac := ac) (tp := tp) (tn := tn) (cu := cu) (sr := sr) (tk := tk) (va := va) (ft := ft) (fA := fA) (lt := lt) (so := so) (ik := ik) (kp := kp) (kl := kl) (tc := tc) (tt := tt) (rho := rho) h_mo h_rl (by omega) hk0 hk1 hk2 (by omega) (by omega) (by omega)) mY_X12_feel ml_X12_162 im_X12_feel se_X12_X12_feel h_mo rfl rfl ⟨(Nat.le_of_ble_eq_true rfl), (Nat.le_of_ble_eq_true rfl)⟩ rfl (Nat.le_of_ble_eq_true rfl) ⟨(Nat.le_of_ble_eq_true rfl), (Nat.le_of_ble_eq_true rfl)⟩ dX12_speaks_14) (fun H locs hH => ?_)
    refine lv_goto (tgt := 29) hx hb dX12_speaks_17 (by decide) ?_
    refine lv_istore (lv' := [(5, .int (nI (feN K wi ag (rho 7)))), (0, .ref mo), (1, .int (nI j)), (2, .int (nI nl)), (3, .int (nI en)), (4, .int (nI fe))]) hx hb dX12_speaks_29 hl (by decide) rfl (fun ls hl => ?_)
    refine lv_iload hx hb dX12_speaks_31 (lv_at hl 5 rfl) ?_
    refine lv_iconst (v := nI 1) hx hb dX12_speaks_33 (by decide) ?_
    refine fx_N_ne (a := fe) (b := 1) hx hb (by omega) (by omega) (tgt := 42) dX12_speaks_34 (by decide) (fun c34 => ?_) (fun c34 => ?_)
    · refine lv_bipush (v := nI 10) hx hb dX12_speaks_42 (by decide) ?_
      refine lv_iload hx hb dX12_speaks_44 (lv_at hl 0 rfl) ?_
      refine lv_isub hx hb dX12_speaks_46 ?_
      refine fx_ti (y := nI (10 - (feN K wi ag (rho 7)))) (pk_sub (by omega)) ?_
      exact fx_iret C hr hk hH (by rw [if_neg c34, if_pos c2]) rfl rfl (Nat.zero_le _) (Nat.zero_le _) dX12_speaks_47
    · refine lv_iload hx hb dX12_speaks_37 (lv_at hl 0 rfl) ?_
      refine lv_goto (tgt := 47) hx hb dX12_speaks_39 (by decide) ?_
      exact fx_iret C hr hk hH (by rw [if_pos c34, if_pos c2]) rfl rfl (Nat.zero_le _) (Nat.zero_le _) dX12_speaks_47
abbrev rm_X12_allLike : Room := { frames := 0, cells := 0, slots := 0, locals := 0 }
set_option maxHeartbeats 4000000 in
set_option maxRecDepth 100000 in
theorem c_X12_allLike {G : GG} {base : Nat} {l : Launch} {f : Hp} {sz : Nat} {P : Nat} {mo : Nat} {th : Int32} {sa : Int32} {la : Nat} {ma : Nat} {it : Nat} {rl : Nat} {fr : Nat} {li : Nat} {wa : Nat} {ld : Nat} {ac : Int32} {tp : Nat} {tn : Int32} {cu : Int32} {sr : Int32} {tk : Int32} {va : Int32} {ft : Int32} {fA : Int32} {lt : Int32} {so : Nat} {ik : Nat} {kp : Nat} {kl : Nat} {tc : Nat} {tt : Int32} {rho : Nat → Int32} {lam : Nat → Int64} (h_mo : f mo = some (oO 11 [.int th, .int sa, .ref la, .ref ma, .ref it, .ref rl, .ref fr, .ref li, .ref wa, .ref ld, .int ac, .ref tp, .int tn, .int cu, .int sr, .int tk, .int va, .int ft, .int fA, .int lt, .ref so, .ref ik, .ref kp, .ref kl, .ref tc, .int tt])) (h_rl : f rl = some (oI 48 rho)) (h_li : f li = some (oJ 13 lam)) (hP : rho 0 = nI P) (hP2 : P ≤ 12) : fx_M G base l yX12_allLike cX12_allLike 4 (some .long) rm_X12_allLike [.ref mo] f sz (some (.long (sJ lam (P + 1)))) f sz := by
  refine fx_of (by decide +kernel) (Nat.le_of_ble_eq_true rfl) ?_
  intro p e s m args below meth c C hr hk hnm hH ls hl
  obtain ⟨locs, hlocs⟩ : ∃ L : List Loc, L = [] := ⟨_, rfl⟩
  rw [← hlocs] at hH ⊢
  generalize s.heap = H at hH ⊢
  have hx := C.1
  have hb := C.2.1
  have hl : lv_has ls 4 [(0, .ref mo)] := hl
  refine lv_lconst (v := lN 0) hx hb dX12_allLike_0 (by decide) ?_
  refine lv_lstore_n (lv' := [(1, .long (lN 0)), (0, .ref mo)]) hx hb dX12_allLike_1 rfl hl (by decide) rfl (fun ls hl => ?_)
  refine lv_iconst (v := nI 0) hx hb dX12_allLike_2 (by decide) ?_
  refine lv_istore_n (lv' := [(3, .int (nI 0)), (1, .long (lN 0)), (0, .ref mo)]) hx hb dX12_allLike_3 rfl hl (by decide) rfl (fun ls hl => ?_)
  have loop_4 : ∀ (N_4 : Nat) (i : Nat) (hi : i ≤ P + 1) (hm_4 : P + 1 - i < N_4) (H : Heap) (locs : List Loc) (hH : fx_H G base s f sz H locs) (ls : Array Slot) (hl : lv_has ls 4 [(0, .ref mo), (1, .long (sJ lam i)), (3, .int (nI i))]), W p l e rm_X12_allLike s m args below meth c H locs 0 0 (MQ below (fx_Q G base (some (.long (sJ lam (P + 1)))) f sz) args s rm_X12_allLike.cells rm_X12_allLike.slots (fun q => base ≤ q)) (F0 m 4 ls []) := by
    intro N_4
    induction N_4 with
    | zero => intro i hi hm_4; exact absurd hm_4 (Nat.not_lt_zero _)
    | succ N_4 ih_4 =>
      intro i hi hm_4 H locs hH ls hl
      refine lv_iload_n hx hb dX12_allLike_4 rfl (lv_at hl 2 rfl) ?_
      refine lv_aload_n hx hb dX12_allLike_5 rfl (lv_at hl 0 rfl) ?_
      refine fx_get C hH (k := 5) (v := .ref rl) h_mo ff_X12_19_11 rfl dX12_allLike_6 ?_
      refine lv_iconst (v := nI 0) hx hb dX12_allLike_9 (by decide) ?_
      refine fx_ialdN C hH h_rl (by omega) (by omega) dX12_allLike_10 ?_
      refine fx_ti (y := nI P) hP ?_
      refine fx_N_gt (a := i) (b := P) hx hb (by omega) (by omega) (tgt := 29) dX12_allLike_11 (by decide) (fun c11 => ?_) (fun c11 => ?_)
      · refine lv_lload_n hx hb dX12_allLike_29 rfl (lv_at hl 1 rfl) ?_
        exact fx_lret C hr hk hH (by rw [show i = P + 1 from by omega]) rfl rfl (Nat.zero_le _) (Nat.zero_le _) dX12_allLike_30
      · refine lv_lload_n hx hb dX12_allLike_14 rfl (lv_at hl 1 rfl) ?_
        refine lv_aload_n hx hb dX12_allLike_15 rfl (lv_at hl 0 rfl) ?_
        refine fx_get C hH (k := 7) (v := .ref li) h_mo ff_X12_25_11 rfl dX12_allLike_16 ?_
        refine lv_iload_n hx hb dX12_allLike_19 rfl (lv_at hl 2 rfl) ?_
        refine fx_laldN C hH h_li (by omega) (by omega) dX12_allLike_20 ?_
        refine lv_ladd hx hb dX12_allLike_21 ?_
        refine lv_lstore_n (lv' := [(1, .long ((sJ lam i) + (lam i))), (0, .ref mo), (3, .int (nI i))]) hx hb dX12_allLike_22 rfl hl (by decide) rfl (fun ls hl => ?_)
        refine lv_iinc (v := nI (i + 1)) (lv' := [(3, .int (nI (i + 1))), (1, .long ((sJ lam i) + (lam i))), (0, .ref mo)]) hx hb dX12_allLike_23 hl (k := 2) rfl (nI_1 _) (by decide) rfl (fun ls hl => ?_)
        refine lv_goto (tgt := 4) hx hb dX12_allLike_26 (by decide) ?_
        have hl : lv_has ls 4 [(0, .ref mo), (1, .long ((sJ lam i) + (lam i))), (3, .int (nI (i + 1)))] := lv_sub hl [2, 1, 0] rfl
        have hl : lv_has ls 4 [(0, .ref mo), (1, .long (sJ lam (i + 1))), (3, .int (nI (i + 1)))] := hl
        exact ih_4 (i + 1) (by omega) (by omega) _ _ hH _ hl
  have hl : lv_has ls 4 [(0, .ref mo), (1, .long (lN 0)), (3, .int (nI 0))] := lv_sub hl [2, 1, 0] rfl
  have hl : lv_has ls 4 [(0, .ref mo), (1, .long (sJ lam 0)), (3, .int (nI 0))] := hl
  exact loop_4 _ 0 (by omega) (Nat.lt_succ_self _) _ _ hH _ hl
abbrev rm_X12_part : Room := { frames := 0, cells := 0, slots := 0, locals := 0 }
set_option maxHeartbeats 4000000 in
set_option maxRecDepth 100000 in
theorem c_X12_part {G : GG} {base : Nat} {l : Launch} {f : Hp} {sz : Nat} {aa_ : Nat} {bb : Nat} {wh : Nat} (ha : aa_ < 2 ^ 63) (hb0 : bb < 2 ^ 63) (hw : wh ≤ 1) (hg : 0 < Nat.gcd aa_ bb) : fx_M G base l yX12_part cX12_part 11 (some .long) rm_X12_part [.long (lN aa_), .long (lN bb), .int (nI wh)] f sz (some (.long (lN ((if wh = 0 then aa_ else bb) / Nat.gcd aa_ bb)))) f sz := by
  refine fx_of (by decide +kernel) (Nat.le_of_ble_eq_true rfl) ?_
  intro p e s m args below meth c C hr hk hnm hH ls hl
  obtain ⟨locs, hlocs⟩ : ∃ L : List Loc, L = [] := ⟨_, rfl⟩
  rw [← hlocs] at hH ⊢
  generalize s.heap = H at hH ⊢
  have hx := C.1
  have hb := C.2.1
  have hl : lv_has ls 11 [(0, .long (lN aa_)), (2, .long (lN bb)), (4, .int (nI wh))] := hl
  refine lv_lload_n hx hb dX12_part_0 rfl (lv_at hl 0 rfl) ?_
  refine lv_lstore (lv' := [(5, .long (lN aa_)), (0, .long (lN aa_)), (2, .long (lN bb)), (4, .int (nI wh))]) hx hb dX12_part_1 hl (by decide) rfl (fun ls hl => ?_)
  refine lv_lload_n hx hb dX12_part_3 rfl (lv_at hl 2 rfl) ?_
  refine lv_lstore (lv' := [(7, .long (lN bb)), (5, .long (lN aa_)), (0, .long (lN aa_)), (2, .long (lN bb)), (4, .int (nI wh))]) hx hb dX12_part_4 hl (by decide) rfl (fun ls hl => ?_)
  have loop_6 : ∀ (N_6 : Nat) (x_ : Nat) (y_ : Nat) (hx0 : x_ < 2 ^ 63) (hy0 : y_ < 2 ^ 63) (hgc : Nat.gcd x_ y_ = Nat.gcd aa_ bb) (hm_6 : y_ < N_6) (H : Heap) (locs : List Loc) (hH : fx_H G base s f sz H locs) (ls : Array Slot) (hl : lv_has ls 11 [(0, .long (lN aa_)), (2, .long (lN bb)), (4, .int (nI wh)), (5, .long (lN x_)), (7, .long (lN y_))]), W p l e rm_X12_part s m args below meth c H locs 0 0 (MQ below (fx_Q G base (some (.long (lN ((if wh = 0 then aa_ else bb) / Nat.gcd aa_ bb)))) f sz) args s rm_X12_part.cells rm_X12_part.slots (fun q => base ≤ q)) (F0 m 6 ls []) := by
    intro N_6
    induction N_6 with
    | zero => intro x_ y_ hx0 hy0 hgc hm_6; exact absurd hm_6 (Nat.not_lt_zero _)
    | succ N_6 ih_6 =>
      intro x_ y_ hx0 hy0 hgc hm_6 H locs hH ls hl
      refine lv_lload hx hb dX12_part_6 (lv_at hl 4 rfl) ?_
      refine lv_lconst (v := lN 0) hx hb dX12_part_8 (by decide) ?_
      refine W.lcmp hx hb dX12_part_9 ?_
      refine fx_JN_eq (a := y_) (b := 0) hx hb (by omega) (by omega) (tgt := 31) dX12_part_10 (by decide) (fun c10 => ?_) (fun c10 => ?_)
      · have hxg : x_ = Nat.gcd aa_ bb := by rw [← hgc, c10, Nat.gcd_zero_right]
        refine lv_iload hx hb dX12_part_31 (lv_at hl 2 rfl) ?_
        refine fx_O_ne (a := wh) hx hb (by omega) (tgt := 40) dX12_part_33 (by decide) (fun c33 => ?_) (fun c33 => ?_)
        · refine lv_lload_n hx hb dX12_part_40 rfl (lv_at hl 1 rfl) ?_
          refine lv_lload hx hb dX12_part_41 (lv_at hl 3 rfl) ?_
          refine lv_ldiv hx hb dX12_part_43 (fun q => absurd ((pk_lEQ (b := 0) (by omega) (by omega)).mp q) (by omega)) ?_
          refine fx_tl (y := lN (bb / x_)) (pk_lDiv (by omega) (by omega) (by omega)) ?_
          exact fx_lret C hr hk hH (by rw [if_neg c33, hxg]) rfl rfl (Nat.zero_le _) (Nat.zero_le _) dX12_part_44
        · refine lv_lload_n hx hb dX12_part_36 rfl (lv_at hl 0 rfl) ?_
          refine lv_goto (tgt := 41) hx hb dX12_part_37 (by decide) ?_
          refine lv_lload hx hb dX12_part_41 (lv_at hl 3 rfl) ?_
          refine lv_ldiv hx hb dX12_part_43 (fun q => absurd ((pk_lEQ (b := 0) (by omega) (by omega)).mp q) (by omega)) ?_
          refine fx_tl (y := lN (aa_ / x_)) (pk_lDiv (by omega) (by omega) (by omega)) ?_
          exact fx_lret C hr hk hH (by rw [if_pos c33, hxg]) rfl rfl (Nat.zero_le _) (Nat.zero_le _) dX12_part_44
      · refine lv_lload hx hb dX12_part_13 (lv_at hl 3 rfl) ?_
        refine lv_lload hx hb dX12_part_15 (lv_at hl 4 rfl) ?_
        refine lv_lrem hx hb dX12_part_17 (fun q => absurd ((pk_lEQ (b := 0) (by omega) (by omega)).mp q) (by omega)) ?_
        refine fx_tl (y := lN (x_ % y_)) (pk_lRem (by omega) (by omega) (by omega)) ?_
        refine lv_lstore (lv' := [(9, .long (lN (x_ % y_))), (0, .long (lN aa_)), (2, .long (lN bb)), (4, .int (nI wh)), (5, .long (lN x_)), (7, .long (lN y_))]) hx hb dX12_part_18 hl (by decide) rfl (fun ls hl => ?_)
        refine lv_lload hx hb dX12_part_20 (lv_at hl 5 rfl) ?_
        refine lv_lstore (lv' := [(5, .long (lN y_)), (9, .long (lN (x_ % y_))), (0, .long (lN aa_)), (2, .long (lN bb)), (4, .int (nI wh)), (7, .long (lN y_))]) hx hb dX12_part_22 hl (by decide) rfl (fun ls hl => ?_)
        refine lv_lload hx hb dX12_part_24 (lv_at hl 1 rfl) ?_
        refine lv_lstore (lv' := [(7, .long (lN (x_ % y_))), (5, .long (lN y_)), (9, .long (lN (x_ % y_))), (0, .long (lN aa_)), (2, .long (lN bb)), (4, .int (nI wh))]) hx hb dX12_part_26 hl (by decide) rfl (fun ls hl => ?_)
        refine lv_goto (tgt := 6) hx hb dX12_part_28 (by decide) ?_
        have hl : lv_has ls 11 [(0, .long (lN aa_)), (2, .long (lN bb)), (4, .int (nI wh)), (5, .long (lN y_)), (7, .long (lN (x_ % y_)))] := lv_sub hl [3, 4, 5, 1, 0] rfl
        exact ih_6 y_ (x_ % y_) hy0 (Nat.lt_of_le_of_lt (Nat.mod_le _ _) hx0) (by rw [← hgc, Nat.gcd_comm x_ y_, Nat.gcd_rec y_ x_, Nat.gcd_comm]) (Nat.lt_of_lt_of_le (Nat.mod_lt _ (by omega)) (by omega)) _ _ hH _ hl
  have hl : lv_has ls 11 [(0, .long (lN aa_)), (2, .long (lN bb)), (4, .int (nI wh)), (5, .long (lN aa_)), (7, .long (lN bb))] := lv_sub hl [2, 3, 4, 1, 0] rfl
  exact loop_6 _ aa_ bb (by omega) (by omega) rfl (Nat.lt_succ_self _) _ _ hH _ hl
abbrev rm_X12_likeliestBut : Room := { frames := 0, cells := 0, slots := 0, locals := 0 }
set_option maxHeartbeats 4000000 in
set_option maxRecDepth 100000 in
theorem c_X12_likeliestBut {G : GG} {base : Nat} {l : Launch} {f : Hp} {sz : Nat} {P : Nat} {mo : Nat} {xx : Int32} {th : Int32} {sa : Int32} {la : Nat} {ma : Nat} {it : Nat} {rl : Nat} {fr : Nat} {li : Nat} {wa : Nat} {ld : Nat} {ac : Int32} {tp : Nat} {tn : Int32} {cu : Int32} {sr : Int32} {tk : Int32} {va : Int32} {ft : Int32} {fA : Int32} {lt : Int32} {so : Nat} {ik : Nat} {kp : Nat} {kl : Nat} {tc : Nat} {tt : Int32} {rho : Nat → Int32} {q : Nat → Int64} (h_mo : f mo = some (oO 11 [.int th, .int sa, .ref la, .ref ma, .ref it, .ref rl, .ref fr, .ref li, .ref wa, .ref ld, .int ac, .ref tp, .int tn, .int cu, .int sr, .int tk, .int va, .int ft, .int fA, .int lt, .ref so, .ref ik, .ref kp, .ref kl, .ref tc, .int tt])) (h_rl : f rl = some (oI 48 rho)) (h_so : f so = some (oJ 13 q)) (hP : rho 0 = nI P) (hP2 : P ≤ 12) : fx_M G base l yX12_likeliestBut cX12_likeliestBut 4 (some .int) rm_X12_likeliestBut [.ref mo, .int xx] f sz (some (.int (oB (lo q xx P)))) f sz := by
  refine fx_of (by decide +kernel) (Nat.le_of_ble_eq_true rfl) ?_
  intro p e s m args below meth c C hr hk hnm hH ls hl
  obtain ⟨locs, hlocs⟩ : ∃ L : List Loc, L = [] := ⟨_, rfl⟩
  rw [← hlocs] at hH ⊢
  generalize s.heap = H at hH ⊢
  have hx := C.1
  have hb := C.2.1
  have hl : lv_has ls 4 [(0, .ref mo), (1, .int xx)] := hl
  refine lv_ldc (v := (-1000000)) hx hb C.2.2.2.1 (C.2.2.2.2.1 _ kI_X12_97 rfl args) dX12_likeliestBut_0 ?_
  refine lv_istore_n (lv' := [(2, .int (-1000000)), (0, .ref mo), (1, .int xx)]) hx hb dX12_likeliestBut_2 rfl hl (by decide) rfl (fun ls hl => ?_)
  refine lv_iconst (v := nI 0) hx hb dX12_likeliestBut_3 (by decide) ?_
  refine lv_istore_n (lv' := [(3, .int (nI 0)), (2, .int (-1000000)), (0, .ref mo), (1, .int xx)]) hx hb dX12_likeliestBut_4 rfl hl (by decide) rfl (fun ls hl => ?_)
  have loop_5 : ∀ (N_5 : Nat) (i : Nat) (hi : i ≤ P) (hm_5 : P - i < N_5) (H : Heap) (locs : List Loc) (hH : fx_H G base s f sz H locs) (ls : Array Slot) (hl : lv_has ls 4 [(0, .ref mo), (1, .int xx), (2, .int (oB (lo q xx i))), (3, .int (nI i))]), W p l e rm_X12_likeliestBut s m args below meth c H locs 0 0 (MQ below (fx_Q G base (some (.int (oB (lo q xx P)))) f sz) args s rm_X12_likeliestBut.cells rm_X12_likeliestBut.slots (fun q => base ≤ q)) (F0 m 5 ls []) := by
    intro N_5
    induction N_5 with
    | zero => intro i hi hm_5; exact absurd hm_5 (Nat.not_lt_zero _)
    | succ N_5 ih_5 =>
      intro i hi hm_5 H locs hH ls hl
      refine lv_iload_n hx hb dX12_likeliestBut_5 rfl (lv_at hl 3 rfl) ?_
      refine lv_aload_n hx hb dX12_likeliestBut_6 rfl (lv_at hl 0 rfl) ?_
      refine fx_get C hH (k := 5) (v := .ref rl) h_mo ff_X12_19_11 rfl dX12_likeliestBut_7 ?_
      refine lv_iconst (v := nI 0) hx hb dX12_likeliestBut_10 (by decide) ?_
      refine fx_ialdN C hH h_rl (by omega) (by omega) dX12_likeliestBut_11 ?_
      refine fx_ti (y := nI P) hP ?_
      refine fx_N_ge (a := i) (b := P) hx hb (by omega) (by omega) (tgt := 54) dX12_likeliestBut_12 (by decide) (fun c12 => ?_) (fun c12 => ?_)
      · refine lv_iload_n hx hb dX12_likeliestBut_54 rfl (lv_at hl 2 rfl) ?_
        exact fx_iret C hr hk hH (by rw [show i = P from by omega]) rfl rfl (Nat.zero_le _) (Nat.zero_le _) dX12_likeliestBut_55
      · refine lv_iload_n hx hb dX12_likeliestBut_15 rfl (lv_at hl 3 rfl) ?_
        refine lv_iload_n hx hb dX12_likeliestBut_16 rfl (lv_at hl 1 rfl) ?_
        refine lv_icmp_eq hx hb (tgt := 46) dX12_likeliestBut_17 (by decide) (fun c17 => ?_) (fun c17 => ?_)
        · refine lv_iload_n hx hb dX12_likeliestBut_46 rfl (lv_at hl 2 rfl) ?_
          refine lv_istore_n (lv' := [(2, .int (oB (lo q xx i))), (0, .ref mo), (1, .int xx), (3, .int (nI i))]) hx hb dX12_likeliestBut_47 rfl hl (by decide) rfl (fun ls hl => ?_)
          refine lv_iinc (v := nI (i + 1)) (lv' := [(3, .int (nI (i + 1))), (2, .int (oB (lo q xx i))), (0, .ref mo), (1, .int xx)]) hx hb dX12_likeliestBut_48 hl (k := 3) rfl (nI_1 _) (by decide) rfl (fun ls hl => ?_)
          refine lv_goto (tgt := 5) hx hb dX12_likeliestBut_51 (by decide) ?_
          have hl : lv_has ls 4 [(0, .ref mo), (1, .int xx), (2, .int (oB (lo q xx i))), (3, .int (nI (i + 1)))] := lv_sub hl [2, 3, 1, 0] rfl
          have hl : lv_has ls 4 [(0, .ref mo), (1, .int xx), (2, .int (oB (lo q xx (i + 1)))), (3, .int (nI (i + 1)))] := by
            have e_ : lo q xx (i + 1) = lo q xx i := by rw [lo, if_pos c17]
            rw [e_]
            exact hl
          exact ih_5 (i + 1) (by omega) (by omega) _ _ hH _ hl
        · refine lv_iload_n hx hb dX12_likeliestBut_20 rfl (lv_at hl 2 rfl) ?_
          refine lv_ldc (v := (-1000000)) hx hb C.2.2.2.1 (C.2.2.2.2.1 _ kI_X12_97 rfl args) dX12_likeliestBut_21 ?_
          refine lv_icmp_eq hx hb (tgt := 42) dX12_likeliestBut_23 (by decide) (fun c23 => ?_) (fun c23 => ?_)
          · refine lv_iload_n hx hb dX12_likeliestBut_42 rfl (lv_at hl 3 rfl) ?_
            refine lv_goto (tgt := 47) hx hb dX12_likeliestBut_43 (by decide) ?_
            refine lv_istore_n (lv' := [(2, .int (nI i)), (0, .ref mo), (1, .int xx), (3, .int (nI i))]) hx hb dX12_likeliestBut_47 rfl hl (by decide) rfl (fun ls hl => ?_)
            refine lv_iinc (v := nI (i + 1)) (lv' := [(3, .int (nI (i + 1))), (2, .int (nI i)), (0, .ref mo), (1, .int xx)]) hx hb dX12_likeliestBut_48 hl (k := 3) rfl (nI_1 _) (by decide) rfl (fun ls hl => ?_)
            refine lv_goto (tgt := 5) hx hb dX12_likeliestBut_51 (by decide) ?_
            have hl : lv_has ls 4 [(0, .ref mo), (1, .int xx), (2, .int (nI i)), (3, .int (nI (i + 1)))] := lv_sub hl [2, 3, 1, 0] rfl
            have hl : lv_has ls 4 [(0, .ref mo), (1, .int xx), (2, .int (oB (lo q xx (i + 1)))), (3, .int (nI (i + 1)))] := by
              have e_ : lo q xx (i + 1) = some i := by rw [lo, if_neg c17, lo_none (by omega) c23]
              rw [e_]
              exact hl
            exact ih_5 (i + 1) (by omega) (by omega) _ _ hH _ hl
          · obtain ⟨b, hb9, hb8⟩ := lo_some c23
            refine lv_aload_n hx hb dX12_likeliestBut_26 rfl (lv_at hl 0 rfl) ?_
            refine fx_get C hH (k := 20) (v := .ref so) h_mo ff_X12_38_11 rfl dX12_likeliestBut_27 ?_
            refine lv_iload_n hx hb dX12_likeliestBut_30 rfl (lv_at hl 3 rfl) ?_
            refine fx_laldN C hH h_so (by omega) (by omega) dX12_likeliestBut_31 ?_
            refine lv_aload_n hx hb dX12_likeliestBut_32 rfl (lv_at hl 0 rfl) ?_
            refine fx_get C hH (k := 20) (v := .ref so) h_mo ff_X12_38_11 rfl dX12_likeliestBut_33 ?_
            refine lv_iload_n hx hb dX12_likeliestBut_36 rfl (lv_at hl 2 rfl) ?_
            refine fx_ti (y := nI b) (by rw [hb9]; rfl) ?_
            refine fx_laldN C hH h_so (by omega) (by omega) dX12_likeliestBut_37 ?_
            refine W.lcmp hx hb dX12_likeliestBut_38 ?_
            refine fx_J_le hx hb (tgt := 46) dX12_likeliestBut_39 (by decide) (fun c39 => ?_) (fun c39 => ?_)
            · refine lv_iload_n hx hb dX12_likeliestBut_46 rfl (lv_at hl 2 rfl) ?_
              refine lv_istore_n (lv' := [(2, .int (oB (lo q xx i))), (0, .ref mo), (1, .int xx), (3, .int (nI i))]) hx hb dX12_likeliestBut_47 rfl hl (by decide) rfl (fun ls hl => ?_)
              refine lv_iinc (v := nI (i + 1)) (lv' := [(3, .int (nI (i + 1))), (2, .int (oB (lo q xx i))), (0, .ref mo), (1, .int xx)]) hx hb dX12_likeliestBut_48 hl (k := 3) rfl (nI_1 _) (by decide) rfl (fun ls hl => ?_)
              refine lv_goto (tgt := 5) hx hb dX12_likeliestBut_51 (by decide) ?_
              have hl : lv_has ls 4 [(0, .ref mo), (1, .int xx), (2, .int (oB (lo q xx i))), (3, .int (nI (i + 1)))] := lv_sub hl [2, 3, 1, 0] rfl
              have hl : lv_has ls 4 [(0, .ref mo), (1, .int xx), (2, .int (oB (lo q xx (i + 1)))), (3, .int (nI (i + 1)))] := by
                have e_ : lo q xx (i + 1) = lo q xx i := by rw [lo, if_neg c17, hb9]; exact if_pos c39
                rw [e_]
                exact hl
              exact ih_5 (i + 1) (by omega) (by omega) _ _ hH _ hl
            · refine lv_iload_n hx hb dX12_likeliestBut_42 rfl (lv_at hl 3 rfl) ?_
              refine lv_goto (tgt := 47) hx hb dX12_likeliestBut_43 (by decide) ?_
              refine lv_istore_n (lv' := [(2, .int (nI i)), (0, .ref mo), (1, .int xx), (3, .int (nI i))]) hx hb dX12_likeliestBut_47 rfl hl (by decide) rfl (fun ls hl => ?_)
              refine lv_iinc (v := nI (i + 1)) (lv' := [(3, .int (nI (i + 1))), (2, .int (nI i)), (0, .ref mo), (1, .int xx)]) hx hb dX12_likeliestBut_48 hl (k := 3) rfl (nI_1 _) (by decide) rfl (fun ls hl => ?_)
              refine lv_goto (tgt := 5) hx hb dX12_likeliestBut_51 (by decide) ?_
              have hl : lv_has ls 4 [(0, .ref mo), (1, .int xx), (2, .int (nI i)), (3, .int (nI (i + 1)))] := lv_sub hl [2, 3, 1, 0] rfl
              have hl : lv_has ls 4 [(0, .ref mo), (1, .int xx), (2, .int (oB (lo q xx (i + 1)))), (3, .int (nI (i + 1)))] := by
                have e_ : lo q xx (i + 1) = some i := by rw [lo, if_neg c17, hb9]; exact if_neg c39
                rw [e_]
                exact hl
              exact ih_5 (i + 1) (by omega) (by omega) _ _ hH _ hl
  have hl : lv_has ls 4 [(0, .ref mo), (1, .int xx), (2, .int (-1000000)), (3, .int (nI 0))] := lv_sub hl [2, 3, 1, 0] rfl
  have hl : lv_has ls 4 [(0, .ref mo), (1, .int xx), (2, .int (oB (lo q xx 0))), (3, .int (nI 0))] := hl
  exact loop_5 _ 0 (by omega) (Nat.lt_succ_self _) _ _ hH _ hl
