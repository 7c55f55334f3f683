abbrev rm_J9_max_7cf53 : Room := { frames := 0, cells := 0, slots := 0, locals := 0 }
set_option maxHeartbeats 4000000 in
set_option maxRecDepth 100000 in
theorem c_J9_max_7cf53 {G : GG} {base : Nat} {l : Launch} {f : Hp} {sz : Nat} {a : Int32} {b : Int32}  : fx_M G base l yJ9_max_7cf53 cJ9_max_7cf53 2 (some .int) rm_J9_max_7cf53 [.int a, .int b] f sz (some (.int (if a < b then b else a))) f sz := by
  refine fx_ofJ pf_max (Nat.le_of_ble_eq_true rfl) ?_
  intro p e s m args below meth c C hr hk hnm hH ls hl
  obtain ⟨locs, hlocs⟩ : ∃ L : List Loc, L = [] := ⟨_, rfl⟩
  rw [← hlocs] at hH ⊢
  generalize s.heap = H at hH ⊢
  have hx := C.1
  have hb := C.2.1
  have hl : lv_has ls 2 [(0, .int a), (1, .int b)] := hl
  refine lv_iload_n hx hb dJ9_max_7cf53_0 rfl (lv_at hl 0 rfl) ?_
  refine lv_iload_n hx hb dJ9_max_7cf53_1 rfl (lv_at hl 1 rfl) ?_
  refine lv_icmp_lt hx hb (tgt := 9) dJ9_max_7cf53_2 (by decide) (fun c2 => ?_) (fun c2 => ?_)
  · refine lv_iload_n hx hb dJ9_max_7cf53_9 rfl (lv_at hl 1 rfl) ?_
    exact fx_iret C hr hk hH (by first | rfl | (simp [bI, *]; done) | ((repeat (first | rw [if_pos (by assumption)] | rw [if_neg (by assumption)])); done) | (unfold bI; grind)) rfl rfl (Nat.zero_le _) (Nat.zero_le _) dJ9_max_7cf53_10
  · refine lv_iload_n hx hb dJ9_max_7cf53_5 rfl (lv_at hl 0 rfl) ?_
    refine lv_goto (tgt := 10) hx hb dJ9_max_7cf53_6 (by decide) ?_
    exact fx_iret C hr hk hH (by first | rfl | (simp [bI, *]; done) | ((repeat (first | rw [if_pos (by assumption)] | rw [if_neg (by assumption)])); done) | (unfold bI; grind)) rfl rfl (Nat.zero_le _) (Nat.zero_le _) dJ9_max_7cf53_10
abbrev rm_J9_min_7cf53 : Room := { frames := 0, cells := 0, slots := 0, locals := 0 }
set_option maxHeartbeats 4000000 in
set_option maxRecDepth 100000 in
theorem c_J9_min_7cf53 {G : GG} {base : Nat} {l : Launch} {f : Hp} {sz : Nat} {a : Int32} {b : Int32}  : fx_M G base l yJ9_min_7cf53 cJ9_min_7cf53 2 (some .int) rm_J9_min_7cf53 [.int a, .int b] f sz (some (.int (if b < a then b else a))) f sz := by
  refine fx_ofJ pf_min (Nat.le_of_ble_eq_true rfl) ?_
  intro p e s m args below meth c C hr hk hnm hH ls hl
  obtain ⟨locs, hlocs⟩ : ∃ L : List Loc, L = [] := ⟨_, rfl⟩
  rw [← hlocs] at hH ⊢
  generalize s.heap = H at hH ⊢
  have hx := C.1
  have hb := C.2.1
  have hl : lv_has ls 2 [(0, .int a), (1, .int b)] := hl
  refine lv_iload_n hx hb dJ9_min_7cf53_0 rfl (lv_at hl 0 rfl) ?_
  refine lv_iload_n hx hb dJ9_min_7cf53_1 rfl (lv_at hl 1 rfl) ?_
  refine lv_icmp_gt hx hb (tgt := 9) dJ9_min_7cf53_2 (by decide) (fun c2 => ?_) (fun c2 => ?_)
  · refine lv_iload_n hx hb dJ9_min_7cf53_9 rfl (lv_at hl 1 rfl) ?_
    exact fx_iret C hr hk hH (by first | rfl | (simp [bI, *]; done) | ((repeat (first | rw [if_pos (by assumption)] | rw [if_neg (by assumption)])); done) | (unfold bI; grind)) rfl rfl (Nat.zero_le _) (Nat.zero_le _) dJ9_min_7cf53_10
  · refine lv_iload_n hx hb dJ9_min_7cf53_5 rfl (lv_at hl 0 rfl) ?_
    refine lv_goto (tgt := 10) hx hb dJ9_min_7cf53_6 (by decide) ?_
    exact fx_iret C hr hk hH (by first | rfl | (simp [bI, *]; done) | ((repeat (first | rw [if_pos (by assumption)] | rw [if_neg (by assumption)])); done) | (unfold bI; grind)) rfl rfl (Nat.zero_le _) (Nat.zero_le _) dJ9_min_7cf53_10
abbrev rm_J9_abs_0f7a4 : Room := { frames := 0, cells := 0, slots := 0, locals := 0 }
set_option maxHeartbeats 4000000 in
set_option maxRecDepth 100000 in
theorem c_J9_abs_0f7a4 {G : GG} {base : Nat} {l : Launch} {f : Hp} {sz : Nat} {a : Int32}  : fx_M G base l yJ9_abs_0f7a4 cJ9_abs_0f7a4 1 (some .int) rm_J9_abs_0f7a4 [.int a] f sz (some (.int (if 0 ≤ a then a else -a))) f sz := by
  refine fx_ofJ pf_abs (Nat.le_of_ble_eq_true rfl) ?_
  intro p e s m args below meth c C hr hk hnm hH ls hl
  obtain ⟨locs, hlocs⟩ : ∃ L : List Loc, L = [] := ⟨_, rfl⟩
  rw [← hlocs] at hH ⊢
  generalize s.heap = H at hH ⊢
  have hx := C.1
  have hb := C.2.1
  have hl : lv_has ls 1 [(0, .int a)] := hl
  refine lv_iload_n hx hb dJ9_abs_0f7a4_0 rfl (lv_at hl 0 rfl) ?_
  refine lv_if_ge hx hb (tgt := 9) dJ9_abs_0f7a4_1 (by decide) (fun c1 => ?_) (fun c1 => ?_)
  · refine lv_iload_n hx hb dJ9_abs_0f7a4_9 rfl (lv_at hl 0 rfl) ?_
    exact fx_iret C hr hk hH (by first | rfl | (simp [bI, *]; done) | ((repeat (first | rw [if_pos (by assumption)] | rw [if_neg (by assumption)])); done) | (unfold bI; grind)) rfl rfl (Nat.zero_le _) (Nat.zero_le _) dJ9_abs_0f7a4_10
  · refine lv_iload_n hx hb dJ9_abs_0f7a4_4 rfl (lv_at hl 0 rfl) ?_
    refine lv_ineg hx hb dJ9_abs_0f7a4_5 ?_
    refine lv_goto (tgt := 10) hx hb dJ9_abs_0f7a4_6 (by decide) ?_
    exact fx_iret C hr hk hH (by first | rfl | (simp [bI, *]; done) | ((repeat (first | rw [if_pos (by assumption)] | rw [if_neg (by assumption)])); done) | (unfold bI; grind)) rfl rfl (Nat.zero_le _) (Nat.zero_le _) dJ9_abs_0f7a4_10
abbrev rm_J9_floorMod_7cf53 : Room := { frames := 0, cells := 0, slots := 0, locals := 0 }
set_option maxHeartbeats 4000000 in
set_option maxRecDepth 100000 in
theorem c_J9_floorMod_7cf53 {G : GG} {base : Nat} {l : Launch} {f : Hp} {sz : Nat} {x : Int32} {y : Int32} (hy : ¬ y = 0) : fx_M G base l yJ9_floorMod_7cf53 cJ9_floorMod_7cf53 3 (some .int) rm_J9_floorMod_7cf53 [.int x, .int y] f sz (some (.int (fmI x y))) f sz := by
  refine fx_ofJ pf_fm (Nat.le_of_ble_eq_true rfl) ?_
  intro p e s m args below meth c C hr hk hnm hH ls hl
  obtain ⟨locs, hlocs⟩ : ∃ L : List Loc, L = [] := ⟨_, rfl⟩
  rw [← hlocs] at hH ⊢
  generalize s.heap = H at hH ⊢
  have hx := C.1
  have hb := C.2.1
  have hl : lv_has ls 3 [(0, .int x), (1, .int y)] := hl
  refine lv_iload_n hx hb dJ9_floorMod_7cf53_0 rfl (lv_at hl 0 rfl) ?_
  refine lv_iload_n hx hb dJ9_floorMod_7cf53_1 rfl (lv_at hl 1 rfl) ?_
  refine lv_irem hx hb dJ9_floorMod_7cf53_2 hy ?_
  refine lv_istore_n (lv' := [(2, .int (x - x / y * y)), (0, .int x), (1, .int y)]) hx hb dJ9_floorMod_7cf53_3 rfl hl (by decide) rfl (fun ls hl => ?_)
  refine lv_iload_n hx hb dJ9_floorMod_7cf53_4 rfl (lv_at hl 1 rfl) ?_
  refine lv_iload_n hx hb dJ9_floorMod_7cf53_5 rfl (lv_at hl 2 rfl) ?_
  refine lv_ixor hx hb dJ9_floorMod_7cf53_6 ?_
  refine lv_if_ge hx hb (tgt := 18) dJ9_floorMod_7cf53_7 (by decide) (fun c7 => ?_) (fun c7 => ?_)
  · refine lv_iload_n hx hb dJ9_floorMod_7cf53_18 rfl (lv_at hl 0 rfl) ?_
    exact fx_iret C hr hk hH (by rw [fmI, if_neg (fun q => Int32.not_le.mpr q.1 c7)]) rfl rfl (Nat.zero_le _) (Nat.zero_le _) dJ9_floorMod_7cf53_19
  · refine lv_iload_n hx hb dJ9_floorMod_7cf53_10 rfl (lv_at hl 0 rfl) ?_
    refine lv_if_eq hx hb (tgt := 18) dJ9_floorMod_7cf53_11 (by decide) (fun c11 => ?_) (fun c11 => ?_)
    · refine lv_iload_n hx hb dJ9_floorMod_7cf53_18 rfl (lv_at hl 0 rfl) ?_
      exact fx_iret C hr hk hH (by rw [fmI, if_neg (fun q => q.2 c11)]) rfl rfl (Nat.zero_le _) (Nat.zero_le _) dJ9_floorMod_7cf53_19
    · refine lv_iload_n hx hb dJ9_floorMod_7cf53_14 rfl (lv_at hl 0 rfl) ?_
      refine lv_iload_n hx hb dJ9_floorMod_7cf53_15 rfl (lv_at hl 2 rfl) ?_
      refine lv_iadd hx hb dJ9_floorMod_7cf53_16 ?_
      exact fx_iret C hr hk hH (by rw [fmI, if_pos ⟨Int32.not_le.mp c7, c11⟩]) rfl rfl (Nat.zero_le _) (Nat.zero_le _) dJ9_floorMod_7cf53_17
abbrev rm_X11_within : Room := { frames := 0, cells := 0, slots := 0, locals := 0 }
set_option maxHeartbeats 4000000 in
set_option maxRecDepth 100000 in
theorem c_X11_within {G : GG} {base : Nat} {l : Launch} {f : Hp} {sz : Nat} {n : Int32} {lo : Int32} {hi : Int32}  : fx_M G base l yX11_within cX11_within 3 (some .boolean) rm_X11_within [.int n, .int lo, .int hi] f sz (some (.int (bI (¬ n < lo ∧ ¬ hi < n)))) f sz := by
  refine fx_of (by decide +kernel) (Nat.le_of_ble_eq_true rfl) ?_
  intro p e s m args below meth c C hr hk hnm hH ls hl
  obtain ⟨locs, hlocs⟩ : ∃ L : List Loc, L = [] := ⟨_, rfl⟩
  rw [← hlocs] at hH ⊢
  generalize s.heap = H at hH ⊢
  have hx := C.1
  have hb := C.2.1
  have hl : lv_has ls 3 [(0, .int n), (1, .int lo), (2, .int hi)] := hl
  refine lv_iload_n hx hb dX11_within_0 rfl (lv_at hl 0 rfl) ?_
  refine lv_iload_n hx hb dX11_within_1 rfl (lv_at hl 1 rfl) ?_
  refine lv_icmp_lt hx hb (tgt := 14) dX11_within_2 (by decide) (fun c2 => ?_) (fun c2 => ?_)
  · refine lv_iconst (v := nI 0) hx hb dX11_within_14 (by decide) ?_
    exact fx_zret C hr hk hH (by decide) (by first | rfl | (simp [bI, *]; done) | ((repeat (first | rw [if_pos (by assumption)] | rw [if_neg (by assumption)])); done) | (unfold bI; grind)) rfl rfl (Nat.zero_le _) (Nat.zero_le _) dX11_within_15
  · refine lv_iload_n hx hb dX11_within_5 rfl (lv_at hl 0 rfl) ?_
    refine lv_iload_n hx hb dX11_within_6 rfl (lv_at hl 2 rfl) ?_
    refine lv_icmp_gt hx hb (tgt := 14) dX11_within_7 (by decide) (fun c7 => ?_) (fun c7 => ?_)
    · refine lv_iconst (v := nI 0) hx hb dX11_within_14 (by decide) ?_
      exact fx_zret C hr hk hH (by decide) (by first | rfl | (simp [bI, *]; done) | ((repeat (first | rw [if_pos (by assumption)] | rw [if_neg (by assumption)])); done) | (unfold bI; grind)) rfl rfl (Nat.zero_le _) (Nat.zero_le _) dX11_within_15
    · refine lv_iconst (v := nI 1) hx hb dX11_within_10 (by decide) ?_
      refine lv_goto (tgt := 15) hx hb dX11_within_11 (by decide) ?_
      exact fx_zret C hr hk hH (by decide) (by first | rfl | (simp [bI, *]; done) | ((repeat (first | rw [if_pos (by assumption)] | rw [if_neg (by assumption)])); done) | (unfold bI; grind)) rfl rfl (Nat.zero_le _) (Nat.zero_le _) dX11_within_15
abbrev rm_X11_isWay : Room := { frames := 0, cells := 0, slots := 0, locals := 0 }
set_option maxHeartbeats 4000000 in
set_option maxRecDepth 100000 in
theorem c_X11_isWay {G : GG} {base : Nat} {l : Launch} {f : Hp} {sz : Nat} {w : Int32}  : fx_M G base l yX11_isWay cX11_isWay 1 (some .boolean) rm_X11_isWay [.int w] f sz (some (.int (bI (w = nI 1 ∨ w = -1)))) f sz := by
  refine fx_of (by decide +kernel) (Nat.le_of_ble_eq_true rfl) ?_
  intro p e s m args below meth c C hr hk hnm hH ls hl
  obtain ⟨locs, hlocs⟩ : ∃ L : List Loc, L = [] := ⟨_, rfl⟩
  rw [← hlocs] at hH ⊢
  generalize s.heap = H at hH ⊢
  have hx := C.1
  have hb := C.2.1
  have hl : lv_has ls 1 [(0, .int w)] := hl
  refine lv_iload_n hx hb dX11_isWay_0 rfl (lv_at hl 0 rfl) ?_
  refine lv_iconst (v := nI 1) hx hb dX11_isWay_1 (by decide) ?_
  refine lv_icmp_eq hx hb (tgt := 10) dX11_isWay_2 (by decide) (fun c2 => ?_) (fun c2 => ?_)
  · refine lv_iconst (v := nI 1) hx hb dX11_isWay_10 (by decide) ?_
    refine lv_goto (tgt := 15) hx hb dX11_isWay_11 (by decide) ?_
    exact fx_zret C hr hk hH (by decide) (by first | rfl | (simp [bI, *]; done) | ((repeat (first | rw [if_pos (by assumption)] | rw [if_neg (by assumption)])); done) | (unfold bI; grind)) rfl rfl (Nat.zero_le _) (Nat.zero_le _) dX11_isWay_15
  · refine lv_iload_n hx hb dX11_isWay_5 rfl (lv_at hl 0 rfl) ?_
    refine lv_iconst (v := (-1)) hx hb dX11_isWay_6 (by decide) ?_
    refine lv_icmp_ne hx hb (tgt := 14) dX11_isWay_7 (by decide) (fun c7 => ?_) (fun c7 => ?_)
    · refine lv_iconst (v := nI 0) hx hb dX11_isWay_14 (by decide) ?_
      exact fx_zret C hr hk hH (by decide) (by first | rfl | (simp [bI, *]; done) | ((repeat (first | rw [if_pos (by assumption)] | rw [if_neg (by assumption)])); done) | (unfold bI; grind)) rfl rfl (Nat.zero_le _) (Nat.zero_le _) dX11_isWay_15
    · refine lv_iconst (v := nI 1) hx hb dX11_isWay_10 (by decide) ?_
      refine lv_goto (tgt := 15) hx hb dX11_isWay_11 (by decide) ?_
      exact fx_zret C hr hk hH (by decide) (by first | rfl | (simp [bI, *]; done) | ((repeat (first | rw [if_pos (by assumption)] | rw [if_neg (by assumption)])); done) | (unfold bI; grind)) rfl rfl (Nat.zero_le _) (Nat.zero_le _) dX11_isWay_15
abbrev rm_X11_isSplinter : Room := { frames := 1, cells := 0, slots := 0, locals := 22 }
set_option maxHeartbeats 4000000 in
set_option maxRecDepth 100000 in
theorem c_X11_isSplinter {G : GG} {base : Nat} {l : Launch} {f : Hp} {sz : Nat} {w : Int32} {sl : Int32} {sd : Int32}  : fx_M G base l yX11_isSplinter cX11_isSplinter 3 (some .boolean) rm_X11_isSplinter [.int w, .int sl, .int sd] f sz (some (.int (bI ((¬ w < nI 1 ∧ ¬ nI 19 < w) ∧ (¬ sl < nI 1 ∧ ¬ nI 9 < sl) ∧ (¬ sd < nI 0 ∧ ¬ nI 1 < sd))))) f sz := by
  refine fx_of (by decide +kernel) (Nat.le_of_ble_eq_true rfl) ?_
  intro p e s m args below meth c C hr hk hnm hH ls hl
  obtain ⟨locs, hlocs⟩ : ∃ L : List Loc, L = [] := ⟨_, rfl⟩
  rw [← hlocs] at hH ⊢
  generalize s.heap = H at hH ⊢
  have hx := C.1
  have hb := C.2.1
  have hl : lv_has ls 3 [(0, .int w), (1, .int sl), (2, .int sd)] := hl
  refine lv_iload_n hx hb dX11_isSplinter_0 rfl (lv_at hl 0 rfl) ?_
  refine lv_iconst (v := nI 1) hx hb dX11_isSplinter_1 (by decide) ?_
  refine lv_bipush (v := nI 19) hx hb dX11_isSplinter_2 (by decide) ?_
  refine fx_go1 hH (fx_runS C hH hl.1 (As := [.int w, .int (nI 1), .int (nI 19)]) (rest := []) (c_X11_within (G := G) (base := base) (l := l) (f := f) (sz := sz) (n := w) (lo := nI 1) (hi := nI 19) ) mY_X11_within ml_X11_56 st_X11_within rfl ⟨(Nat.le_of_ble_eq_true rfl), (Nat.le_of_ble_eq_true rfl)⟩ rfl (Nat.le_of_ble_eq_true rfl) ⟨(Nat.le_of_ble_eq_true rfl), (Nat.le_of_ble_eq_true rfl)⟩ dX11_isSplinter_4) (fun H locs hH => ?_)
  refine fx_b_eq hx hb (tgt := 33) dX11_isSplinter_7 (by decide) (fun c7 => ?_) (fun c7 => ?_)
  · refine lv_iconst (v := nI 0) hx hb dX11_isSplinter_33 (by decide) ?_
    exact fx_zret C hr hk hH (by decide) (by first | rfl | (simp [bI, *]; done) | ((repeat (first | rw [if_pos (by assumption)] | rw [if_neg (by assumption)])); done) | (unfold bI; grind)) rfl rfl (Nat.zero_le _) (Nat.zero_le _) dX11_isSplinter_34
  · refine lv_iload_n hx hb dX11_isSplinter_10 rfl (lv_at hl 1 rfl) ?_
    refine lv_iconst (v := nI 1) hx hb dX11_isSplinter_11 (by decide) ?_
    refine lv_bipush (v := nI 9) hx hb dX11_isSplinter_12 (by decide) ?_
    refine fx_go1 hH (fx_runS C hH hl.1 (As := [.int sl, .int (nI 1), .int (nI 9)]) (rest := []) (c_X11_within (G := G) (base := base) (l := l) (f := f) (sz := sz) (n := sl) (lo := nI 1) (hi := nI 9) ) mY_X11_within ml_X11_56 st_X11_within rfl ⟨(Nat.le_of_ble_eq_true rfl), (Nat.le_of_ble_eq_true rfl)⟩ rfl (Nat.le_of_ble_eq_true rfl) ⟨(Nat.le_of_ble_eq_true rfl), (Nat.le_of_ble_eq_true rfl)⟩ dX11_isSplinter_14) (fun H locs hH => ?_)
    refine fx_b_eq hx hb (tgt := 33) dX11_isSplinter_17 (by decide) (fun c17 => ?_) (fun c17 => ?_)
    · refine lv_iconst (v := nI 0) hx hb dX11_isSplinter_33 (by decide) ?_
      exact fx_zret C hr hk hH (by decide) (by first | rfl | (simp [bI, *]; done) | ((repeat (first | rw [if_pos (by assumption)] | rw [if_neg (by assumption)])); done) | (unfold bI; grind)) rfl rfl (Nat.zero_le _) (Nat.zero_le _) dX11_isSplinter_34
    · refine lv_iload_n hx hb dX11_isSplinter_20 rfl (lv_at hl 2 rfl) ?_
      refine lv_iconst (v := nI 0) hx hb dX11_isSplinter_21 (by decide) ?_
      refine lv_iconst (v := nI 1) hx hb dX11_isSplinter_22 (by decide) ?_
      refine fx_go1 hH (fx_runS C hH hl.1 (As := [.int sd, .int (nI 0), .int (nI 1)]) (rest := []) (c_X11_within (G := G) (base := base) (l := l) (f := f) (sz := sz) (n := sd) (lo := nI 0) (hi := nI 1) ) mY_X11_within ml_X11_56 st_X11_within rfl ⟨(Nat.le_of_ble_eq_true rfl), (Nat.le_of_ble_eq_true rfl)⟩ rfl (Nat.le_of_ble_eq_true rfl) ⟨(Nat.le_of_ble_eq_true rfl), (Nat.le_of_ble_eq_true rfl)⟩ dX11_isSplinter_23) (fun H locs hH => ?_)
      refine fx_b_eq hx hb (tgt := 33) dX11_isSplinter_26 (by decide) (fun c26 => ?_) (fun c26 => ?_)
      · refine lv_iconst (v := nI 0) hx hb dX11_isSplinter_33 (by decide) ?_
        exact fx_zret C hr hk hH (by decide) (by first | rfl | (simp [bI, *]; done) | ((repeat (first | rw [if_pos (by assumption)] | rw [if_neg (by assumption)])); done) | (unfold bI; grind)) rfl rfl (Nat.zero_le _) (Nat.zero_le _) dX11_isSplinter_34
      · refine lv_iconst (v := nI 1) hx hb dX11_isSplinter_29 (by decide) ?_
        refine lv_goto (tgt := 34) hx hb dX11_isSplinter_30 (by decide) ?_
        exact fx_zret C hr hk hH (by decide) (by first | rfl | (simp [bI, *]; done) | ((repeat (first | rw [if_pos (by assumption)] | rw [if_neg (by assumption)])); done) | (unfold bI; grind)) rfl rfl (Nat.zero_le _) (Nat.zero_le _) dX11_isSplinter_34
abbrev rm_X11_widthBehind : Room := { frames := 1, cells := 0, slots := 0, locals := 21 }
set_option maxHeartbeats 4000000 in
set_option maxRecDepth 100000 in
theorem c_X11_widthBehind {G : GG} {base : Nat} {l : Launch} {f : Hp} {sz : Nat} {w : Int32} {sl : Int32} {sd : Int32} {n : Int32}  : fx_M G base l yX11_widthBehind cX11_widthBehind 4 (some .int) rm_X11_widthBehind [.int w, .int sl, .int sd, .int n] f sz (some (.int (if sd = 0 then (if nI 0 < (w - sl * n) then (w - sl * n) else nI 0) else (if (w + sl * n) < nI 20 then (w + sl * n) else nI 20)))) f sz := by
  refine fx_of (by decide +kernel) (Nat.le_of_ble_eq_true rfl) ?_
  intro p e s m args below meth c C hr hk hnm hH ls hl
  obtain ⟨locs, hlocs⟩ : ∃ L : List Loc, L = [] := ⟨_, rfl⟩
  rw [← hlocs] at hH ⊢
  generalize s.heap = H at hH ⊢
  have hx := C.1
  have hb := C.2.1
  have hl : lv_has ls 4 [(0, .int w), (1, .int sl), (2, .int sd), (3, .int n)] := hl
  refine lv_iload_n hx hb dX11_widthBehind_0 rfl (lv_at hl 2 rfl) ?_
  refine lv_if_ne hx hb (tgt := 16) dX11_widthBehind_1 (by decide) (fun c1 => ?_) (fun c1 => ?_)
  · refine lv_bipush (v := nI 20) hx hb dX11_widthBehind_16 (by decide) ?_
    refine lv_iload_n hx hb dX11_widthBehind_18 rfl (lv_at hl 0 rfl) ?_
    refine lv_iload_n hx hb dX11_widthBehind_19 rfl (lv_at hl 1 rfl) ?_
    refine lv_iload_n hx hb dX11_widthBehind_20 rfl (lv_at hl 3 rfl) ?_
    refine lv_imul hx hb dX11_widthBehind_21 ?_
    refine lv_iadd hx hb dX11_widthBehind_22 ?_
    refine fx_go1 hH (fx_runS C hH hl.1 (As := [.int (nI 20), .int (w + (sl * n))]) (rest := []) (c_J9_min_7cf53 (G := G) (base := base) (l := l) (f := f) (sz := sz) (a := nI 20) (b := w + (sl * n)) ) mY_J9_min_7cf53 ml_X11_328 st_J9_min_7cf53 rfl ⟨(Nat.le_of_ble_eq_true rfl), (Nat.le_of_ble_eq_true rfl)⟩ rfl (Nat.le_of_ble_eq_true rfl) ⟨(Nat.le_of_ble_eq_true rfl), (Nat.le_of_ble_eq_true rfl)⟩ dX11_widthBehind_23) (fun H locs hH => ?_)
    exact fx_iret C hr hk hH (by first | rfl | (simp [bI, *]; done) | ((repeat (first | rw [if_pos (by assumption)] | rw [if_neg (by assumption)])); done) | (unfold bI; grind)) rfl rfl (Nat.zero_le _) (Nat.zero_le _) dX11_widthBehind_26
  · refine lv_iconst (v := nI 0) hx hb dX11_widthBehind_4 (by decide) ?_
    refine lv_iload_n hx hb dX11_widthBehind_5 rfl (lv_at hl 0 rfl) ?_
    refine lv_iload_n hx hb dX11_widthBehind_6 rfl (lv_at hl 1 rfl) ?_
    refine lv_iload_n hx hb dX11_widthBehind_7 rfl (lv_at hl 3 rfl) ?_
    refine lv_imul hx hb dX11_widthBehind_8 ?_
    refine lv_isub hx hb dX11_widthBehind_9 ?_
    refine fx_go1 hH (fx_runS C hH hl.1 (As := [.int (nI 0), .int (w - (sl * n))]) (rest := []) (c_J9_max_7cf53 (G := G) (base := base) (l := l) (f := f) (sz := sz) (a := nI 0) (b := w - (sl * n)) ) mY_J9_max_7cf53 ml_X11_323 st_J9_max_7cf53 rfl ⟨(Nat.le_of_ble_eq_true rfl), (Nat.le_of_ble_eq_true rfl)⟩ rfl (Nat.le_of_ble_eq_true rfl) ⟨(Nat.le_of_ble_eq_true rfl), (Nat.le_of_ble_eq_true rfl)⟩ dX11_widthBehind_10) (fun H locs hH => ?_)
    refine lv_goto (tgt := 26) hx hb dX11_widthBehind_13 (by decide) ?_
    exact fx_iret C hr hk hH (by first | rfl | (simp [bI, *]; done) | ((repeat (first | rw [if_pos (by assumption)] | rw [if_neg (by assumption)])); done) | (unfold bI; grind)) rfl rfl (Nat.zero_le _) (Nat.zero_le _) dX11_widthBehind_26
abbrev rm_X11_nextDraw : Room := { frames := 0, cells := 0, slots := 0, locals := 0 }
set_option maxHeartbeats 4000000 in
set_option maxRecDepth 100000 in
theorem c_X11_nextDraw {G : GG} {base : Nat} {l : Launch} {f : Hp} {sz : Nat} {x : Int64}  : fx_M G base l yX11_nextDraw cX11_nextDraw 2 (some .long) rm_X11_nextDraw [.long x] f sz (some (.long (x * lN 16807 - x * lN 16807 / lN 2147483647 * lN 2147483647))) f sz := by
  refine fx_of (by decide +kernel) (Nat.le_of_ble_eq_true rfl) ?_
  intro p e s m args below meth c C hr hk hnm hH ls hl
  obtain ⟨locs, hlocs⟩ : ∃ L : List Loc, L = [] := ⟨_, rfl⟩
  rw [← hlocs] at hH ⊢
  generalize s.heap = H at hH ⊢
  have hx := C.1
  have hb := C.2.1
  have hl : lv_has ls 2 [(0, .long x)] := hl
  refine lv_lload_n hx hb dX11_nextDraw_0 rfl (lv_at hl 0 rfl) ?_
  refine lv_ldc2 (v := (16807)) hx hb C.2.2.2.1 (C.2.2.2.2.1 _ kL_X11_331 rfl args) dX11_nextDraw_1 ?_
  refine fx_tl (y := lN 16807) (by decide) ?_
  refine lv_lmul hx hb dX11_nextDraw_4 ?_
  refine lv_ldc2 (v := (2147483647)) hx hb C.2.2.2.1 (C.2.2.2.2.1 _ kL_X11_333 rfl args) dX11_nextDraw_5 ?_
  refine fx_tl (y := lN 2147483647) (by decide) ?_
  refine lv_lrem hx hb dX11_nextDraw_8 (by decide) ?_
  exact fx_lret C hr hk hH (by first | rfl | (simp [bI, *]; done) | ((repeat (first | rw [if_pos (by assumption)] | rw [if_neg (by assumption)])); done) | (unfold bI; grind)) rfl rfl (Nat.zero_le _) (Nat.zero_le _) dX11_nextDraw_9
abbrev rm_X11_tens : Room := { frames := 0, cells := 0, slots := 0, locals := 0 }
set_option maxHeartbeats 4000000 in
set_option maxRecDepth 100000 in
theorem c_X11_tens {G : GG} {base : Nat} {l : Launch} {f : Hp} {sz : Nat} {n : Nat} (hn : n < 2 ^ 31) : fx_M G base l yX11_tens cX11_tens 4 (some .long) rm_X11_tens [.int (nI n)] f sz (some (.long (lN (10 ^ n)))) f sz := by
  refine fx_of (by decide +kernel) (Nat.le_of_ble_eq_true rfl) ?_
  intro p e s m args below meth c C hr hk hnm hH ls hl
  obtain ⟨locs, hlocs⟩ : ∃ L : List Loc, L = [] := ⟨_, rfl⟩
  rw [← hlocs] at hH ⊢
  generalize s.heap = H at hH ⊢
  have hx := C.1
  have hb := C.2.1
  have hl : lv_has ls 4 [(0, .int (nI n))] := hl
  refine lv_lconst (v := lN 1) hx hb dX11_tens_0 (by decide) ?_
  refine lv_lstore_n (lv' := [(1, .long (lN 1)), (0, .int (nI n))]) hx hb dX11_tens_1 rfl hl (by decide) rfl (fun ls hl => ?_)
  refine lv_iconst (v := nI 0) hx hb dX11_tens_2 (by decide) ?_
  refine lv_istore_n (lv' := [(3, .int (nI 0)), (1, .long (lN 1)), (0, .int (nI n))]) hx hb dX11_tens_3 rfl hl (by decide) rfl (fun ls hl => ?_)
  have loop_4 : ∀ (N_4 : Nat) (i : Nat) (hi : i ≤ n) (hm_4 : n - i < N_4) (H : Heap) (locs : List Loc) (hH : fx_H G base s f sz H locs) (ls : Array Slot) (hl : lv_has ls 4 [(0, .int (nI n)), (1, .long (lN (10 ^ i))), (3, .int (nI i))]), W p l e rm_X11_tens s m args below meth c H locs 0 0 (MQ below (fx_Q G base (some (.long (lN (10 ^ n)))) f sz) args s rm_X11_tens.cells rm_X11_tens.slots (fun q => base ≤ q)) (F0 m 4 ls []) := by
    intro N_4
    induction N_4 with
    | zero => intro i hi hm_4; exact absurd hm_4 (Nat.not_lt_zero _)
    | succ N_4 ih_4 =>
      intro i hi hm_4 H locs hH ls hl
      refine lv_iload_n hx hb dX11_tens_4 rfl (lv_at hl 2 rfl) ?_
      refine lv_iload_n hx hb dX11_tens_5 rfl (lv_at hl 0 rfl) ?_
      refine fx_N_ge (a := i) (b := n) hx hb (by omega) (by omega) (tgt := 21) dX11_tens_6 (by decide) (fun c6 => ?_) (fun c6 => ?_)
      · refine lv_lload_n hx hb dX11_tens_21 rfl (lv_at hl 1 rfl) ?_
        exact fx_lret C hr hk hH (by rw [show i = n from by omega]) rfl rfl (Nat.zero_le _) (Nat.zero_le _) dX11_tens_22
      · refine lv_lload_n hx hb dX11_tens_9 rfl (lv_at hl 1 rfl) ?_
        refine lv_ldc2 (v := (10)) hx hb C.2.2.2.1 (C.2.2.2.2.1 _ kL_X11_229 rfl args) dX11_tens_10 ?_
        refine fx_tl (y := lN 10) (by decide) ?_
        refine lv_lmul hx hb dX11_tens_13 ?_
        refine fx_tl (y := lN ((10 ^ i) * 10)) (lN_mul _ _) ?_
        refine lv_lstore_n (lv' := [(1, .long (lN ((10 ^ i) * 10))), (0, .int (nI n)), (3, .int (nI i))]) hx hb dX11_tens_14 rfl hl (by decide) rfl (fun ls hl => ?_)
        refine lv_iinc (v := nI (i + 1)) (lv' := [(3, .int (nI (i + 1))), (1, .long (lN ((10 ^ i) * 10))), (0, .int (nI n))]) hx hb dX11_tens_15 hl (k := 2) rfl (nI_1 _) (by decide) rfl (fun ls hl => ?_)
        refine lv_goto (tgt := 4) hx hb dX11_tens_18 (by decide) ?_
        have hl : lv_has ls 4 [(0, .int (nI n)), (1, .long (lN ((10 ^ i) * 10))), (3, .int (nI (i + 1)))] := lv_sub hl [2, 1, 0] rfl
        have hl : lv_has ls 4 [(0, .int (nI n)), (1, .long (lN (10 ^ (i + 1)))), (3, .int (nI (i + 1)))] := hl
        exact ih_4 (i + 1) (by omega) (by omega) _ _ hH _ hl
  have hl : lv_has ls 4 [(0, .int (nI n)), (1, .long (lN 1)), (3, .int (nI 0))] := lv_sub hl [2, 1, 0] rfl
  have hl : lv_has ls 4 [(0, .int (nI n)), (1, .long (lN (10 ^ 0))), (3, .int (nI 0))] := hl
  exact loop_4 _ 0 (by omega) (Nat.lt_succ_self _) _ _ hH _ hl
abbrev rm_X11_greatestDivisor : Room := { frames := 0, cells := 0, slots := 0, locals := 0 }
set_option maxHeartbeats 4000000 in
set_option maxRecDepth 100000 in
theorem c_X11_greatestDivisor {G : GG} {base : Nat} {l : Launch} {f : Hp} {sz : Nat} {a : Nat} {b : Nat} (ha : a < 2 ^ 63) (hb0 : b < 2 ^ 63) : fx_M G base l yX11_greatestDivisor cX11_greatestDivisor 7 (some .long) rm_X11_greatestDivisor [.long (lN a), .long (lN b)] f sz (some (.long (lN (gl 100 a b)))) f sz := by
  refine fx_of (by decide +kernel) (Nat.le_of_ble_eq_true rfl) ?_
  intro p e s m args below meth c C hr hk hnm hH ls hl
  obtain ⟨locs, hlocs⟩ : ∃ L : List Loc, L = [] := ⟨_, rfl⟩
  rw [← hlocs] at hH ⊢
  generalize s.heap = H at hH ⊢
  have hx := C.1
  have hb := C.2.1
  have hl : lv_has ls 7 [(0, .long (lN a)), (2, .long (lN b))] := hl
  refine lv_iconst (v := nI 0) hx hb dX11_greatestDivisor_0 (by decide) ?_
  refine lv_istore (lv' := [(4, .int (nI 0)), (0, .long (lN a)), (2, .long (lN b))]) hx hb dX11_greatestDivisor_1 hl (by decide) rfl (fun ls hl => ?_)
  have loop_3 : ∀ (N_3 : Nat) (k : Nat) (x : Nat) (y : Nat) (hk0 : k ≤ 100) (hx0 : x < 2 ^ 63) (hy0 : y < 2 ^ 63) (hg : gl (100 - k) x y = gl 100 a b) (hm_3 : 100 - k < N_3) (H : Heap) (locs : List Loc) (hH : fx_H G base s f sz H locs) (ls : Array Slot) (hl : lv_has ls 7 [(0, .long (lN x)), (2, .long (lN y)), (4, .int (nI k))]), W p l e rm_X11_greatestDivisor s m args below meth c H locs 0 0 (MQ below (fx_Q G base (some (.long (lN (gl 100 a b)))) f sz) args s rm_X11_greatestDivisor.cells rm_X11_greatestDivisor.slots (fun q => base ≤ q)) (F0 m 3 ls []) := by
    intro N_3
    induction N_3 with
    | zero => intro k x y hk0 hx0 hy0 hg hm_3; exact absurd hm_3 (Nat.not_lt_zero _)
    | succ N_3 ih_3 =>
      intro k x y hk0 hx0 hy0 hg hm_3 H locs hH ls hl
      refine lv_iload hx hb dX11_greatestDivisor_3 (lv_at hl 2 rfl) ?_
      refine lv_bipush (v := nI 100) hx hb dX11_greatestDivisor_5 (by decide) ?_
      refine fx_N_ge (a := k) (b := 100) hx hb (by omega) (by omega) (tgt := 32) dX11_greatestDivisor_7 (by decide) (fun c7 => ?_) (fun c7 => ?_)
      · refine lv_lload_n hx hb dX11_greatestDivisor_32 rfl (lv_at hl 0 rfl) ?_
        exact fx_lret C hr hk hH (by rw [show 100 - k = 0 from by omega, gl] at hg; rw [hg]) rfl rfl (Nat.zero_le _) (Nat.zero_le _) dX11_greatestDivisor_33
      · refine lv_lload_n hx hb dX11_greatestDivisor_10 rfl (lv_at hl 1 rfl) ?_
        refine lv_lconst (v := lN 0) hx hb dX11_greatestDivisor_11 (by decide) ?_
        refine W.lcmp hx hb dX11_greatestDivisor_12 ?_
        refine fx_JN_eq (a := y) (b := 0) hx hb (by omega) (by omega) (tgt := 32) dX11_greatestDivisor_13 (by decide) (fun c13 => ?_) (fun c13 => ?_)
        · refine lv_lload_n hx hb dX11_greatestDivisor_32 rfl (lv_at hl 0 rfl) ?_
          exact fx_lret C hr hk hH (by rw [show 100 - k = (100 - (k + 1)) + 1 from by omega, gl, if_pos c13] at hg; rw [hg]) rfl rfl (Nat.zero_le _) (Nat.zero_le _) dX11_greatestDivisor_33
        · refine lv_lload_n hx hb dX11_greatestDivisor_16 rfl (lv_at hl 0 rfl) ?_
          refine lv_lload_n hx hb dX11_greatestDivisor_17 rfl (lv_at hl 1 rfl) ?_
          refine lv_lrem hx hb dX11_greatestDivisor_18 (fun q => absurd ((pk_lEQ (b := 0) (by omega) (by omega)).mp q) (by omega)) ?_
          refine fx_tl (y := lN (x % y)) (pk_lRem (by omega) (by omega) (by omega)) ?_
          refine lv_lstore (lv' := [(5, .long (lN (x % y))), (0, .long (lN x)), (2, .long (lN y)), (4, .int (nI k))]) hx hb dX11_greatestDivisor_19 hl (by decide) rfl (fun ls hl => ?_)
          refine lv_lload_n hx hb dX11_greatestDivisor_21 rfl (lv_at hl 2 rfl) ?_
          refine lv_lstore_n (lv' := [(0, .long (lN y)), (5, .long (lN (x % y))), (2, .long (lN y)), (4, .int (nI k))]) hx hb dX11_greatestDivisor_22 rfl hl (by decide) rfl (fun ls hl => ?_)
          refine lv_lload hx hb dX11_greatestDivisor_23 (lv_at hl 1 rfl) ?_
          refine lv_lstore_n (lv' := [(2, .long (lN (x % y))), (0, .long (lN y)), (5, .long (lN (x % y))), (4, .int (nI k))]) hx hb dX11_greatestDivisor_25 rfl hl (by decide) rfl (fun ls hl => ?_)
          refine lv_iinc (v := nI (k + 1)) (lv' := [(4, .int (nI (k + 1))), (2, .long (lN (x % y))), (0, .long (lN y)), (5, .long (lN (x % y)))]) hx hb dX11_greatestDivisor_26 hl (k := 3) rfl (nI_1 _) (by decide) rfl (fun ls hl => ?_)
          refine lv_goto (tgt := 3) hx hb dX11_greatestDivisor_29 (by decide) ?_
          have hl : lv_has ls 7 [(0, .long (lN y)), (2, .long (lN (x % y))), (4, .int (nI (k + 1)))] := lv_sub hl [2, 1, 0] rfl
          exact ih_3 (k + 1) y (x % y) (by omega) hy0 (Nat.lt_of_le_of_lt (Nat.mod_le _ _) hx0) (by rw [show 100 - k = (100 - (k + 1)) + 1 from by omega, gl, if_neg c13] at hg; exact hg) (by omega) _ _ hH _ hl
  have hl : lv_has ls 7 [(0, .long (lN a)), (2, .long (lN b)), (4, .int (nI 0))] := lv_sub hl [1, 2, 0] rfl
  exact loop_3 _ 0 a b (by omega) (by omega) (by omega) rfl (Nat.lt_succ_self _) _ _ hH _ hl
abbrev rm_X12_in : Room := { frames := 0, cells := 0, slots := 0, locals := 0 }
set_option maxHeartbeats 4000000 in
set_option maxRecDepth 100000 in
theorem c_X12_in {G : GG} {base : Nat} {l : Launch} {f : Hp} {sz : Nat} {v : Int64} {lo : Int64} {hi : Int64}  : fx_M G base l yX12_in cX12_in 6 (some .boolean) rm_X12_in [.long v, .long lo, .long hi] f sz (some (.int (bI (¬ v < lo ∧ ¬ hi < v)))) f sz := by
  refine fx_of (by decide +kernel) (Nat.le_of_ble_eq_true rfl) ?_
  intro p e s m args below meth c C hr hk hnm hH ls hl
  obtain ⟨locs, hlocs⟩ : ∃ L : List Loc, L = [] := ⟨_, rfl⟩
  rw [← hlocs] at hH ⊢
  generalize s.heap = H at hH ⊢
  have hx := C.1
  have hb := C.2.1
  have hl : lv_has ls 6 [(0, .long v), (2, .long lo), (4, .long hi)] := hl
  refine lv_lload_n hx hb dX12_in_0 rfl (lv_at hl 0 rfl) ?_
  refine lv_lload_n hx hb dX12_in_1 rfl (lv_at hl 1 rfl) ?_
  refine W.lcmp hx hb dX12_in_2 ?_
  refine fx_J_lt hx hb (tgt := 17) dX12_in_3 (by decide) (fun c3 => ?_) (fun c3 => ?_)
  · refine lv_iconst (v := nI 0) hx hb dX12_in_17 (by decide) ?_
    exact fx_zret C hr hk hH (by decide) (by first | rfl | (simp [bI, *]; done) | ((repeat (first | rw [if_pos (by assumption)] | rw [if_neg (by assumption)])); done) | (unfold bI; grind)) rfl rfl (Nat.zero_le _) (Nat.zero_le _) dX12_in_18
  · refine lv_lload_n hx hb dX12_in_6 rfl (lv_at hl 0 rfl) ?_
    refine lv_lload hx hb dX12_in_7 (lv_at hl 2 rfl) ?_
    refine W.lcmp hx hb dX12_in_9 ?_
    refine fx_J_gt hx hb (tgt := 17) dX12_in_10 (by decide) (fun c10 => ?_) (fun c10 => ?_)
    · refine lv_iconst (v := nI 0) hx hb dX12_in_17 (by decide) ?_
      exact fx_zret C hr hk hH (by decide) (by first | rfl | (simp [bI, *]; done) | ((repeat (first | rw [if_pos (by assumption)] | rw [if_neg (by assumption)])); done) | (unfold bI; grind)) rfl rfl (Nat.zero_le _) (Nat.zero_le _) dX12_in_18
    · refine lv_iconst (v := nI 1) hx hb dX12_in_13 (by decide) ?_
      refine lv_goto (tgt := 18) hx hb dX12_in_14 (by decide) ?_
      exact fx_zret C hr hk hH (by decide) (by first | rfl | (simp [bI, *]; done) | ((repeat (first | rw [if_pos (by assumption)] | rw [if_neg (by assumption)])); done) | (unfold bI; grind)) rfl rfl (Nat.zero_le _) (Nat.zero_le _) dX12_in_18
set_option maxHeartbeats 4000000 in
set_option maxRecDepth 100000 in
theorem c_X12_in_i {G : GG} {base : Nat} {l : Launch} {f : Hp} {sz : Nat} {x : Int32} {lo : Nat} {hi : Nat} (hlo : lo < 2 ^ 31) (hhi : hi < 2 ^ 31) : fx_M G base l yX12_in cX12_in 6 (some .boolean) rm_X12_in [.long x.toInt64, .long (lN lo), .long (lN hi)] f sz (some (.int (bI (¬ x < nI lo ∧ ¬ nI hi < x)))) f sz := by
  refine fx_of (by decide +kernel) (Nat.le_of_ble_eq_true rfl) ?_
  intro p e s m args below meth c C hr hk hnm hH ls hl
  obtain ⟨locs, hlocs⟩ : ∃ L : List Loc, L = [] := ⟨_, rfl⟩
  rw [← hlocs] at hH ⊢
  generalize s.heap = H at hH ⊢
  have hx := C.1
  have hb := C.2.1
  have hl : lv_has ls 6 [(0, .long x.toInt64), (2, .long (lN lo)), (4, .long (lN hi))] := hl
  have e1 : ∀ k : Nat, k < 2 ^ 31 → (x.toInt64 < lN k ↔ x < nI k) := fun k h => by rw [← nI_l h]; exact fa_wide_lt _ _
  have e2 : ∀ k : Nat, k < 2 ^ 31 → (lN k < x.toInt64 ↔ nI k < x) := fun k h => by rw [← nI_l h]; exact fa_wide_lt _ _
  refine lv_lload_n hx hb dX12_in_0 rfl (lv_at hl 0 rfl) ?_
  refine lv_lload_n hx hb dX12_in_1 rfl (lv_at hl 1 rfl) ?_
  refine W.lcmp hx hb dX12_in_2 ?_
  refine fx_J_lt hx hb (tgt := 17) dX12_in_3 (by decide) (fun c3 => ?_) (fun c3 => ?_)
  · have c3 : x < nI lo := (e1 lo hlo).mp c3
    refine lv_iconst (v := nI 0) hx hb dX12_in_17 (by decide) ?_
    exact fx_zret C hr hk hH (by decide) (by first | rfl | (simp [bI, *]; done) | ((repeat (first | rw [if_pos (by assumption)] | rw [if_neg (by assumption)])); done) | (unfold bI; grind)) rfl rfl (Nat.zero_le _) (Nat.zero_le _) dX12_in_18
  · have c3 : ¬ x < nI lo := fun q => c3 ((e1 lo hlo).mpr q)
    refine lv_lload_n hx hb dX12_in_6 rfl (lv_at hl 0 rfl) ?_
    refine lv_lload hx hb dX12_in_7 (lv_at hl 2 rfl) ?_
    refine W.lcmp hx hb dX12_in_9 ?_
    refine fx_J_gt hx hb (tgt := 17) dX12_in_10 (by decide) (fun c10 => ?_) (fun c10 => ?_)
    · have c10 : nI hi < x := (e2 hi hhi).mp c10
      refine lv_iconst (v := nI 0) hx hb dX12_in_17 (by decide) ?_
      exact fx_zret C hr hk hH (by decide) (by first | rfl | (simp [bI, *]; done) | ((repeat (first | rw [if_pos (by assumption)] | rw [if_neg (by assumption)])); done) | (unfold bI; grind)) rfl rfl (Nat.zero_le _) (Nat.zero_le _) dX12_in_18
    · have c10 : ¬ nI hi < x := fun q => c10 ((e2 hi hhi).mpr q)
      refine lv_iconst (v := nI 1) hx hb dX12_in_13 (by decide) ?_
      refine lv_goto (tgt := 18) hx hb dX12_in_14 (by decide) ?_
      exact fx_zret C hr hk hH (by decide) (by first | rfl | (simp [bI, *]; done) | ((repeat (first | rw [if_pos (by assumption)] | rw [if_neg (by assumption)])); done) | (unfold bI; grind)) rfl rfl (Nat.zero_le _) (Nat.zero_le _) dX12_in_18
set_option maxHeartbeats 4000000 in
set_option maxRecDepth 100000 in
theorem c_X12_in_j {G : GG} {base : Nat} {l : Launch} {f : Hp} {sz : Nat} {x : Int32} {y : Int32} {lo : Nat} (hlo : lo < 2 ^ 31) : fx_M G base l yX12_in cX12_in 6 (some .boolean) rm_X12_in [.long x.toInt64, .long (lN lo), .long y.toInt64] f sz (some (.int (bI (¬ x < nI lo ∧ ¬ y < x)))) f sz := by
  refine fx_of (by decide +kernel) (Nat.le_of_ble_eq_true rfl) ?_
  intro p e s m args below meth c C hr hk hnm hH ls hl
  obtain ⟨locs, hlocs⟩ : ∃ L : List Loc, L = [] := ⟨_, rfl⟩
  rw [← hlocs] at hH ⊢
  generalize s.heap = H at hH ⊢
  have hx := C.1
  have hb := C.2.1
  have hl : lv_has ls 6 [(0, .long x.toInt64), (2, .long (lN lo)), (4, .long y.toInt64)] := hl
  have e1 : ∀ k : Nat, k < 2 ^ 31 → (x.toInt64 < lN k ↔ x < nI k) := fun k h => by rw [← nI_l h]; exact fa_wide_lt _ _
  refine lv_lload_n hx hb dX12_in_0 rfl (lv_at hl 0 rfl) ?_
  refine lv_lload_n hx hb dX12_in_1 rfl (lv_at hl 1 rfl) ?_
  refine W.lcmp hx hb dX12_in_2 ?_
  refine fx_J_lt hx hb (tgt := 17) dX12_in_3 (by decide) (fun c3 => ?_) (fun c3 => ?_)
  · have c3 : x < nI lo := (e1 lo hlo).mp c3
    refine lv_iconst (v := nI 0) hx hb dX12_in_17 (by decide) ?_
    exact fx_zret C hr hk hH (by decide) (by first | rfl | (simp [bI, *]; done) | ((repeat (first | rw [if_pos (by assumption)] | rw [if_neg (by assumption)])); done) | (unfold bI; grind)) rfl rfl (Nat.zero_le _) (Nat.zero_le _) dX12_in_18
  · have c3 : ¬ x < nI lo := fun q => c3 ((e1 lo hlo).mpr q)
    refine lv_lload_n hx hb dX12_in_6 rfl (lv_at hl 0 rfl) ?_
    refine lv_lload hx hb dX12_in_7 (lv_at hl 2 rfl) ?_
    refine W.lcmp hx hb dX12_in_9 ?_
    refine fx_J_gt hx hb (tgt := 17) dX12_in_10 (by decide) (fun c10 => ?_) (fun c10 => ?_)
    · have c10 : y < x := (fa_wide_lt y x).mp c10
      refine lv_iconst (v := nI 0) hx hb dX12_in_17 (by decide) ?_
      exact fx_zret C hr hk hH (by decide) (by first | rfl | (simp [bI, *]; done) | ((repeat (first | rw [if_pos (by assumption)] | rw [if_neg (by assumption)])); done) | (unfold bI; grind)) rfl rfl (Nat.zero_le _) (Nat.zero_le _) dX12_in_18
    · have c10 : ¬ y < x := fun q => c10 ((fa_wide_lt y x).mpr q)
      refine lv_iconst (v := nI 1) hx hb dX12_in_13 (by decide) ?_
      refine lv_goto (tgt := 18) hx hb dX12_in_14 (by decide) ?_
      exact fx_zret C hr hk hH (by decide) (by first | rfl | (simp [bI, *]; done) | ((repeat (first | rw [if_pos (by assumption)] | rw [if_neg (by assumption)])); done) | (unfold bI; grind)) rfl rfl (Nat.zero_le _) (Nat.zero_le _) dX12_in_18
set_option maxHeartbeats 4000000 in
set_option maxRecDepth 100000 in
theorem c_X12_in_n {G : GG} {base : Nat} {l : Launch} {f : Hp} {sz : Nat} {v : Nat} {lo : Nat} {hi : Nat} (hv : v < 2 ^ 63) (hlo : lo < 2 ^ 63) (hhi : hi < 2 ^ 63) : fx_M G base l yX12_in cX12_in 6 (some .boolean) rm_X12_in [.long (lN v), .long (lN lo), .long (lN hi)] f sz (some (.int (bI (lo ≤ v ∧ v ≤ hi)))) f sz := by
  refine fx_of (by decide +kernel) (Nat.le_of_ble_eq_true rfl) ?_
  intro p e s m args below meth c C hr hk hnm hH ls hl
  obtain ⟨locs, hlocs⟩ : ∃ L : List Loc, L = [] := ⟨_, rfl⟩
  rw [← hlocs] at hH ⊢
  generalize s.heap = H at hH ⊢
  have hx := C.1
  have hb := C.2.1
  have hl : lv_has ls 6 [(0, .long (lN v)), (2, .long (lN lo)), (4, .long (lN hi))] := hl
  refine lv_lload_n hx hb dX12_in_0 rfl (lv_at hl 0 rfl) ?_
  refine lv_lload_n hx hb dX12_in_1 rfl (lv_at hl 1 rfl) ?_
  refine W.lcmp hx hb dX12_in_2 ?_
  refine fx_JN_lt (a := v) (b := lo) hx hb (by omega) (by omega) (tgt := 17) dX12_in_3 (by decide) (fun c3 => ?_) (fun c3 => ?_)
  · refine lv_iconst (v := nI 0) hx hb dX12_in_17 (by decide) ?_
    exact fx_zret C hr hk hH (by decide) ((bI_f (by omega)).symm) rfl rfl (Nat.zero_le _) (Nat.zero_le _) dX12_in_18
  · refine lv_lload_n hx hb dX12_in_6 rfl (lv_at hl 0 rfl) ?_
    refine lv_lload hx hb dX12_in_7 (lv_at hl 2 rfl) ?_
    refine W.lcmp hx hb dX12_in_9 ?_
    refine fx_JN_gt (a := v) (b := hi) hx hb (by omega) (by omega) (tgt := 17) dX12_in_10 (by decide) (fun c10 => ?_) (fun c10 => ?_)
    · refine lv_iconst (v := nI 0) hx hb dX12_in_17 (by decide) ?_
      exact fx_zret C hr hk hH (by decide) ((bI_f (by omega)).symm) rfl rfl (Nat.zero_le _) (Nat.zero_le _) dX12_in_18
    · refine lv_iconst (v := nI 1) hx hb dX12_in_13 (by decide) ?_
      refine lv_goto (tgt := 18) hx hb dX12_in_14 (by decide) ?_
      exact fx_zret C hr hk hH (by decide) ((bI_t (by omega)).symm) rfl rfl (Nat.zero_le _) (Nat.zero_le _) dX12_in_18
abbrev rm_X12_isRow : Room := { frames := 1, cells := 0, slots := 0, locals := 25 }
set_option maxHeartbeats 4000000 in
set_option maxRecDepth 100000 in
theorem c_X12_isRow {G : GG} {base : Nat} {l : Launch} {f : Hp} {sz : Nat} {r : Int32}  : fx_M G base l yX12_isRow cX12_isRow 1 (some .boolean) rm_X12_isRow [.int r] f sz (some (.int (bI (¬ r < nI 0 ∧ ¬ nI 7 < r)))) f sz := by
  refine fx_of (by decide +kernel) (Nat.le_of_ble_eq_true rfl) ?_
  intro p e s m args below meth c C hr hk hnm hH ls hl
  obtain ⟨locs, hlocs⟩ : ∃ L : List Loc, L = [] := ⟨_, rfl⟩
  rw [← hlocs] at hH ⊢
  generalize s.heap = H at hH ⊢
  have hx := C.1
  have hb := C.2.1
  have hl : lv_has ls 1 [(0, .int r)] := hl
  refine lv_iload_n hx hb dX12_isRow_0 rfl (lv_at hl 0 rfl) ?_
  refine lv_i2l (v := r.toInt64) hx hb dX12_isRow_1 rfl ?_
  refine lv_lconst (v := lN 0) hx hb dX12_isRow_2 (by decide) ?_
  refine lv_ldc2 (v := (7)) hx hb C.2.2.2.1 (C.2.2.2.2.1 _ kL_X12_62 rfl args) dX12_isRow_3 ?_
  refine fx_tl (y := lN 7) (by decide) ?_
  refine fx_go1 hH (fx_runS C hH hl.1 (As := [.long r.toInt64, .long (lN 0), .long (lN 7)]) (rest := []) (c_X12_in_i (G := G) (base := base) (l := l) (f := f) (sz := sz) (x := r) (lo := 0) (hi := 7) (by omega) (by omega)) mY_X12_in ml_X12_64 st_X12_in rfl ⟨(Nat.le_of_ble_eq_true rfl), (Nat.le_of_ble_eq_true rfl)⟩ rfl (Nat.le_of_ble_eq_true rfl) ⟨(Nat.le_of_ble_eq_true rfl), (Nat.le_of_ble_eq_true rfl)⟩ dX12_isRow_6) (fun H locs hH => ?_)
  exact fx_zret C hr hk hH (bI_n _) rfl rfl rfl (Nat.zero_le _) (Nat.zero_le _) dX12_isRow_9
abbrev rm_X12_isWay : Room := { frames := 0, cells := 0, slots := 0, locals := 0 }
set_option maxHeartbeats 4000000 in
set_option maxRecDepth 100000 in
theorem c_X12_isWay {G : GG} {base : Nat} {l : Launch} {f : Hp} {sz : Nat} {w : Int32}  : fx_M G base l yX12_isWay cX12_isWay 1 (some .boolean) rm_X12_isWay [.int w] f sz (some (.int (bI (w = nI 1 ∨ w = -1)))) f sz := by
  refine fx_of (by decide +kernel) (Nat.le_of_ble_eq_true rfl) ?_
  intro p e s m args below meth c C hr hk hnm hH ls hl
  obtain ⟨locs, hlocs⟩ : ∃ L : List Loc, L = [] := ⟨_, rfl⟩
  rw [← hlocs] at hH ⊢
  generalize s.heap = H at hH ⊢
  have hx := C.1
  have hb := C.2.1
  have hl : lv_has ls 1 [(0, .int w)] := hl
  refine lv_iload_n hx hb dX12_isWay_0 rfl (lv_at hl 0 rfl) ?_
  refine lv_iconst (v := nI 1) hx hb dX12_isWay_1 (by decide) ?_
  refine lv_icmp_eq hx hb (tgt := 10) dX12_isWay_2 (by decide) (fun c2 => ?_) (fun c2 => ?_)
  · refine lv_iconst (v := nI 1) hx hb dX12_isWay_10 (by decide) ?_
    refine lv_goto (tgt := 15) hx hb dX12_isWay_11 (by decide) ?_
    exact fx_zret C hr hk hH (by decide) (by first | rfl | (simp [bI, *]; done) | ((repeat (first | rw [if_pos (by assumption)] | rw [if_neg (by assumption)])); done) | (unfold bI; grind)) rfl rfl (Nat.zero_le _) (Nat.zero_le _) dX12_isWay_15
  · refine lv_iload_n hx hb dX12_isWay_5 rfl (lv_at hl 0 rfl) ?_
    refine lv_iconst (v := (-1)) hx hb dX12_isWay_6 (by decide) ?_
    refine lv_icmp_ne hx hb (tgt := 14) dX12_isWay_7 (by decide) (fun c7 => ?_) (fun c7 => ?_)
    · refine lv_iconst (v := nI 0) hx hb dX12_isWay_14 (by decide) ?_
      exact fx_zret C hr hk hH (by decide) (by first | rfl | (simp [bI, *]; done) | ((repeat (first | rw [if_pos (by assumption)] | rw [if_neg (by assumption)])); done) | (unfold bI; grind)) rfl rfl (Nat.zero_le _) (Nat.zero_le _) dX12_isWay_15
    · refine lv_iconst (v := nI 1) hx hb dX12_isWay_10 (by decide) ?_
      refine lv_goto (tgt := 15) hx hb dX12_isWay_11 (by decide) ?_
      exact fx_zret C hr hk hH (by decide) (by first | rfl | (simp [bI, *]; done) | ((repeat (first | rw [if_pos (by assumption)] | rw [if_neg (by assumption)])); done) | (unfold bI; grind)) rfl rfl (Nat.zero_le _) (Nat.zero_le _) dX12_isWay_15
abbrev rm_X12_isSplinter : Room := { frames := 1, cells := 0, slots := 0, locals := 25 }
set_option maxHeartbeats 4000000 in
set_option maxRecDepth 100000 in
theorem c_X12_isSplinter {G : GG} {base : Nat} {l : Launch} {f : Hp} {sz : Nat} {w : Int32} {sl : Int32} {sd : Int32}  : fx_M G base l yX12_isSplinter cX12_isSplinter 3 (some .boolean) rm_X12_isSplinter [.int w, .int sl, .int sd] f sz (some (.int (bI ((¬ w < nI 1 ∧ ¬ nI 19 < w) ∧ (¬ sl < nI 1 ∧ ¬ nI 9 < sl) ∧ (¬ sd < nI 0 ∧ ¬ nI 1 < sd))))) f sz := by
  refine fx_of (by decide +kernel) (Nat.le_of_ble_eq_true rfl) ?_
  intro p e s m args below meth c C hr hk hnm hH ls hl
  obtain ⟨locs, hlocs⟩ : ∃ L : List Loc, L = [] := ⟨_, rfl⟩
  rw [← hlocs] at hH ⊢
  generalize s.heap = H at hH ⊢
  have hx := C.1
  have hb := C.2.1
  have hl : lv_has ls 3 [(0, .int w), (1, .int sl), (2, .int sd)] := hl
  refine lv_iload_n hx hb dX12_isSplinter_0 rfl (lv_at hl 0 rfl) ?_
  refine lv_i2l (v := w.toInt64) hx hb dX12_isSplinter_1 rfl ?_
  refine lv_lconst (v := lN 1) hx hb dX12_isSplinter_2 (by decide) ?_
  refine lv_ldc2 (v := (19)) hx hb C.2.2.2.1 (C.2.2.2.2.1 _ kL_X12_228 rfl args) dX12_isSplinter_3 ?_
  refine fx_tl (y := lN 19) (by decide) ?_
  refine fx_go1 hH (fx_runS C hH hl.1 (As := [.long w.toInt64, .long (lN 1), .long (lN 19)]) (rest := []) (c_X12_in_i (G := G) (base := base) (l := l) (f := f) (sz := sz) (x := w) (lo := 1) (hi := 19) (by omega) (by omega)) mY_X12_in ml_X12_64 st_X12_in rfl ⟨(Nat.le_of_ble_eq_true rfl), (Nat.le_of_ble_eq_true rfl)⟩ rfl (Nat.le_of_ble_eq_true rfl) ⟨(Nat.le_of_ble_eq_true rfl), (Nat.le_of_ble_eq_true rfl)⟩ dX12_isSplinter_6) (fun H locs hH => ?_)
  refine fx_b_eq hx hb (tgt := 38) dX12_isSplinter_9 (by decide) (fun c9 => ?_) (fun c9 => ?_)
  · refine lv_iconst (v := nI 0) hx hb dX12_isSplinter_38 (by decide) ?_
    exact fx_zret C hr hk hH (by decide) (by first | rfl | (simp [bI, *]; done) | ((repeat (first | rw [if_pos (by assumption)] | rw [if_neg (by assumption)])); done) | (unfold bI; grind)) rfl rfl (Nat.zero_le _) (Nat.zero_le _) dX12_isSplinter_39
  · refine lv_iload_n hx hb dX12_isSplinter_12 rfl (lv_at hl 1 rfl) ?_
    refine lv_i2l (v := sl.toInt64) hx hb dX12_isSplinter_13 rfl ?_
    refine lv_lconst (v := lN 1) hx hb dX12_isSplinter_14 (by decide) ?_
    refine lv_ldc2 (v := (9)) hx hb C.2.2.2.1 (C.2.2.2.2.1 _ kL_X12_230 rfl args) dX12_isSplinter_15 ?_
    refine fx_tl (y := lN 9) (by decide) ?_
    refine fx_go1 hH (fx_runS C hH hl.1 (As := [.long sl.toInt64, .long (lN 1), .long (lN 9)]) (rest := []) (c_X12_in_i (G := G) (base := base) (l := l) (f := f) (sz := sz) (x := sl) (lo := 1) (hi := 9) (by omega) (by omega)) mY_X12_in ml_X12_64 st_X12_in rfl ⟨(Nat.le_of_ble_eq_true rfl), (Nat.le_of_ble_eq_true rfl)⟩ rfl (Nat.le_of_ble_eq_true rfl) ⟨(Nat.le_of_ble_eq_true rfl), (Nat.le_of_ble_eq_true rfl)⟩ dX12_isSplinter_18) (fun H locs hH => ?_)
    refine fx_b_eq hx hb (tgt := 38) dX12_isSplinter_21 (by decide) (fun c21 => ?_) (fun c21 => ?_)
    · refine lv_iconst (v := nI 0) hx hb dX12_isSplinter_38 (by decide) ?_
      exact fx_zret C hr hk hH (by decide) (by first | rfl | (simp [bI, *]; done) | ((repeat (first | rw [if_pos (by assumption)] | rw [if_neg (by assumption)])); done) | (unfold bI; grind)) rfl rfl (Nat.zero_le _) (Nat.zero_le _) dX12_isSplinter_39
    · refine lv_iload_n hx hb dX12_isSplinter_24 rfl (lv_at hl 2 rfl) ?_
      refine lv_i2l (v := sd.toInt64) hx hb dX12_isSplinter_25 rfl ?_
      refine lv_lconst (v := lN 0) hx hb dX12_isSplinter_26 (by decide) ?_
      refine lv_lconst (v := lN 1) hx hb dX12_isSplinter_27 (by decide) ?_
      refine fx_go1 hH (fx_runS C hH hl.1 (As := [.long sd.toInt64, .long (lN 0), .long (lN 1)]) (rest := []) (c_X12_in_i (G := G) (base := base) (l := l) (f := f) (sz := sz) (x := sd) (lo := 0) (hi := 1) (by omega) (by omega)) mY_X12_in ml_X12_64 st_X12_in rfl ⟨(Nat.le_of_ble_eq_true rfl), (Nat.le_of_ble_eq_true rfl)⟩ rfl (Nat.le_of_ble_eq_true rfl) ⟨(Nat.le_of_ble_eq_true rfl), (Nat.le_of_ble_eq_true rfl)⟩ dX12_isSplinter_28) (fun H locs hH => ?_)
      refine fx_b_eq hx hb (tgt := 38) dX12_isSplinter_31 (by decide) (fun c31 => ?_) (fun c31 => ?_)
      · refine lv_iconst (v := nI 0) hx hb dX12_isSplinter_38 (by decide) ?_
        exact fx_zret C hr hk hH (by decide) (by first | rfl | (simp [bI, *]; done) | ((repeat (first | rw [if_pos (by assumption)] | rw [if_neg (by assumption)])); done) | (unfold bI; grind)) rfl rfl (Nat.zero_le _) (Nat.zero_le _) dX12_isSplinter_39
      · refine lv_iconst (v := nI 1) hx hb dX12_isSplinter_34 (by decide) ?_
        refine lv_goto (tgt := 39) hx hb dX12_isSplinter_35 (by decide) ?_
        exact fx_zret C hr hk hH (by decide) (by first | rfl | (simp [bI, *]; done) | ((repeat (first | rw [if_pos (by assumption)] | rw [if_neg (by assumption)])); done) | (unfold bI; grind)) rfl rfl (Nat.zero_le _) (Nat.zero_le _) dX12_isSplinter_39
abbrev rm_X12_wide : Room := { frames := 0, cells := 0, slots := 0, locals := 0 }
set_option maxHeartbeats 4000000 in
set_option maxRecDepth 100000 in
theorem c_X12_wide {G : GG} {base : Nat} {l : Launch} {f : Hp} {sz : Nat} {w : Int32} {sl : Int32} {sd : Int32} {n : Int32}  : fx_M G base l yX12_wide cX12_wide 5 (some .int) rm_X12_wide [.int w, .int sl, .int sd, .int n] f sz (some (.int (if 0 ≤ (if sd = 0 then w - sl * n else w + sl * n) then (if (if sd = 0 then w - sl * n else w + sl * n) ≤ nI 20 then (if sd = 0 then w - sl * n else w + sl * n) else nI 20) else nI 0))) f sz := by
  refine fx_of (by decide +kernel) (Nat.le_of_ble_eq_true rfl) ?_
  intro p e s m args below meth c C hr hk hnm hH ls hl
  obtain ⟨locs, hlocs⟩ : ∃ L : List Loc, L = [] := ⟨_, rfl⟩
  rw [← hlocs] at hH ⊢
  generalize s.heap = H at hH ⊢
  have hx := C.1
  have hb := C.2.1
  have hl : lv_has ls 5 [(0, .int w), (1, .int sl), (2, .int sd), (3, .int n)] := hl
  refine lv_iload_n hx hb dX12_wide_0 rfl (lv_at hl 2 rfl) ?_
  refine lv_if_ne hx hb (tgt := 12) dX12_wide_1 (by decide) (fun c1 => ?_) (fun c1 => ?_)
  · refine lv_iload_n hx hb dX12_wide_12 rfl (lv_at hl 0 rfl) ?_
    refine lv_iload_n hx hb dX12_wide_13 rfl (lv_at hl 1 rfl) ?_
    refine lv_iload_n hx hb dX12_wide_14 rfl (lv_at hl 3 rfl) ?_
    refine lv_imul hx hb dX12_wide_15 ?_
    refine lv_iadd hx hb dX12_wide_16 ?_
    refine lv_istore (lv' := [(4, .int (w + (sl * n))), (0, .int w), (1, .int sl), (2, .int sd), (3, .int n)]) hx hb dX12_wide_17 hl (by decide) rfl (fun ls hl => ?_)
    refine lv_iload hx hb dX12_wide_19 (lv_at hl 0 rfl) ?_
    refine lv_if_ge hx hb (tgt := 28) dX12_wide_21 (by decide) (fun c21 => ?_) (fun c21 => ?_)
    · refine lv_iload hx hb dX12_wide_28 (lv_at hl 0 rfl) ?_
      refine lv_bipush (v := nI 20) hx hb dX12_wide_30 (by decide) ?_
      refine lv_icmp_le hx hb (tgt := 40) dX12_wide_32 (by decide) (fun c32 => ?_) (fun c32 => ?_)
      · refine lv_iload hx hb dX12_wide_40 (lv_at hl 0 rfl) ?_
        exact fx_iret C hr hk hH (by first | rfl | (simp [bI, *]; done) | ((repeat (first | rw [if_pos (by assumption)] | rw [if_neg (by assumption)])); done) | (unfold bI; grind)) rfl rfl (Nat.zero_le _) (Nat.zero_le _) dX12_wide_42
      · refine lv_bipush (v := nI 20) hx hb dX12_wide_35 (by decide) ?_
        refine lv_goto (tgt := 42) hx hb dX12_wide_37 (by decide) ?_
        exact fx_iret C hr hk hH (by first | rfl | (simp [bI, *]; done) | ((repeat (first | rw [if_pos (by assumption)] | rw [if_neg (by assumption)])); done) | (unfold bI; grind)) rfl rfl (Nat.zero_le _) (Nat.zero_le _) dX12_wide_42
    · refine lv_iconst (v := nI 0) hx hb dX12_wide_24 (by decide) ?_
      refine lv_goto (tgt := 42) hx hb dX12_wide_25 (by decide) ?_
      exact fx_iret C hr hk hH (by first | rfl | (simp [bI, *]; done) | ((repeat (first | rw [if_pos (by assumption)] | rw [if_neg (by assumption)])); done) | (unfold bI; grind)) rfl rfl (Nat.zero_le _) (Nat.zero_le _) dX12_wide_42
  · refine lv_iload_n hx hb dX12_wide_4 rfl (lv_at hl 0 rfl) ?_
    refine lv_iload_n hx hb dX12_wide_5 rfl (lv_at hl 1 rfl) ?_
    refine lv_iload_n hx hb dX12_wide_6 rfl (lv_at hl 3 rfl) ?_
    refine lv_imul hx hb dX12_wide_7 ?_
    refine lv_isub hx hb dX12_wide_8 ?_
    refine lv_goto (tgt := 17) hx hb dX12_wide_9 (by decide) ?_
    refine lv_istore (lv' := [(4, .int (w - (sl * n))), (0, .int w), (1, .int sl), (2, .int sd), (3, .int n)]) hx hb dX12_wide_17 hl (by decide) rfl (fun ls hl => ?_)
    refine lv_iload hx hb dX12_wide_19 (lv_at hl 0 rfl) ?_
    refine lv_if_ge hx hb (tgt := 28) dX12_wide_21 (by decide) (fun c21 => ?_) (fun c21 => ?_)
    · refine lv_iload hx hb dX12_wide_28 (lv_at hl 0 rfl) ?_
      refine lv_bipush (v := nI 20) hx hb dX12_wide_30 (by decide) ?_
      refine lv_icmp_le hx hb (tgt := 40) dX12_wide_32 (by decide) (fun c32 => ?_) (fun c32 => ?_)
      · refine lv_iload hx hb dX12_wide_40 (lv_at hl 0 rfl) ?_
        exact fx_iret C hr hk hH (by first | rfl | (simp [bI, *]; done) | ((repeat (first | rw [if_pos (by assumption)] | rw [if_neg (by assumption)])); done) | (unfold bI; grind)) rfl rfl (Nat.zero_le _) (Nat.zero_le _) dX12_wide_42
      · refine lv_bipush (v := nI 20) hx hb dX12_wide_35 (by decide) ?_
        refine lv_goto (tgt := 42) hx hb dX12_wide_37 (by decide) ?_
        exact fx_iret C hr hk hH (by first | rfl | (simp [bI, *]; done) | ((repeat (first | rw [if_pos (by assumption)] | rw [if_neg (by assumption)])); done) | (unfold bI; grind)) rfl rfl (Nat.zero_le _) (Nat.zero_le _) dX12_wide_42
    · refine lv_iconst (v := nI 0) hx hb dX12_wide_24 (by decide) ?_
      refine lv_goto (tgt := 42) hx hb dX12_wide_25 (by decide) ?_
      exact fx_iret C hr hk hH (by first | rfl | (simp [bI, *]; done) | ((repeat (first | rw [if_pos (by assumption)] | rw [if_neg (by assumption)])); done) | (unfold bI; grind)) rfl rfl (Nat.zero_le _) (Nat.zero_le _) dX12_wide_42
abbrev rm_X12_kindBy : Room := { frames := 0, cells := 0, slots := 0, locals := 0 }
set_option maxHeartbeats 4000000 in
set_option maxRecDepth 100000 in
theorem c_X12_kindBy {G : GG} {base : Nat} {l : Launch} {f : Hp} {sz : Nat} {x : Int32}  : fx_M G base l yX12_kindBy cX12_kindBy 1 (some .int) rm_X12_kindBy [.int x] f sz (some (.int (if x = nI 117 then nI 1 else if x = nI 98 then nI 2 else if x = nI 108 then nI 3 else if x = nI 109 then nI 4 else if x = nI 116 then nI 5 else (-1000000)))) f sz := by
  refine fx_of (by decide +kernel) (Nat.le_of_ble_eq_true rfl) ?_
  intro p e s m args below meth c C hr hk hnm hH ls hl
  obtain ⟨locs, hlocs⟩ : ∃ L : List Loc, L = [] := ⟨_, rfl⟩
  rw [← hlocs] at hH ⊢
  generalize s.heap = H at hH ⊢
  have hx := C.1
  have hb := C.2.1
  have hl : lv_has ls 1 [(0, .int x)] := hl
  refine lv_iload_n hx hb dX12_kindBy_0 rfl (lv_at hl 0 rfl) ?_
  refine lv_bipush (v := nI 117) hx hb dX12_kindBy_1 (by decide) ?_
  refine lv_icmp_ne hx hb (tgt := 10) dX12_kindBy_3 (by decide) (fun c3 => ?_) (fun c3 => ?_)
  · refine lv_iload_n hx hb dX12_kindBy_10 rfl (lv_at hl 0 rfl) ?_
    refine lv_bipush (v := nI 98) hx hb dX12_kindBy_11 (by decide) ?_
    refine lv_icmp_ne hx hb (tgt := 20) dX12_kindBy_13 (by decide) (fun c13 => ?_) (fun c13 => ?_)
    · refine lv_iload_n hx hb dX12_kindBy_20 rfl (lv_at hl 0 rfl) ?_
      refine lv_bipush (v := nI 108) hx hb dX12_kindBy_21 (by decide) ?_
      refine lv_icmp_ne hx hb (tgt := 30) dX12_kindBy_23 (by decide) (fun c23 => ?_) (fun c23 => ?_)
      · refine lv_iload_n hx hb dX12_kindBy_30 rfl (lv_at hl 0 rfl) ?_
        refine lv_bipush (v := nI 109) hx hb dX12_kindBy_31 (by decide) ?_
        refine lv_icmp_ne hx hb (tgt := 40) dX12_kindBy_33 (by decide) (fun c33 => ?_) (fun c33 => ?_)
        · refine lv_iload_n hx hb dX12_kindBy_40 rfl (lv_at hl 0 rfl) ?_
          refine lv_bipush (v := nI 116) hx hb dX12_kindBy_41 (by decide) ?_
          refine lv_icmp_ne hx hb (tgt := 50) dX12_kindBy_43 (by decide) (fun c43 => ?_) (fun c43 => ?_)
          · refine lv_ldc (v := (-1000000)) hx hb C.2.2.2.1 (C.2.2.2.2.1 _ kI_X12_97 rfl args) dX12_kindBy_50 ?_
            exact fx_iret C hr hk hH (by first | rfl | (simp [bI, *]; done) | ((repeat (first | rw [if_pos (by assumption)] | rw [if_neg (by assumption)])); done) | (unfold bI; grind)) rfl rfl (Nat.zero_le _) (Nat.zero_le _) dX12_kindBy_52
          · refine lv_iconst (v := nI 5) hx hb dX12_kindBy_46 (by decide) ?_
            refine lv_goto (tgt := 52) hx hb dX12_kindBy_47 (by decide) ?_
            exact fx_iret C hr hk hH (by first | rfl | (simp [bI, *]; done) | ((repeat (first | rw [if_pos (by assumption)] | rw [if_neg (by assumption)])); done) | (unfold bI; grind)) rfl rfl (Nat.zero_le _) (Nat.zero_le _) dX12_kindBy_52
        · refine lv_iconst (v := nI 4) hx hb dX12_kindBy_36 (by decide) ?_
          refine lv_goto (tgt := 52) hx hb dX12_kindBy_37 (by decide) ?_
          exact fx_iret C hr hk hH (by first | rfl | (simp [bI, *]; done) | ((repeat (first | rw [if_pos (by assumption)] | rw [if_neg (by assumption)])); done) | (unfold bI; grind)) rfl rfl (Nat.zero_le _) (Nat.zero_le _) dX12_kindBy_52
      · refine lv_iconst (v := nI 3) hx hb dX12_kindBy_26 (by decide) ?_
        refine lv_goto (tgt := 52) hx hb dX12_kindBy_27 (by decide) ?_
        exact fx_iret C hr hk hH (by first | rfl | (simp [bI, *]; done) | ((repeat (first | rw [if_pos (by assumption)] | rw [if_neg (by assumption)])); done) | (unfold bI; grind)) rfl rfl (Nat.zero_le _) (Nat.zero_le _) dX12_kindBy_52
    · refine lv_iconst (v := nI 2) hx hb dX12_kindBy_16 (by decide) ?_
      refine lv_goto (tgt := 52) hx hb dX12_kindBy_17 (by decide) ?_
      exact fx_iret C hr hk hH (by first | rfl | (simp [bI, *]; done) | ((repeat (first | rw [if_pos (by assumption)] | rw [if_neg (by assumption)])); done) | (unfold bI; grind)) rfl rfl (Nat.zero_le _) (Nat.zero_le _) dX12_kindBy_52
  · refine lv_iconst (v := nI 1) hx hb dX12_kindBy_6 (by decide) ?_
    refine lv_goto (tgt := 52) hx hb dX12_kindBy_7 (by decide) ?_
    exact fx_iret C hr hk hH (by first | rfl | (simp [bI, *]; done) | ((repeat (first | rw [if_pos (by assumption)] | rw [if_neg (by assumption)])); done) | (unfold bI; grind)) rfl rfl (Nat.zero_le _) (Nat.zero_le _) dX12_kindBy_52
abbrev rm_X12_tens : Room := { frames := 0, cells := 0, slots := 0, locals := 0 }
set_option maxHeartbeats 4000000 in
set_option maxRecDepth 100000 in
theorem c_X12_tens {G : GG} {base : Nat} {l : Launch} {f : Hp} {sz : Nat} {n : Nat} (hn : n < 2 ^ 31) : fx_M G base l yX12_tens cX12_tens 4 (some .long) rm_X12_tens [.int (nI n)] f sz (some (.long (lN (10 ^ n)))) f sz := by
  refine fx_of (by decide +kernel) (Nat.le_of_ble_eq_true rfl) ?_
  intro p e s m args below meth c C hr hk hnm hH ls hl
  obtain ⟨locs, hlocs⟩ : ∃ L : List Loc, L = [] := ⟨_, rfl⟩
  rw [← hlocs] at hH ⊢
  generalize s.heap = H at hH ⊢
  have hx := C.1
  have hb := C.2.1
  have hl : lv_has ls 4 [(0, .int (nI n))] := hl
  refine lv_lconst (v := lN 1) hx hb dX12_tens_0 (by decide) ?_
  refine lv_lstore_n (lv' := [(1, .long (lN 1)), (0, .int (nI n))]) hx hb dX12_tens_1 rfl hl (by decide) rfl (fun ls hl => ?_)
  refine lv_iconst (v := nI 0) hx hb dX12_tens_2 (by decide) ?_
  refine lv_istore_n (lv' := [(3, .int (nI 0)), (1, .long (lN 1)), (0, .int (nI n))]) hx hb dX12_tens_3 rfl hl (by decide) rfl (fun ls hl => ?_)
  have loop_4 : ∀ (N_4 : Nat) (i : Nat) (hi : i ≤ n) (hm_4 : n - i < N_4) (H : Heap) (locs : List Loc) (hH : fx_H G base s f sz H locs) (ls : Array Slot) (hl : lv_has ls 4 [(0, .int (nI n)), (1, .long (lN (10 ^ i))), (3, .int (nI i))]), W p l e rm_X12_tens s m args below meth c H locs 0 0 (MQ below (fx_Q G base (some (.long (lN (10 ^ n)))) f sz) args s rm_X12_tens.cells rm_X12_tens.slots (fun q => base ≤ q)) (F0 m 4 ls []) := by
    intro N_4
    induction N_4 with
    | zero => intro i hi hm_4; exact absurd hm_4 (Nat.not_lt_zero _)
    | succ N_4 ih_4 =>
      intro i hi hm_4 H locs hH ls hl
      refine lv_iload_n hx hb dX12_tens_4 rfl (lv_at hl 2 rfl) ?_
      refine lv_iload_n hx hb dX12_tens_5 rfl (lv_at hl 0 rfl) ?_
      refine fx_N_ge (a := i) (b := n) hx hb (by omega) (by omega) (tgt := 21) dX12_tens_6 (by decide) (fun c6 => ?_) (fun c6 => ?_)
      · refine lv_lload_n hx hb dX12_tens_21 rfl (lv_at hl 1 rfl) ?_
        exact fx_lret C hr hk hH (by rw [show i = n from by omega]) rfl rfl (Nat.zero_le _) (Nat.zero_le _) dX12_tens_22
      · refine lv_lload_n hx hb dX12_tens_9 rfl (lv_at hl 1 rfl) ?_
        refine lv_ldc2 (v := (10)) hx hb C.2.2.2.1 (C.2.2.2.2.1 _ kL_X12_203 rfl args) dX12_tens_10 ?_
        refine fx_tl (y := lN 10) (by decide) ?_
        refine lv_lmul hx hb dX12_tens_13 ?_
        refine fx_tl (y := lN ((10 ^ i) * 10)) (lN_mul _ _) ?_
        refine lv_lstore_n (lv' := [(1, .long (lN ((10 ^ i) * 10))), (0, .int (nI n)), (3, .int (nI i))]) hx hb dX12_tens_14 rfl hl (by decide) rfl (fun ls hl => ?_)
        refine lv_iinc (v := nI (i + 1)) (lv' := [(3, .int (nI (i + 1))), (1, .long (lN ((10 ^ i) * 10))), (0, .int (nI n))]) hx hb dX12_tens_15 hl (k := 2) rfl (nI_1 _) (by decide) rfl (fun ls hl => ?_)
        refine lv_goto (tgt := 4) hx hb dX12_tens_18 (by decide) ?_
        have hl : lv_has ls 4 [(0, .int (nI n)), (1, .long (lN ((10 ^ i) * 10))), (3, .int (nI (i + 1)))] := lv_sub hl [2, 1, 0] rfl
        have hl : lv_has ls 4 [(0, .int (nI n)), (1, .long (lN (10 ^ (i + 1)))), (3, .int (nI (i + 1)))] := hl
        exact ih_4 (i + 1) (by omega) (by omega) _ _ hH _ hl
  have hl : lv_has ls 4 [(0, .int (nI n)), (1, .long (lN 1)), (3, .int (nI 0))] := lv_sub hl [2, 1, 0] rfl
  have hl : lv_has ls 4 [(0, .int (nI n)), (1, .long (lN (10 ^ 0))), (3, .int (nI 0))] := hl
  exact loop_4 _ 0 (by omega) (Nat.lt_succ_self _) _ _ hH _ hl
