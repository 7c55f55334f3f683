abbrev rm_J9_max_7cf53 : Room := { frames := 0, cells := 0, slots := 0, locals := 0 }
set_option maxHeartbeats 4000000 in
set_option maxRecDepth 100000 in
theorem c_J9_max_7cf53 {G : GG} {base : Nat} {l : Launch} {f : Hp} {sz : Nat} {a : Int32} {b : Int32}  : fx_M G base l yJ9_max_7cf53 cJ9_max_7cf53 2 (some .int) rm_J9_max_7cf53 [.int a, .int b] f sz (some (.int (if a < b then b else a))) f sz := by
  refine fx_ofJ pf_max (Nat.le_of_ble_eq_true rfl) ?_
  intro p e s m args below meth c C hr hk hnm hH ls hl
  have hx := C.1
  have hb := C.2.1
  have hl : lv_has ls 2 [(0, .int a), (1, .int b)] := hl
  refine lv_iload_n hx hb dJ9_max_7cf53_0 rfl (lv_at hl 0 rfl) ?_
  refine lv_iload_n hx hb dJ9_max_7cf53_1 rfl (lv_at hl 1 rfl) ?_
  refine lv_icmp_lt hx hb (tgt := 9) dJ9_max_7cf53_2 (by decide) (fun c2 => ?_) (fun c2 => ?_)
  · refine lv_iload_n hx hb dJ9_max_7cf53_9 rfl (lv_at hl 1 rfl) ?_
    exact fx_iret C hr hk hH (by first | rfl | (simp [bI, *]; done) | (unfold bI; grind)) rfl rfl (Nat.zero_le _) (Nat.zero_le _) dJ9_max_7cf53_10
  · refine lv_iload_n hx hb dJ9_max_7cf53_5 rfl (lv_at hl 0 rfl) ?_
    refine lv_goto (tgt := 10) hx hb dJ9_max_7cf53_6 (by decide) ?_
    exact fx_iret C hr hk hH (by first | rfl | (simp [bI, *]; done) | (unfold bI; grind)) rfl rfl (Nat.zero_le _) (Nat.zero_le _) dJ9_max_7cf53_10
abbrev rm_J9_min_7cf53 : Room := { frames := 0, cells := 0, slots := 0, locals := 0 }
set_option maxHeartbeats 4000000 in
set_option maxRecDepth 100000 in
theorem c_J9_min_7cf53 {G : GG} {base : Nat} {l : Launch} {f : Hp} {sz : Nat} {a : Int32} {b : Int32}  : fx_M G base l yJ9_min_7cf53 cJ9_min_7cf53 2 (some .int) rm_J9_min_7cf53 [.int a, .int b] f sz (some (.int (if b < a then b else a))) f sz := by
  refine fx_ofJ pf_min (Nat.le_of_ble_eq_true rfl) ?_
  intro p e s m args below meth c C hr hk hnm hH ls hl
  have hx := C.1
  have hb := C.2.1
  have hl : lv_has ls 2 [(0, .int a), (1, .int b)] := hl
  refine lv_iload_n hx hb dJ9_min_7cf53_0 rfl (lv_at hl 0 rfl) ?_
  refine lv_iload_n hx hb dJ9_min_7cf53_1 rfl (lv_at hl 1 rfl) ?_
  refine lv_icmp_gt hx hb (tgt := 9) dJ9_min_7cf53_2 (by decide) (fun c2 => ?_) (fun c2 => ?_)
  · refine lv_iload_n hx hb dJ9_min_7cf53_9 rfl (lv_at hl 1 rfl) ?_
    exact fx_iret C hr hk hH (by first | rfl | (simp [bI, *]; done) | (unfold bI; grind)) rfl rfl (Nat.zero_le _) (Nat.zero_le _) dJ9_min_7cf53_10
  · refine lv_iload_n hx hb dJ9_min_7cf53_5 rfl (lv_at hl 0 rfl) ?_
    refine lv_goto (tgt := 10) hx hb dJ9_min_7cf53_6 (by decide) ?_
    exact fx_iret C hr hk hH (by first | rfl | (simp [bI, *]; done) | (unfold bI; grind)) rfl rfl (Nat.zero_le _) (Nat.zero_le _) dJ9_min_7cf53_10
abbrev rm_J9_abs_0f7a4 : Room := { frames := 0, cells := 0, slots := 0, locals := 0 }
set_option maxHeartbeats 4000000 in
set_option maxRecDepth 100000 in
theorem c_J9_abs_0f7a4 {G : GG} {base : Nat} {l : Launch} {f : Hp} {sz : Nat} {a : Int32}  : fx_M G base l yJ9_abs_0f7a4 cJ9_abs_0f7a4 1 (some .int) rm_J9_abs_0f7a4 [.int a] f sz (some (.int (if 0 ≤ a then a else -a))) f sz := by
  refine fx_ofJ pf_abs (Nat.le_of_ble_eq_true rfl) ?_
  intro p e s m args below meth c C hr hk hnm hH ls hl
  have hx := C.1
  have hb := C.2.1
  have hl : lv_has ls 1 [(0, .int a)] := hl
  refine lv_iload_n hx hb dJ9_abs_0f7a4_0 rfl (lv_at hl 0 rfl) ?_
  refine lv_if_ge hx hb (tgt := 9) dJ9_abs_0f7a4_1 (by decide) (fun c1 => ?_) (fun c1 => ?_)
  · refine lv_iload_n hx hb dJ9_abs_0f7a4_9 rfl (lv_at hl 0 rfl) ?_
    exact fx_iret C hr hk hH (by first | rfl | (simp [bI, *]; done) | (unfold bI; grind)) rfl rfl (Nat.zero_le _) (Nat.zero_le _) dJ9_abs_0f7a4_10
  · refine lv_iload_n hx hb dJ9_abs_0f7a4_4 rfl (lv_at hl 0 rfl) ?_
    refine lv_ineg hx hb dJ9_abs_0f7a4_5 ?_
    refine lv_goto (tgt := 10) hx hb dJ9_abs_0f7a4_6 (by decide) ?_
    exact fx_iret C hr hk hH (by first | rfl | (simp [bI, *]; done) | (unfold bI; grind)) rfl rfl (Nat.zero_le _) (Nat.zero_le _) dJ9_abs_0f7a4_10
abbrev rm_J9_floorMod_7cf53 : Room := { frames := 0, cells := 0, slots := 0, locals := 0 }
set_option maxHeartbeats 4000000 in
set_option maxRecDepth 100000 in
theorem c_J9_floorMod_7cf53 {G : GG} {base : Nat} {l : Launch} {f : Hp} {sz : Nat} {x : Int32} {y : Int32} (hy : ¬ y = 0) : fx_M G base l yJ9_floorMod_7cf53 cJ9_floorMod_7cf53 3 (some .int) rm_J9_floorMod_7cf53 [.int x, .int y] f sz (some (.int (fmI x y))) f sz := by
  refine fx_ofJ pf_fm (Nat.le_of_ble_eq_true rfl) ?_
  intro p e s m args below meth c C hr hk hnm hH ls hl
  have hx := C.1
  have hb := C.2.1
  have hl : lv_has ls 3 [(0, .int x), (1, .int y)] := hl
  refine lv_iload_n hx hb dJ9_floorMod_7cf53_0 rfl (lv_at hl 0 rfl) ?_
  refine lv_iload_n hx hb dJ9_floorMod_7cf53_1 rfl (lv_at hl 1 rfl) ?_
  refine lv_irem hx hb dJ9_floorMod_7cf53_2 hy ?_
  refine lv_istore_n (lv' := [(2, .int (x - x / y * y)), (0, .int x), (1, .int y)]) hx hb dJ9_floorMod_7cf53_3 rfl hl (by decide) rfl (fun ls hl => ?_)
  refine lv_iload_n hx hb dJ9_floorMod_7cf53_4 rfl (lv_at hl 1 rfl) ?_
  refine lv_iload_n hx hb dJ9_floorMod_7cf53_5 rfl (lv_at hl 2 rfl) ?_
  refine lv_ixor hx hb dJ9_floorMod_7cf53_6 ?_
  refine lv_if_ge hx hb (tgt := 18) dJ9_floorMod_7cf53_7 (by decide) (fun c7 => ?_) (fun c7 => ?_)
  · refine lv_iload_n hx hb dJ9_floorMod_7cf53_18 rfl (lv_at hl 0 rfl) ?_
    exact fx_iret C hr hk hH (by rw [fmI, if_neg (fun q => Int32.not_le.mpr q.1 c7)]) rfl rfl (Nat.zero_le _) (Nat.zero_le _) dJ9_floorMod_7cf53_19
  · refine lv_iload_n hx hb dJ9_floorMod_7cf53_10 rfl (lv_at hl 0 rfl) ?_
    refine lv_if_eq hx hb (tgt := 18) dJ9_floorMod_7cf53_11 (by decide) (fun c11 => ?_) (fun c11 => ?_)
    · refine lv_iload_n hx hb dJ9_floorMod_7cf53_18 rfl (lv_at hl 0 rfl) ?_
      exact fx_iret C hr hk hH (by rw [fmI, if_neg (fun q => q.2 c11)]) rfl rfl (Nat.zero_le _) (Nat.zero_le _) dJ9_floorMod_7cf53_19
    · refine lv_iload_n hx hb dJ9_floorMod_7cf53_14 rfl (lv_at hl 0 rfl) ?_
      refine lv_iload_n hx hb dJ9_floorMod_7cf53_15 rfl (lv_at hl 2 rfl) ?_
      refine lv_iadd hx hb dJ9_floorMod_7cf53_16 ?_
      exact fx_iret C hr hk hH (by rw [fmI, if_pos ⟨Int32.not_le.mp c7, c11⟩]) rfl rfl (Nat.zero_le _) (Nat.zero_le _) dJ9_floorMod_7cf53_17
abbrev rm_X11_within : Room := { frames := 0, cells := 0, slots := 0, locals := 0 }
set_option maxHeartbeats 4000000 in
set_option maxRecDepth 100000 in
theorem c_X11_within {G : GG} {base : Nat} {l : Launch} {f : Hp} {sz : Nat} {n : Int32} {lo : Int32} {hi : Int32}  : fx_M G base l yX11_within cX11_within 3 (some .boolean) rm_X11_within [.int n, .int lo, .int hi] f sz (some (.int (bI (¬ n < lo ∧ ¬ hi < n)))) f sz := by
  refine fx_of (by decide +kernel) (Nat.le_of_ble_eq_true rfl) ?_
  intro p e s m args below meth c C hr hk hnm hH ls hl
  have hx := C.1
  have hb := C.2.1
  have hl : lv_has ls 3 [(0, .int n), (1, .int lo), (2, .int hi)] := hl
  refine lv_iload_n hx hb dX11_within_0 rfl (lv_at hl 0 rfl) ?_
  refine lv_iload_n hx hb dX11_within_1 rfl (lv_at hl 1 rfl) ?_
  refine lv_icmp_lt hx hb (tgt := 14) dX11_within_2 (by decide) (fun c2 => ?_) (fun c2 => ?_)
  · refine lv_iconst (v := nI 0) hx hb dX11_within_14 (by decide) ?_
    refine fx_ti (y := 0) rfl ?_
    exact fx_zret C hr hk hH (by decide) (by first | rfl | (simp [bI, *]; done) | (unfold bI; grind)) rfl rfl (Nat.zero_le _) (Nat.zero_le _) dX11_within_15
  · refine lv_iload_n hx hb dX11_within_5 rfl (lv_at hl 0 rfl) ?_
    refine lv_iload_n hx hb dX11_within_6 rfl (lv_at hl 2 rfl) ?_
    refine lv_icmp_gt hx hb (tgt := 14) dX11_within_7 (by decide) (fun c7 => ?_) (fun c7 => ?_)
    · refine lv_iconst (v := nI 0) hx hb dX11_within_14 (by decide) ?_
      refine fx_ti (y := 0) rfl ?_
      exact fx_zret C hr hk hH (by decide) (by first | rfl | (simp [bI, *]; done) | (unfold bI; grind)) rfl rfl (Nat.zero_le _) (Nat.zero_le _) dX11_within_15
    · refine lv_iconst (v := nI 1) hx hb dX11_within_10 (by decide) ?_
      refine lv_goto (tgt := 15) hx hb dX11_within_11 (by decide) ?_
      refine fx_ti (y := 1) rfl ?_
      exact fx_zret C hr hk hH (by decide) (by first | rfl | (simp [bI, *]; done) | (unfold bI; grind)) rfl rfl (Nat.zero_le _) (Nat.zero_le _) dX11_within_15
abbrev rm_X11_isWay : Room := { frames := 0, cells := 0, slots := 0, locals := 0 }
set_option maxHeartbeats 4000000 in
set_option maxRecDepth 100000 in
theorem c_X11_isWay {G : GG} {base : Nat} {l : Launch} {f : Hp} {sz : Nat} {w : Int32}  : fx_M G base l yX11_isWay cX11_isWay 1 (some .boolean) rm_X11_isWay [.int w] f sz (some (.int (bI (w = 1 ∨ w = -1)))) f sz := by
  refine fx_of (by decide +kernel) (Nat.le_of_ble_eq_true rfl) ?_
  intro p e s m args below meth c C hr hk hnm hH ls hl
  have hx := C.1
  have hb := C.2.1
  have hl : lv_has ls 1 [(0, .int w)] := hl
  refine lv_iload_n hx hb dX11_isWay_0 rfl (lv_at hl 0 rfl) ?_
  refine lv_iconst (v := nI 1) hx hb dX11_isWay_1 (by decide) ?_
  refine lv_icmp_eq hx hb (tgt := 10) dX11_isWay_2 (by decide) (fun c2 => ?_) (fun c2 => ?_)
  · have c2 : w = 1 := c2
    refine lv_iconst (v := nI 1) hx hb dX11_isWay_10 (by decide) ?_
    refine lv_goto (tgt := 15) hx hb dX11_isWay_11 (by decide) ?_
    refine fx_ti (y := 1) rfl ?_
    exact fx_zret C hr hk hH (by decide) (by first | rfl | (simp [bI, *]; done) | (unfold bI; grind)) rfl rfl (Nat.zero_le _) (Nat.zero_le _) dX11_isWay_15
  · have c2 : ¬ w = 1 := c2
    refine lv_iload_n hx hb dX11_isWay_5 rfl (lv_at hl 0 rfl) ?_
    refine lv_iconst (v := (-1)) hx hb dX11_isWay_6 (by decide) ?_
    refine lv_icmp_ne hx hb (tgt := 14) dX11_isWay_7 (by decide) (fun c7 => ?_) (fun c7 => ?_)
    · refine lv_iconst (v := nI 0) hx hb dX11_isWay_14 (by decide) ?_
      refine fx_ti (y := 0) rfl ?_
      exact fx_zret C hr hk hH (by decide) (by first | rfl | (simp [bI, *]; done) | (unfold bI; grind)) rfl rfl (Nat.zero_le _) (Nat.zero_le _) dX11_isWay_15
    · refine lv_iconst (v := nI 1) hx hb dX11_isWay_10 (by decide) ?_
      refine lv_goto (tgt := 15) hx hb dX11_isWay_11 (by decide) ?_
      refine fx_ti (y := 1) rfl ?_
      exact fx_zret C hr hk hH (by decide) (by first | rfl | (simp [bI, *]; done) | (unfold bI; grind)) rfl rfl (Nat.zero_le _) (Nat.zero_le _) dX11_isWay_15
abbrev rm_X11_isSplinter : Room := { frames := 1, cells := 0, slots := 0, locals := 22 }
set_option maxHeartbeats 4000000 in
set_option maxRecDepth 100000 in
theorem c_X11_isSplinter {G : GG} {base : Nat} {l : Launch} {f : Hp} {sz : Nat} {w : Int32} {sl : Int32} {sd : Int32}  : fx_M G base l yX11_isSplinter cX11_isSplinter 3 (some .boolean) rm_X11_isSplinter [.int w, .int sl, .int sd] f sz (some (.int (bI ((¬ w < 1 ∧ ¬ 19 < w) ∧ (¬ sl < 1 ∧ ¬ 9 < sl) ∧ (¬ sd < 0 ∧ ¬ 1 < sd))))) f sz := by
  refine fx_of (by decide +kernel) (Nat.le_of_ble_eq_true rfl) ?_
  intro p e s m args below meth c C hr hk hnm hH ls hl
  have hx := C.1
  have hb := C.2.1
  have hl : lv_has ls 3 [(0, .int w), (1, .int sl), (2, .int sd)] := hl
  refine lv_iload_n hx hb dX11_isSplinter_0 rfl (lv_at hl 0 rfl) ?_
  refine lv_iconst (v := nI 1) hx hb dX11_isSplinter_1 (by decide) ?_
  refine lv_bipush (v := nI 19) hx hb dX11_isSplinter_2 (by decide) ?_
  refine fx_go1 hH (fx_runS C hH hl.1 (As := [.int w, .int 1, .int 19]) (rest := []) (c_X11_within (G := G) (base := base) (l := l) (f := f) (sz := sz) (n := w) (lo := 1) (hi := 19) ) mY_X11_within ml_X11_56 st_X11_within rfl ⟨(Nat.le_of_ble_eq_true rfl), (Nat.le_of_ble_eq_true rfl)⟩ rfl (Nat.le_of_ble_eq_true rfl) ⟨(Nat.le_of_ble_eq_true rfl), (Nat.le_of_ble_eq_true rfl)⟩ dX11_isSplinter_4) (fun H locs hH => ?_)
  refine fx_b_eq hx hb (tgt := 33) dX11_isSplinter_7 (by decide) (fun c7 => ?_) (fun c7 => ?_)
  · refine lv_iconst (v := nI 0) hx hb dX11_isSplinter_33 (by decide) ?_
    refine fx_ti (y := 0) rfl ?_
    exact fx_zret C hr hk hH (by decide) (by first | rfl | (simp [bI, *]; done) | (unfold bI; grind)) rfl rfl (Nat.zero_le _) (Nat.zero_le _) dX11_isSplinter_34
  · refine lv_iload_n hx hb dX11_isSplinter_10 rfl (lv_at hl 1 rfl) ?_
    refine lv_iconst (v := nI 1) hx hb dX11_isSplinter_11 (by decide) ?_
    refine lv_bipush (v := nI 9) hx hb dX11_isSplinter_12 (by decide) ?_
    refine fx_go1 hH (fx_runS C hH hl.1 (As := [.int sl, .int 1, .int 9]) (rest := []) (c_X11_within (G := G) (base := base) (l := l) (f := f) (sz := sz) (n := sl) (lo := 1) (hi := 9) ) mY_X11_within ml_X11_56 st_X11_within rfl ⟨(Nat.le_of_ble_eq_true rfl), (Nat.le_of_ble_eq_true rfl)⟩ rfl (Nat.le_of_ble_eq_true rfl) ⟨(Nat.le_of_ble_eq_true rfl), (Nat.le_of_ble_eq_true rfl)⟩ dX11_isSplinter_14) (fun H locs hH => ?_)
    refine fx_b_eq hx hb (tgt := 33) dX11_isSplinter_17 (by decide) (fun c17 => ?_) (fun c17 => ?_)
    · refine lv_iconst (v := nI 0) hx hb dX11_isSplinter_33 (by decide) ?_
      refine fx_ti (y := 0) rfl ?_
      exact fx_zret C hr hk hH (by decide) (by first | rfl | (simp [bI, *]; done) | (unfold bI; grind)) rfl rfl (Nat.zero_le _) (Nat.zero_le _) dX11_isSplinter_34
    · refine lv_iload_n hx hb dX11_isSplinter_20 rfl (lv_at hl 2 rfl) ?_
      refine lv_iconst (v := nI 0) hx hb dX11_isSplinter_21 (by decide) ?_
      refine lv_iconst (v := nI 1) hx hb dX11_isSplinter_22 (by decide) ?_
      refine fx_go1 hH (fx_runS C hH hl.1 (As := [.int sd, .int 0, .int 1]) (rest := []) (c_X11_within (G := G) (base := base) (l := l) (f := f) (sz := sz) (n := sd) (lo := 0) (hi := 1) ) mY_X11_within ml_X11_56 st_X11_within rfl ⟨(Nat.le_of_ble_eq_true rfl), (Nat.le_of_ble_eq_true rfl)⟩ rfl (Nat.le_of_ble_eq_true rfl) ⟨(Nat.le_of_ble_eq_true rfl), (Nat.le_of_ble_eq_true rfl)⟩ dX11_isSplinter_23) (fun H locs hH => ?_)
      refine fx_b_eq hx hb (tgt := 33) dX11_isSplinter_26 (by decide) (fun c26 => ?_) (fun c26 => ?_)
      · refine lv_iconst (v := nI 0) hx hb dX11_isSplinter_33 (by decide) ?_
        refine fx_ti (y := 0) rfl ?_
        exact fx_zret C hr hk hH (by decide) (by first | rfl | (simp [bI, *]; done) | (unfold bI; grind)) rfl rfl (Nat.zero_le _) (Nat.zero_le _) dX11_isSplinter_34
      · refine lv_iconst (v := nI 1) hx hb dX11_isSplinter_29 (by decide) ?_
        refine lv_goto (tgt := 34) hx hb dX11_isSplinter_30 (by decide) ?_
        refine fx_ti (y := 1) rfl ?_
        exact fx_zret C hr hk hH (by decide) (by first | rfl | (simp [bI, *]; done) | (unfold bI; grind)) rfl rfl (Nat.zero_le _) (Nat.zero_le _) dX11_isSplinter_34
abbrev rm_X11_widthBehind : Room := { frames := 1, cells := 0, slots := 0, locals := 21 }
set_option maxHeartbeats 4000000 in
set_option maxRecDepth 100000 in
theorem c_X11_widthBehind {G : GG} {base : Nat} {l : Launch} {f : Hp} {sz : Nat} {w : Int32} {sl : Int32} {sd : Int32} {n : Int32}  : fx_M G base l yX11_widthBehind cX11_widthBehind 4 (some .int) rm_X11_widthBehind [.int w, .int sl, .int sd, .int n] f sz (some (.int (if sd = 0 then (if 0 < (w - sl * n) then (w - sl * n) else 0) else (if (w + sl * n) < 20 then (w + sl * n) else 20)))) f sz := by
  refine fx_of (by decide +kernel) (Nat.le_of_ble_eq_true rfl) ?_
  intro p e s m args below meth c C hr hk hnm hH ls hl
  have hx := C.1
  have hb := C.2.1
  have hl : lv_has ls 4 [(0, .int w), (1, .int sl), (2, .int sd), (3, .int n)] := hl
  refine lv_iload_n hx hb dX11_widthBehind_0 rfl (lv_at hl 2 rfl) ?_
  refine lv_if_ne hx hb (tgt := 16) dX11_widthBehind_1 (by decide) (fun c1 => ?_) (fun c1 => ?_)
  · refine lv_bipush (v := nI 20) hx hb dX11_widthBehind_16 (by decide) ?_
    refine lv_iload_n hx hb dX11_widthBehind_18 rfl (lv_at hl 0 rfl) ?_
    refine lv_iload_n hx hb dX11_widthBehind_19 rfl (lv_at hl 1 rfl) ?_
    refine lv_iload_n hx hb dX11_widthBehind_20 rfl (lv_at hl 3 rfl) ?_
    refine lv_imul hx hb dX11_widthBehind_21 ?_
    refine lv_iadd hx hb dX11_widthBehind_22 ?_
    refine fx_go1 hH (fx_runS C hH hl.1 (As := [.int 20, .int (w + (sl * n))]) (rest := []) (c_J9_min_7cf53 (G := G) (base := base) (l := l) (f := f) (sz := sz) (a := 20) (b := w + (sl * n)) ) mY_J9_min_7cf53 ml_X11_328 st_J9_min_7cf53 rfl ⟨(Nat.le_of_ble_eq_true rfl), (Nat.le_of_ble_eq_true rfl)⟩ rfl (Nat.le_of_ble_eq_true rfl) ⟨(Nat.le_of_ble_eq_true rfl), (Nat.le_of_ble_eq_true rfl)⟩ dX11_widthBehind_23) (fun H locs hH => ?_)
    exact fx_iret C hr hk hH (by first | rfl | (simp [bI, *]; done) | (unfold bI; grind)) rfl rfl (Nat.zero_le _) (Nat.zero_le _) dX11_widthBehind_26
  · refine lv_iconst (v := nI 0) hx hb dX11_widthBehind_4 (by decide) ?_
    refine lv_iload_n hx hb dX11_widthBehind_5 rfl (lv_at hl 0 rfl) ?_
    refine lv_iload_n hx hb dX11_widthBehind_6 rfl (lv_at hl 1 rfl) ?_
    refine lv_iload_n hx hb dX11_widthBehind_7 rfl (lv_at hl 3 rfl) ?_
    refine lv_imul hx hb dX11_widthBehind_8 ?_
    refine lv_isub hx hb dX11_widthBehind_9 ?_
    refine fx_go1 hH (fx_runS C hH hl.1 (As := [.int 0, .int (w - (sl * n))]) (rest := []) (c_J9_max_7cf53 (G := G) (base := base) (l := l) (f := f) (sz := sz) (a := 0) (b := w - (sl * n)) ) mY_J9_max_7cf53 ml_X11_323 st_J9_max_7cf53 rfl ⟨(Nat.le_of_ble_eq_true rfl), (Nat.le_of_ble_eq_true rfl)⟩ rfl (Nat.le_of_ble_eq_true rfl) ⟨(Nat.le_of_ble_eq_true rfl), (Nat.le_of_ble_eq_true rfl)⟩ dX11_widthBehind_10) (fun H locs hH => ?_)
    refine lv_goto (tgt := 26) hx hb dX11_widthBehind_13 (by decide) ?_
    exact fx_iret C hr hk hH (by first | rfl | (simp [bI, *]; done) | (unfold bI; grind)) rfl rfl (Nat.zero_le _) (Nat.zero_le _) dX11_widthBehind_26
abbrev rm_X11_nextDraw : Room := { frames := 0, cells := 0, slots := 0, locals := 0 }
set_option maxHeartbeats 4000000 in
set_option maxRecDepth 100000 in
theorem c_X11_nextDraw {G : GG} {base : Nat} {l : Launch} {f : Hp} {sz : Nat} {x : Int64}  : fx_M G base l yX11_nextDraw cX11_nextDraw 2 (some .long) rm_X11_nextDraw [.long x] f sz (some (.long (x * 16807 - x * 16807 / 2147483647 * 2147483647))) f sz := by
  refine fx_of (by decide +kernel) (Nat.le_of_ble_eq_true rfl) ?_
  intro p e s m args below meth c C hr hk hnm hH ls hl
  have hx := C.1
  have hb := C.2.1
  have hl : lv_has ls 2 [(0, .long x)] := hl
  refine lv_lload_n hx hb dX11_nextDraw_0 rfl (lv_at hl 0 rfl) ?_
  refine lv_ldc2 (v := (16807)) hx hb C.2.2.2.1 (C.2.2.2.2.1 _ kL_X11_331 rfl args) dX11_nextDraw_1 ?_
  refine fx_tl (y := lN 16807) (by decide) ?_
  refine lv_lmul hx hb dX11_nextDraw_4 ?_
  refine fx_tl (y := x * 16807) rfl ?_
  refine lv_ldc2 (v := (2147483647)) hx hb C.2.2.2.1 (C.2.2.2.2.1 _ kL_X11_333 rfl args) dX11_nextDraw_5 ?_
  refine fx_tl (y := lN 2147483647) (by decide) ?_
  refine lv_lrem hx hb dX11_nextDraw_8 (by decide) ?_
  refine fx_tl (y := (x * 16807) - (x * 16807) / 2147483647 * 2147483647) rfl ?_
  exact fx_lret C hr hk hH (by first | rfl | (simp [bI, *]; done) | (unfold bI; grind)) rfl rfl (Nat.zero_le _) (Nat.zero_le _) dX11_nextDraw_9
abbrev rm_X11_tens : Room := { frames := 0, cells := 0, slots := 0, locals := 0 }
set_option maxHeartbeats 4000000 in
set_option maxRecDepth 100000 in
theorem c_X11_tens {G : GG} {base : Nat} {l : Launch} {f : Hp} {sz : Nat} {n : Nat} (hn : n < 2 ^ 31) : fx_M G base l yX11_tens cX11_tens 4 (some .long) rm_X11_tens [.int (nI n)] f sz (some (.long (lN (10 ^ n)))) f sz := by
  refine fx_of (by decide +kernel) (Nat.le_of_ble_eq_true rfl) ?_
  intro p e s m args below meth c C hr hk hnm hH ls hl
  have hx := C.1
  have hb := C.2.1
  have hl : lv_has ls 4 [(0, .int (nI n))] := hl
  refine lv_lconst (v := lN 1) hx hb dX11_tens_0 (by decide) ?_
  refine lv_lstore_n (lv' := [(1, .long (lN 1)), (0, .int (nI n))]) hx hb dX11_tens_1 rfl hl (by decide) rfl (fun ls hl => ?_)
  refine lv_iconst (v := nI 0) hx hb dX11_tens_2 (by decide) ?_
  refine lv_istore_n (lv' := [(3, .int (nI 0)), (1, .long (lN 1)), (0, .int (nI n))]) hx hb dX11_tens_3 rfl hl (by decide) rfl (fun ls hl => ?_)
  have loop_4 : ∀ (N_4 : Nat) (i : Nat) (hi : i ≤ n) (hm_4 : n - i < N_4) (H : Heap) (locs : List Loc) (hH : fx_H G base s f sz H locs) (ls : Array Slot) (hl : lv_has ls 4 [(0, .int (nI n)), (1, .long (lN (10 ^ i))), (3, .int (nI i))]), W p l e rm_X11_tens s m args below meth c H locs 0 0 (MQ below (fx_Q G base (some (.long (lN (10 ^ n)))) f sz) args s rm_X11_tens.cells rm_X11_tens.slots (fun q => base ≤ q)) (F0 m 4 ls []) := by
    intro N_4
    induction N_4 with
    | zero => intro i hi hm_4; exact absurd hm_4 (Nat.not_lt_zero _)
    | succ N_4 ih_4 =>
      intro i hi hm_4 H locs hH ls hl
      refine lv_iload_n hx hb dX11_tens_4 rfl (lv_at hl 2 rfl) ?_
      refine lv_iload_n hx hb dX11_tens_5 rfl (lv_at hl 0 rfl) ?_
      refine fx_N_ge (a := i) (b := n) hx hb (by omega) (by omega) (tgt := 21) dX11_tens_6 (by decide) (fun c6 => ?_) (fun c6 => ?_)
      · refine lv_lload_n hx hb dX11_tens_21 rfl (lv_at hl 1 rfl) ?_
        exact fx_lret C hr hk hH (by rw [show i = n from by omega]) rfl rfl (Nat.zero_le _) (Nat.zero_le _) dX11_tens_22
      · refine lv_lload_n hx hb dX11_tens_9 rfl (lv_at hl 1 rfl) ?_
        refine lv_ldc2 (v := (10)) hx hb C.2.2.2.1 (C.2.2.2.2.1 _ kL_X11_229 rfl args) dX11_tens_10 ?_
        refine fx_tl (y := lN 10) (by decide) ?_
        refine lv_lmul hx hb dX11_tens_13 ?_
        refine fx_tl (y := lN ((10 ^ i) * 10)) (lN_mul _ _) ?_
        refine lv_lstore_n (lv' := [(1, .long (lN ((10 ^ i) * 10))), (0, .int (nI n)), (3, .int (nI i))]) hx hb dX11_tens_14 rfl hl (by decide) rfl (fun ls hl => ?_)
        refine lv_iinc (v := nI (i + 1)) (lv' := [(3, .int (nI (i + 1))), (1, .long (lN ((10 ^ i) * 10))), (0, .int (nI n))]) hx hb dX11_tens_15 hl (k := 2) rfl (nI_1 _) (by decide) rfl (fun ls hl => ?_)
        refine lv_goto (tgt := 4) hx hb dX11_tens_18 (by decide) ?_
        have hl : lv_has ls 4 [(0, .int (nI n)), (1, .long (lN ((10 ^ i) * 10))), (3, .int (nI (i + 1)))] := lv_sub hl [2, 1, 0] rfl
        have hl : lv_has ls 4 [(0, .int (nI n)), (1, .long (lN (10 ^ (i + 1)))), (3, .int (nI (i + 1)))] := hl
        exact ih_4 (i + 1) (by omega) (by omega) _ _ hH _ hl
  have hl : lv_has ls 4 [(0, .int (nI n)), (1, .long (lN 1)), (3, .int (nI 0))] := lv_sub hl [2, 1, 0] rfl
  have hl : lv_has ls 4 [(0, .int (nI n)), (1, .long (lN (10 ^ 0))), (3, .int (nI 0))] := hl
  exact loop_4 _ 0 (by omega) (Nat.lt_succ_self _) _ _ hH _ hl
abbrev rm_X11_greatestDivisor : Room := { frames := 0, cells := 0, slots := 0, locals := 0 }
set_option maxHeartbeats 4000000 in
set_option maxRecDepth 100000 in
theorem c_X11_greatestDivisor {G : GG} {base : Nat} {l : Launch} {f : Hp} {sz : Nat} {a : Nat} {b : Nat} (ha : a < 2 ^ 63) (hb0 : b < 2 ^ 63) : fx_M G base l yX11_greatestDivisor cX11_greatestDivisor 7 (some .long) rm_X11_greatestDivisor [.long (lN a), .long (lN b)] f sz (some (.long (lN (gl 100 a b)))) f sz := by
  refine fx_of (by decide +kernel) (Nat.le_of_ble_eq_true rfl) ?_
  intro p e s m args below meth c C hr hk hnm hH ls hl
  have hx := C.1
  have hb := C.2.1
  have hl : lv_has ls 7 [(0, .long (lN a)), (2, .long (lN b))] := hl
  refine lv_iconst (v := nI 0) hx hb dX11_greatestDivisor_0 (by decide) ?_
  refine lv_istore (lv' := [(4, .int (nI 0)), (0, .long (lN a)), (2, .long (lN b))]) hx hb dX11_greatestDivisor_1 hl (by decide) rfl (fun ls hl => ?_)
  have loop_3 : ∀ (N_3 : Nat) (k : Nat) (x : Nat) (y : Nat) (hk0 : k ≤ 100) (hx0 : x < 2 ^ 63) (hy0 : y < 2 ^ 63) (hg : gl (100 - k) x y = gl 100 a b) (hm_3 : 100 - k < N_3) (H : Heap) (locs : List Loc) (hH : fx_H G base s f sz H locs) (ls : Array Slot) (hl : lv_has ls 7 [(0, .long (lN x)), (2, .long (lN y)), (4, .int (nI k))]), W p l e rm_X11_greatestDivisor s m args below meth c H locs 0 0 (MQ below (fx_Q G base (some (.long (lN (gl 100 a b)))) f sz) args s rm_X11_greatestDivisor.cells rm_X11_greatestDivisor.slots (fun q => base ≤ q)) (F0 m 3 ls []) := by
    intro N_3
    induction N_3 with
    | zero => intro k x y hk0 hx0 hy0 hg hm_3; exact absurd hm_3 (Nat.not_lt_zero _)
    | succ N_3 ih_3 =>
      intro k x y hk0 hx0 hy0 hg hm_3 H locs hH ls hl
      refine lv_iload hx hb dX11_greatestDivisor_3 (lv_at hl 2 rfl) ?_
      refine lv_bipush (v := nI 100) hx hb dX11_greatestDivisor_5 (by decide) ?_
      refine fx_N_ge (a := k) (b := 100) hx hb (by omega) (by omega) (tgt := 32) dX11_greatestDivisor_7 (by decide) (fun c7 => ?_) (fun c7 => ?_)
      · refine lv_lload_n hx hb dX11_greatestDivisor_32 rfl (lv_at hl 0 rfl) ?_
        exact fx_lret C hr hk hH (by rw [show 100 - k = 0 from by omega, gl] at hg; rw [hg]) rfl rfl (Nat.zero_le _) (Nat.zero_le _) dX11_greatestDivisor_33
      · refine lv_lload_n hx hb dX11_greatestDivisor_10 rfl (lv_at hl 1 rfl) ?_
        refine lv_lconst (v := lN 0) hx hb dX11_greatestDivisor_11 (by decide) ?_
        refine W.lcmp hx hb dX11_greatestDivisor_12 ?_
        refine fx_JN_eq (a := y) (b := 0) hx hb (by omega) (by omega) (tgt := 32) dX11_greatestDivisor_13 (by decide) (fun c13 => ?_) (fun c13 => ?_)
        · refine lv_lload_n hx hb dX11_greatestDivisor_32 rfl (lv_at hl 0 rfl) ?_
          exact fx_lret C hr hk hH (by rw [show 100 - k = (100 - (k + 1)) + 1 from by omega, gl, if_pos c13] at hg; rw [hg]) rfl rfl (Nat.zero_le _) (Nat.zero_le _) dX11_greatestDivisor_33
        · refine lv_lload_n hx hb dX11_greatestDivisor_16 rfl (lv_at hl 0 rfl) ?_
          refine lv_lload_n hx hb dX11_greatestDivisor_17 rfl (lv_at hl 1 rfl) ?_
          refine lv_lrem hx hb dX11_greatestDivisor_18 (fun q => absurd ((pk_lEQ (b := 0) (by omega) (by omega)).mp q) (by omega)) ?_
          refine fx_tl (y := lN (x % y)) (pk_lRem (by omega) (by omega) (by omega)) ?_
          refine lv_lstore (lv' := [(5, .long (lN (x % y))), (0, .long (lN x)), (2, .long (lN y)), (4, .int (nI k))]) hx hb dX11_greatestDivisor_19 hl (by decide) rfl (fun ls hl => ?_)
          refine lv_lload_n hx hb dX11_greatestDivisor_21 rfl (lv_at hl 2 rfl) ?_
          refine lv_lstore_n (lv' := [(0, .long (lN y)), (5, .long (lN (x % y))), (2, .long (lN y)), (4, .int (nI k))]) hx hb dX11_greatestDivisor_22 rfl hl (by decide) rfl (fun ls hl => ?_)
          refine lv_lload hx hb dX11_greatestDivisor_23 (lv_at hl 1 rfl) ?_
          refine lv_lstore_n (lv' := [(2, .long (lN (x % y))), (0, .long (lN y)), (5, .long (lN (x % y))), (4, .int (nI k))]) hx hb dX11_greatestDivisor_25 rfl hl (by decide) rfl (fun ls hl => ?_)
          refine lv_iinc (v := nI (k + 1)) (lv' := [(4, .int (nI (k + 1))), (2, .long (lN (x % y))), (0, .long (lN y)), (5, .long (lN (x % y)))]) hx hb dX11_greatestDivisor_26 hl (k := 3) rfl (nI_1 _) (by decide) rfl (fun ls hl => ?_)
          refine lv_goto (tgt := 3) hx hb dX11_greatestDivisor_29 (by decide) ?_
          have hl : lv_has ls 7 [(0, .long (lN y)), (2, .long (lN (x % y))), (4, .int (nI (k + 1)))] := lv_sub hl [2, 1, 0] rfl
          exact ih_3 (k + 1) y (x % y) (by omega) hy0 (Nat.lt_of_le_of_lt (Nat.mod_le _ _) hx0) (by rw [show 100 - k = (100 - (k + 1)) + 1 from by omega, gl, if_neg c13] at hg; exact hg) (by omega) _ _ hH _ hl
  have hl : lv_has ls 7 [(0, .long (lN a)), (2, .long (lN b)), (4, .int (nI 0))] := lv_sub hl [1, 2, 0] rfl
  exact loop_3 _ 0 a b (by omega) (by omega) (by omega) rfl (Nat.lt_succ_self _) _ _ hH _ hl
