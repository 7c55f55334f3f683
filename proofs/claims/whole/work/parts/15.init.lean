abbrev rm_X6_init : Room := { frames := 1, cells := 1, slots := 40, locals := 20 }
set_option maxHeartbeats 4000000 in
set_option maxRecDepth 100000 in
theorem c_X6_init {G : GG} {base : Nat} {l : Launch} {f : Hp} {sz : Nat} {r : Nat} (h_r : f r = some (oO 6 [.null, .int 0, .int 0, .int 0])) : fx_M G base l yX6_init cX6_init 1 none rm_X6_init [.ref r] f sz none (fx_up (fx_up f sz (oI 40 (fun _ => 0))) r (oO 6 [.ref sz, .int (nI 1), .int 0, .int 0])) (sz + 1) := by
  refine fx_of (by decide +kernel) (Nat.le_of_ble_eq_true rfl) ?_
  intro p e s m args below meth c C hr hk hnm hH ls hl
  obtain ⟨locs, hlocs⟩ : ∃ L : List Loc, L = [] := ⟨_, rfl⟩
  rw [← hlocs] at hH ⊢
  generalize s.heap = H at hH ⊢
  have hx := C.1
  have hb := C.2.1
  have hl : lv_has ls 1 [(0, .ref r)] := hl
  refine lv_aload_n hx hb dX6_init_0 rfl (lv_at hl 0 rfl) ?_
  refine fx_obj C hl.1 ml_X6_3 im_obj cd_obj (Nat.le_of_ble_eq_true rfl) (Nat.le_of_ble_eq_true rfl) dX6_init_1 ?_
  refine lv_aload_n hx hb dX6_init_4 rfl (lv_at hl 0 rfl) ?_
  refine lv_bipush (v := nI 40) hx hb dX6_init_5 (by decide) ?_
  have hH0 := hH
  refine fx_newa C hH (atype := .int) (ty := .int) (t := 0) (N := 40) (x := (40, .inl (fun _ => 0))) rfl rfl (fun D q => by cases q) ac_int (fun cA => rfl) (nI_pos (by omega)) (nI_clamp (by omega)) (Nat.le_of_ble_eq_true rfl) (Nat.le_of_ble_eq_true rfl) (Nat.le_of_ble_eq_true rfl) dX6_init_7 (fun H hH => ?_)
  have hH : fx_H G base s (fx_up f sz (oI 40 (fun _ => 0))) (sz + 1) H locs := hH
  have h1_r : (fx_up f sz (oI 40 (fun _ => 0))) r = some (oO 6 [.null, .int 0, .int 0, .int 0]) := (fx_up_n _ _ (fx_nsz hH0 h_r)).trans h_r
  have hq2_r : r ≠ sz := (fx_nsz hH0 h_r)
  have h1_sz : (fx_up f sz (oI 40 (fun _ => 0))) sz = some (oI 40 (fun _ => 0)) := fx_up_s _ _ _
  refine W.widen (k := 1) (n := 40) (by omega) (by omega) ?_
  refine fx_putTF C hH hnm (k := 0) h1_r ff_X6_9_6 fL_6 fT_6_0 rfl rfl (Nat.le_of_ble_eq_true rfl) dX6_init_9 (fun H locs hH => ?_)
  have hH : fx_H G base s (fx_up (fx_up f sz (oI 40 (fun _ => 0))) r (oO 6 [.ref sz, .int 0, .int 0, .int 0])) (sz + 1) H locs := hH
  have h3_sz : (fx_up (fx_up f sz (oI 40 (fun _ => 0))) r (oO 6 [.ref sz, .int 0, .int 0, .int 0])) sz = some (oI 40 (fun _ => 0)) := (fx_up_n _ _ (Ne.symm hq2_r)).trans h1_sz
  have h3_r : (fx_up (fx_up f sz (oI 40 (fun _ => 0))) r (oO 6 [.ref sz, .int 0, .int 0, .int 0])) r = some (oO 6 [.ref sz, .int 0, .int 0, .int 0]) := fx_up_s _ _ _
  refine lv_aload_n hx hb dX6_init_12 rfl (lv_at hl 0 rfl) ?_
  refine lv_iconst (v := nI 1) hx hb dX6_init_13 (by decide) ?_
  refine fx_putT C hH (k := 1) h3_r ff_X6_15_6 fL_6 fT_6_1 rfl rfl (Nat.le_of_ble_eq_true rfl) dX6_init_14 (fun H locs hH => ?_)
  have hH : fx_H G base s (fx_up (fx_up (fx_up f sz (oI 40 (fun _ => 0))) r (oO 6 [.ref sz, .int 0, .int 0, .int 0])) r (oO 6 [.ref sz, .int (nI 1), .int 0, .int 0])) (sz + 1) H locs := hH
  rw [fx_up_up] at hH
  have hH : fx_H G base s (fx_up (fx_up f sz (oI 40 (fun _ => 0))) r (oO 6 [.ref sz, .int (nI 1), .int 0, .int 0])) (sz + 1) H locs := hH
  have heq4 : fx_up (fx_up (fx_up f sz (oI 40 (fun _ => 0))) r (oO 6 [.ref sz, .int 0, .int 0, .int 0])) r (oO 6 [.ref sz, .int (nI 1), .int 0, .int 0]) = fx_up (fx_up f sz (oI 40 (fun _ => 0))) r (oO 6 [.ref sz, .int (nI 1), .int 0, .int 0]) := by rw [fx_up_up]
  have h4_sz : (fx_up (fx_up f sz (oI 40 (fun _ => 0))) r (oO 6 [.ref sz, .int (nI 1), .int 0, .int 0])) sz = some (oI 40 (fun _ => 0)) := (congrFun heq4 sz).symm.trans ((fx_up_n _ _ (Ne.symm hq2_r)).trans h3_sz)
  have h4_r : (fx_up (fx_up f sz (oI 40 (fun _ => 0))) r (oO 6 [.ref sz, .int (nI 1), .int 0, .int 0])) r = some (oO 6 [.ref sz, .int (nI 1), .int 0, .int 0]) := (congrFun heq4 r).symm.trans (fx_up_s _ _ _)
  exact fx_vret C hr hk hH rfl rfl (Nat.le_of_ble_eq_true rfl) (Nat.le_of_ble_eq_true rfl) dX6_init_17
abbrev rm_X9_init : Room := { frames := 1, cells := 1, slots := 120, locals := 20 }
set_option maxHeartbeats 4000000 in
set_option maxRecDepth 100000 in
theorem c_X9_init {G : GG} {base : Nat} {l : Launch} {f : Hp} {sz : Nat} {t : Nat} (h_t : f t = some (oO 8 [.null, .int 0, .int 0, .int 0])) : fx_M G base l yX9_init cX9_init 1 none rm_X9_init [.ref t] f sz none (fx_up (fx_up f sz (oI 120 (fun _ => 0))) t (oO 8 [.ref sz, .int 0, .int 0, .int 0])) (sz + 1) := by
  refine fx_of (by decide +kernel) (Nat.le_of_ble_eq_true rfl) ?_
  intro p e s m args below meth c C hr hk hnm hH ls hl
  obtain ⟨locs, hlocs⟩ : ∃ L : List Loc, L = [] := ⟨_, rfl⟩
  rw [← hlocs] at hH ⊢
  generalize s.heap = H at hH ⊢
  have hx := C.1
  have hb := C.2.1
  have hl : lv_has ls 1 [(0, .ref t)] := hl
  refine lv_aload_n hx hb dX9_init_0 rfl (lv_at hl 0 rfl) ?_
  refine fx_obj C hl.1 ml_X9_3 im_obj cd_obj (Nat.le_of_ble_eq_true rfl) (Nat.le_of_ble_eq_true rfl) dX9_init_1 ?_
  refine lv_aload_n hx hb dX9_init_4 rfl (lv_at hl 0 rfl) ?_
  refine lv_bipush (v := nI 120) hx hb dX9_init_5 (by decide) ?_
  have hH0 := hH
  refine fx_newa C hH (atype := .int) (ty := .int) (t := 0) (N := 120) (x := (120, .inl (fun _ => 0))) rfl rfl (fun D q => by cases q) ac_int (fun cA => rfl) (nI_pos (by omega)) (nI_clamp (by omega)) (Nat.le_of_ble_eq_true rfl) (Nat.le_of_ble_eq_true rfl) (Nat.le_of_ble_eq_true rfl) dX9_init_7 (fun H hH => ?_)
  have hH : fx_H G base s (fx_up f sz (oI 120 (fun _ => 0))) (sz + 1) H locs := hH
  have h1_t : (fx_up f sz (oI 120 (fun _ => 0))) t = some (oO 8 [.null, .int 0, .int 0, .int 0]) := (fx_up_n _ _ (fx_nsz hH0 h_t)).trans h_t
  have hq2_t : t ≠ sz := (fx_nsz hH0 h_t)
  have h1_sz : (fx_up f sz (oI 120 (fun _ => 0))) sz = some (oI 120 (fun _ => 0)) := fx_up_s _ _ _
  refine W.widen (k := 1) (n := 120) (by omega) (by omega) ?_
  refine fx_putTF C hH hnm (k := 0) h1_t ff_X9_9_8 fL_8 fT_8_0 rfl rfl (Nat.le_of_ble_eq_true rfl) dX9_init_9 (fun H locs hH => ?_)
  have hH : fx_H G base s (fx_up (fx_up f sz (oI 120 (fun _ => 0))) t (oO 8 [.ref sz, .int 0, .int 0, .int 0])) (sz + 1) H locs := hH
  have h3_sz : (fx_up (fx_up f sz (oI 120 (fun _ => 0))) t (oO 8 [.ref sz, .int 0, .int 0, .int 0])) sz = some (oI 120 (fun _ => 0)) := (fx_up_n _ _ (Ne.symm hq2_t)).trans h1_sz
  have h3_t : (fx_up (fx_up f sz (oI 120 (fun _ => 0))) t (oO 8 [.ref sz, .int 0, .int 0, .int 0])) t = some (oO 8 [.ref sz, .int 0, .int 0, .int 0]) := fx_up_s _ _ _
  exact fx_vret C hr hk hH rfl rfl (Nat.le_of_ble_eq_true rfl) (Nat.le_of_ble_eq_true rfl) dX9_init_12
abbrev rm_X10_init : Room := { frames := 1, cells := 1, slots := 16, locals := 20 }
set_option maxHeartbeats 4000000 in
set_option maxRecDepth 100000 in
theorem c_X10_init {G : GG} {base : Nat} {l : Launch} {f : Hp} {sz : Nat} {t : Nat} (h_t : f t = some (oO 9 [.null, .int 0])) : fx_M G base l yX10_init cX10_init 1 none rm_X10_init [.ref t] f sz none (fx_up (fx_up f sz (oI 16 (fun _ => 0))) t (oO 9 [.ref sz, .int 0])) (sz + 1) := by
  refine fx_of (by decide +kernel) (Nat.le_of_ble_eq_true rfl) ?_
  intro p e s m args below meth c C hr hk hnm hH ls hl
  obtain ⟨locs, hlocs⟩ : ∃ L : List Loc, L = [] := ⟨_, rfl⟩
  rw [← hlocs] at hH ⊢
  generalize s.heap = H at hH ⊢
  have hx := C.1
  have hb := C.2.1
  have hl : lv_has ls 1 [(0, .ref t)] := hl
  refine lv_aload_n hx hb dX10_init_0 rfl (lv_at hl 0 rfl) ?_
  refine fx_obj C hl.1 ml_X10_3 im_obj cd_obj (Nat.le_of_ble_eq_true rfl) (Nat.le_of_ble_eq_true rfl) dX10_init_1 ?_
  refine lv_aload_n hx hb dX10_init_4 rfl (lv_at hl 0 rfl) ?_
  refine lv_bipush (v := nI 16) hx hb dX10_init_5 (by decide) ?_
  have hH0 := hH
  refine fx_newa C hH (atype := .int) (ty := .int) (t := 0) (N := 16) (x := (16, .inl (fun _ => 0))) rfl rfl (fun D q => by cases q) ac_int (fun cA => rfl) (nI_pos (by omega)) (nI_clamp (by omega)) (Nat.le_of_ble_eq_true rfl) (Nat.le_of_ble_eq_true rfl) (Nat.le_of_ble_eq_true rfl) dX10_init_7 (fun H hH => ?_)
  have hH : fx_H G base s (fx_up f sz (oI 16 (fun _ => 0))) (sz + 1) H locs := hH
  have h1_t : (fx_up f sz (oI 16 (fun _ => 0))) t = some (oO 9 [.null, .int 0]) := (fx_up_n _ _ (fx_nsz hH0 h_t)).trans h_t
  have hq2_t : t ≠ sz := (fx_nsz hH0 h_t)
  have h1_sz : (fx_up f sz (oI 16 (fun _ => 0))) sz = some (oI 16 (fun _ => 0)) := fx_up_s _ _ _
  refine W.widen (k := 1) (n := 16) (by omega) (by omega) ?_
  refine fx_putTF C hH hnm (k := 0) h1_t ff_X10_9_9 fL_9 fT_9_0 rfl rfl (Nat.le_of_ble_eq_true rfl) dX10_init_9 (fun H locs hH => ?_)
  have hH : fx_H G base s (fx_up (fx_up f sz (oI 16 (fun _ => 0))) t (oO 9 [.ref sz, .int 0])) (sz + 1) H locs := hH
  have h3_sz : (fx_up (fx_up f sz (oI 16 (fun _ => 0))) t (oO 9 [.ref sz, .int 0])) sz = some (oI 16 (fun _ => 0)) := (fx_up_n _ _ (Ne.symm hq2_t)).trans h1_sz
  have h3_t : (fx_up (fx_up f sz (oI 16 (fun _ => 0))) t (oO 9 [.ref sz, .int 0])) t = some (oO 9 [.ref sz, .int 0]) := fx_up_s _ _ _
  exact fx_vret C hr hk hH rfl rfl (Nat.le_of_ble_eq_true rfl) (Nat.le_of_ble_eq_true rfl) dX10_init_12
abbrev rm_X2_init : Room := { frames := 1, cells := 3, slots := 28, locals := 20 }
set_option maxHeartbeats 4000000 in
set_option maxRecDepth 100000 in
theorem c_X2_init {G : GG} {base : Nat} {l : Launch} {f : Hp} {sz : Nat} {w : Nat} (h_w : f w = some (oO 2 [.null, .null, .null, .int 0, .int 0, .int 0, .int 0, .int 0, .int 0])) : fx_M G base l yX2_init cX2_init 1 none rm_X2_init [.ref w] f sz none (fx_up (fx_up (fx_up (fx_up f sz (oI 12 (fun _ => 0))) w (oO 2 [.ref sz, .ref (sz + 1), .ref (sz + 2), .int 0, .int 0, .int 0, .int 0, .int 0, .int 0])) (sz + 1) (oI 12 (fun _ => 0))) (sz + 2) (oR 5 4 (fun _ => none))) (sz + 3) := by
  refine fx_of (by decide +kernel) (Nat.le_of_ble_eq_true rfl) ?_
  intro p e s m args below meth c C hr hk hnm hH ls hl
  obtain ⟨locs, hlocs⟩ : ∃ L : List Loc, L = [] := ⟨_, rfl⟩
  rw [← hlocs] at hH ⊢
  generalize s.heap = H at hH ⊢
  have hx := C.1
  have hb := C.2.1
  have hl : lv_has ls 1 [(0, .ref w)] := hl
  refine lv_aload_n hx hb dX2_init_0 rfl (lv_at hl 0 rfl) ?_
  refine fx_obj C hl.1 ml_X2_3 im_obj cd_obj (Nat.le_of_ble_eq_true rfl) (Nat.le_of_ble_eq_true rfl) dX2_init_1 ?_
  refine lv_aload_n hx hb dX2_init_4 rfl (lv_at hl 0 rfl) ?_
  refine lv_bipush (v := nI 12) hx hb dX2_init_5 (by decide) ?_
  have hH0 := hH
  refine fx_newa C hH (atype := .int) (ty := .int) (t := 0) (N := 12) (x := (12, .inl (fun _ => 0))) rfl rfl (fun D q => by cases q) ac_int (fun cA => rfl) (nI_pos (by omega)) (nI_clamp (by omega)) (Nat.le_of_ble_eq_true rfl) (Nat.le_of_ble_eq_true rfl) (Nat.le_of_ble_eq_true rfl) dX2_init_7 (fun H hH => ?_)
  have hH : fx_H G base s (fx_up f sz (oI 12 (fun _ => 0))) (sz + 1) H locs := hH
  have h1_w : (fx_up f sz (oI 12 (fun _ => 0))) w = some (oO 2 [.null, .null, .null, .int 0, .int 0, .int 0, .int 0, .int 0, .int 0]) := (fx_up_n _ _ (fx_nsz hH0 h_w)).trans h_w
  have hq2_w : w ≠ sz := (fx_nsz hH0 h_w)
  have h1_sz : (fx_up f sz (oI 12 (fun _ => 0))) sz = some (oI 12 (fun _ => 0)) := fx_up_s _ _ _
  refine W.widen (k := 1) (n := 12) (by omega) (by omega) ?_
  refine fx_putTF C hH hnm (k := 0) h1_w ff_X2_9_2 fL_2 fT_2_0 rfl rfl (Nat.le_of_ble_eq_true rfl) dX2_init_9 (fun H locs hH => ?_)
  have hH : fx_H G base s (fx_up (fx_up f sz (oI 12 (fun _ => 0))) w (oO 2 [.ref sz, .null, .null, .int 0, .int 0, .int 0, .int 0, .int 0, .int 0])) (sz + 1) H locs := hH
  have h3_sz : (fx_up (fx_up f sz (oI 12 (fun _ => 0))) w (oO 2 [.ref sz, .null, .null, .int 0, .int 0, .int 0, .int 0, .int 0, .int 0])) sz = some (oI 12 (fun _ => 0)) := (fx_up_n _ _ (Ne.symm hq2_w)).trans h1_sz
  have h3_w : (fx_up (fx_up f sz (oI 12 (fun _ => 0))) w (oO 2 [.ref sz, .null, .null, .int 0, .int 0, .int 0, .int 0, .int 0, .int 0])) w = some (oO 2 [.ref sz, .null, .null, .int 0, .int 0, .int 0, .int 0, .int 0, .int 0]) := fx_up_s _ _ _
  refine lv_aload_n hx hb dX2_init_12 rfl (lv_at hl 0 rfl) ?_
  refine lv_bipush (v := nI 12) hx hb dX2_init_13 (by decide) ?_
  have hH0 := hH
  refine fx_newa C hH (atype := .int) (ty := .int) (t := 0) (N := 12) (x := (12, .inl (fun _ => 0))) rfl rfl (fun D q => by cases q) ac_int (fun cA => rfl) (nI_pos (by omega)) (nI_clamp (by omega)) (Nat.le_of_ble_eq_true rfl) (Nat.le_of_ble_eq_true rfl) (Nat.le_of_ble_eq_true rfl) dX2_init_15 (fun H hH => ?_)
  have hH : fx_H G base s (fx_up (fx_up (fx_up f sz (oI 12 (fun _ => 0))) w (oO 2 [.ref sz, .null, .null, .int 0, .int 0, .int 0, .int 0, .int 0, .int 0])) (sz + 1) (oI 12 (fun _ => 0))) (sz + 2) H locs := hH
  have h4_sz : (fx_up (fx_up (fx_up f sz (oI 12 (fun _ => 0))) w (oO 2 [.ref sz, .null, .null, .int 0, .int 0, .int 0, .int 0, .int 0, .int 0])) (sz + 1) (oI 12 (fun _ => 0))) sz = some (oI 12 (fun _ => 0)) := (fx_up_n _ _ (fx_nsz hH0 h3_sz)).trans h3_sz
  have h4_w : (fx_up (fx_up (fx_up f sz (oI 12 (fun _ => 0))) w (oO 2 [.ref sz, .null, .null, .int 0, .int 0, .int 0, .int 0, .int 0, .int 0])) (sz + 1) (oI 12 (fun _ => 0))) w = some (oO 2 [.ref sz, .null, .null, .int 0, .int 0, .int 0, .int 0, .int 0, .int 0]) := (fx_up_n _ _ (fx_nsz hH0 h3_w)).trans h3_w
  have hq5_sz : sz ≠ sz + 1 := (fx_nsz hH0 h3_sz)
  have hq5_w : w ≠ sz + 1 := (fx_nsz hH0 h3_w)
  have h4_sz_1 : (fx_up (fx_up (fx_up f sz (oI 12 (fun _ => 0))) w (oO 2 [.ref sz, .null, .null, .int 0, .int 0, .int 0, .int 0, .int 0, .int 0])) (sz + 1) (oI 12 (fun _ => 0))) (sz + 1) = some (oI 12 (fun _ => 0)) := fx_up_s _ _ _
  refine W.widen (k := 2) (n := 24) (by omega) (by omega) ?_
  refine fx_putTF C hH hnm (k := 1) h4_w ff_X2_15_2 fL_2 fT_2_1 rfl rfl (Nat.le_of_ble_eq_true rfl) dX2_init_17 (fun H locs hH => ?_)
  have hH : fx_H G base s (fx_up (fx_up (fx_up (fx_up f sz (oI 12 (fun _ => 0))) w (oO 2 [.ref sz, .null, .null, .int 0, .int 0, .int 0, .int 0, .int 0, .int 0])) (sz + 1) (oI 12 (fun _ => 0))) w (oO 2 [.ref sz, .ref (sz + 1), .null, .int 0, .int 0, .int 0, .int 0, .int 0, .int 0])) (sz + 2) H locs := hH
  rw [fx_up_c _ _ _ (Ne.symm hq5_w), fx_up_up] at hH
  have hH : fx_H G base s (fx_up (fx_up (fx_up f sz (oI 12 (fun _ => 0))) w (oO 2 [.ref sz, .ref (sz + 1), .null, .int 0, .int 0, .int 0, .int 0, .int 0, .int 0])) (sz + 1) (oI 12 (fun _ => 0))) (sz + 2) H locs := hH
  have heq6 : fx_up (fx_up (fx_up (fx_up f sz (oI 12 (fun _ => 0))) w (oO 2 [.ref sz, .null, .null, .int 0, .int 0, .int 0, .int 0, .int 0, .int 0])) (sz + 1) (oI 12 (fun _ => 0))) w (oO 2 [.ref sz, .ref (sz + 1), .null, .int 0, .int 0, .int 0, .int 0, .int 0, .int 0]) = fx_up (fx_up (fx_up f sz (oI 12 (fun _ => 0))) w (oO 2 [.ref sz, .ref (sz + 1), .null, .int 0, .int 0, .int 0, .int 0, .int 0, .int 0])) (sz + 1) (oI 12 (fun _ => 0)) := by rw [fx_up_c _ _ _ (Ne.symm hq5_w), fx_up_up]
  have h6_sz : (fx_up (fx_up (fx_up f sz (oI 12 (fun _ => 0))) w (oO 2 [.ref sz, .ref (sz + 1), .null, .int 0, .int 0, .int 0, .int 0, .int 0, .int 0])) (sz + 1) (oI 12 (fun _ => 0))) sz = some (oI 12 (fun _ => 0)) := (congrFun heq6 sz).symm.trans ((fx_up_n _ _ (Ne.symm hq2_w)).trans h4_sz)
  have h6_sz_1 : (fx_up (fx_up (fx_up f sz (oI 12 (fun _ => 0))) w (oO 2 [.ref sz, .ref (sz + 1), .null, .int 0, .int 0, .int 0, .int 0, .int 0, .int 0])) (sz + 1) (oI 12 (fun _ => 0))) (sz + 1) = some (oI 12 (fun _ => 0)) := (congrFun heq6 (sz + 1)).symm.trans ((fx_up_n _ _ (Ne.symm hq5_w)).trans h4_sz_1)
  have h6_w : (fx_up (fx_up (fx_up f sz (oI 12 (fun _ => 0))) w (oO 2 [.ref sz, .ref (sz + 1), .null, .int 0, .int 0, .int 0, .int 0, .int 0, .int 0])) (sz + 1) (oI 12 (fun _ => 0))) w = some (oO 2 [.ref sz, .ref (sz + 1), .null, .int 0, .int 0, .int 0, .int 0, .int 0, .int 0]) := (congrFun heq6 w).symm.trans (fx_up_s _ _ _)
  refine lv_aload_n hx hb dX2_init_20 rfl (lv_at hl 0 rfl) ?_
  refine lv_iconst (v := nI 4) hx hb dX2_init_21 (by decide) ?_
  have hH0 := hH
  refine fx_newq C hH (t := 5) (N := 4) rfl cl_X2_18 ao_X7 (nI_pos (by omega)) (nI_clamp (by omega)) (Nat.le_of_ble_eq_true rfl) (Nat.le_of_ble_eq_true rfl) (Nat.le_of_ble_eq_true rfl) dX2_init_22 (fun H hH => ?_)
  have hH : fx_H G base s (fx_up (fx_up (fx_up (fx_up f sz (oI 12 (fun _ => 0))) w (oO 2 [.ref sz, .ref (sz + 1), .null, .int 0, .int 0, .int 0, .int 0, .int 0, .int 0])) (sz + 1) (oI 12 (fun _ => 0))) (sz + 2) (oR 5 4 (fun _ => none))) (sz + 3) H locs := hH
  have h7_sz : (fx_up (fx_up (fx_up (fx_up f sz (oI 12 (fun _ => 0))) w (oO 2 [.ref sz, .ref (sz + 1), .null, .int 0, .int 0, .int 0, .int 0, .int 0, .int 0])) (sz + 1) (oI 12 (fun _ => 0))) (sz + 2) (oR 5 4 (fun _ => none))) sz = some (oI 12 (fun _ => 0)) := (fx_up_n _ _ (fx_nsz hH0 h6_sz)).trans h6_sz
  have h7_sz_1 : (fx_up (fx_up (fx_up (fx_up f sz (oI 12 (fun _ => 0))) w (oO 2 [.ref sz, .ref (sz + 1), .null, .int 0, .int 0, .int 0, .int 0, .int 0, .int 0])) (sz + 1) (oI 12 (fun _ => 0))) (sz + 2) (oR 5 4 (fun _ => none))) (sz + 1) = some (oI 12 (fun _ => 0)) := (fx_up_n _ _ (fx_nsz hH0 h6_sz_1)).trans h6_sz_1
  have h7_w : (fx_up (fx_up (fx_up (fx_up f sz (oI 12 (fun _ => 0))) w (oO 2 [.ref sz, .ref (sz + 1), .null, .int 0, .int 0, .int 0, .int 0, .int 0, .int 0])) (sz + 1) (oI 12 (fun _ => 0))) (sz + 2) (oR 5 4 (fun _ => none))) w = some (oO 2 [.ref sz, .ref (sz + 1), .null, .int 0, .int 0, .int 0, .int 0, .int 0, .int 0]) := (fx_up_n _ _ (fx_nsz hH0 h6_w)).trans h6_w
  have hq8_sz : sz ≠ sz + 2 := (fx_nsz hH0 h6_sz)
  have hq8_sz_1 : sz + 1 ≠ sz + 2 := (fx_nsz hH0 h6_sz_1)
  have hq8_w : w ≠ sz + 2 := (fx_nsz hH0 h6_w)
  have h7_sz_2 : (fx_up (fx_up (fx_up (fx_up f sz (oI 12 (fun _ => 0))) w (oO 2 [.ref sz, .ref (sz + 1), .null, .int 0, .int 0, .int 0, .int 0, .int 0, .int 0])) (sz + 1) (oI 12 (fun _ => 0))) (sz + 2) (oR 5 4 (fun _ => none))) (sz + 2) = some (oR 5 4 (fun _ => none)) := fx_up_s _ _ _
  refine W.widen (k := 3) (n := 28) (by omega) (by omega) ?_
  refine fx_putTF C hH hnm (k := 2) h7_w ff_X2_20_2 fL_2 fT_2_2 rfl rfl (Nat.le_of_ble_eq_true rfl) dX2_init_25 (fun H locs hH => ?_)
  have hH : fx_H G base s (fx_up (fx_up (fx_up (fx_up (fx_up f sz (oI 12 (fun _ => 0))) w (oO 2 [.ref sz, .ref (sz + 1), .null, .int 0, .int 0, .int 0, .int 0, .int 0, .int 0])) (sz + 1) (oI 12 (fun _ => 0))) (sz + 2) (oR 5 4 (fun _ => none))) w (oO 2 [.ref sz, .ref (sz + 1), .ref (sz + 2), .int 0, .int 0, .int 0, .int 0, .int 0, .int 0])) (sz + 3) H locs := hH
  rw [fx_up_c _ _ _ (Ne.symm hq8_w), fx_up_c _ _ _ (Ne.symm hq5_w), fx_up_up] at hH
  have hH : fx_H G base s (fx_up (fx_up (fx_up (fx_up f sz (oI 12 (fun _ => 0))) w (oO 2 [.ref sz, .ref (sz + 1), .ref (sz + 2), .int 0, .int 0, .int 0, .int 0, .int 0, .int 0])) (sz + 1) (oI 12 (fun _ => 0))) (sz + 2) (oR 5 4 (fun _ => none))) (sz + 3) H locs := hH
  have heq9 : fx_up (fx_up (fx_up (fx_up (fx_up f sz (oI 12 (fun _ => 0))) w (oO 2 [.ref sz, .ref (sz + 1), .null, .int 0, .int 0, .int 0, .int 0, .int 0, .int 0])) (sz + 1) (oI 12 (fun _ => 0))) (sz + 2) (oR 5 4 (fun _ => none))) w (oO 2 [.ref sz, .ref (sz + 1), .ref (sz + 2), .int 0, .int 0, .int 0, .int 0, .int 0, .int 0]) = fx_up (fx_up (fx_up (fx_up f sz (oI 12 (fun _ => 0))) w (oO 2 [.ref sz, .ref (sz + 1), .ref (sz + 2), .int 0, .int 0, .int 0, .int 0, .int 0, .int 0])) (sz + 1) (oI 12 (fun _ => 0))) (sz + 2) (oR 5 4 (fun _ => none)) := by rw [fx_up_c _ _ _ (Ne.symm hq8_w), fx_up_c _ _ _ (Ne.symm hq5_w), fx_up_up]
  have h9_sz : (fx_up (fx_up (fx_up (fx_up f sz (oI 12 (fun _ => 0))) w (oO 2 [.ref sz, .ref (sz + 1), .ref (sz + 2), .int 0, .int 0, .int 0, .int 0, .int 0, .int 0])) (sz + 1) (oI 12 (fun _ => 0))) (sz + 2) (oR 5 4 (fun _ => none))) sz = some (oI 12 (fun _ => 0)) := (congrFun heq9 sz).symm.trans ((fx_up_n _ _ (Ne.symm hq2_w)).trans h7_sz)
  have h9_sz_1 : (fx_up (fx_up (fx_up (fx_up f sz (oI 12 (fun _ => 0))) w (oO 2 [.ref sz, .ref (sz + 1), .ref (sz + 2), .int 0, .int 0, .int 0, .int 0, .int 0, .int 0])) (sz + 1) (oI 12 (fun _ => 0))) (sz + 2) (oR 5 4 (fun _ => none))) (sz + 1) = some (oI 12 (fun _ => 0)) := (congrFun heq9 (sz + 1)).symm.trans ((fx_up_n _ _ (Ne.symm hq5_w)).trans h7_sz_1)
  have h9_sz_2 : (fx_up (fx_up (fx_up (fx_up f sz (oI 12 (fun _ => 0))) w (oO 2 [.ref sz, .ref (sz + 1), .ref (sz + 2), .int 0, .int 0, .int 0, .int 0, .int 0, .int 0])) (sz + 1) (oI 12 (fun _ => 0))) (sz + 2) (oR 5 4 (fun _ => none))) (sz + 2) = some (oR 5 4 (fun _ => none)) := (congrFun heq9 (sz + 2)).symm.trans ((fx_up_n _ _ (Ne.symm hq8_w)).trans h7_sz_2)
  have h9_w : (fx_up (fx_up (fx_up (fx_up f sz (oI 12 (fun _ => 0))) w (oO 2 [.ref sz, .ref (sz + 1), .ref (sz + 2), .int 0, .int 0, .int 0, .int 0, .int 0, .int 0])) (sz + 1) (oI 12 (fun _ => 0))) (sz + 2) (oR 5 4 (fun _ => none))) w = some (oO 2 [.ref sz, .ref (sz + 1), .ref (sz + 2), .int 0, .int 0, .int 0, .int 0, .int 0, .int 0]) := (congrFun heq9 w).symm.trans (fx_up_s _ _ _)
  exact fx_vret C hr hk hH rfl rfl (Nat.le_of_ble_eq_true rfl) (Nat.le_of_ble_eq_true rfl) dX2_init_28
abbrev rm_X4_init : Room := { frames := 1, cells := 1, slots := 13, locals := 20 }
set_option maxHeartbeats 4000000 in
set_option maxRecDepth 100000 in
theorem c_X4_init {G : GG} {base : Nat} {l : Launch} {f : Hp} {sz : Nat} {r : Nat} {w : Nat} (h_r : f r = some (oO 4 [.null, .null, .int 0, .int 0, .int 0, .int 0, .int 0, .int 0])) : fx_M G base l yX4_init cX4_init 2 none rm_X4_init [.ref r, .ref w] f sz none (fx_up (fx_up f sz (oJ 13 (fun _ => 0))) r (oO 4 [.ref sz, .ref w, .int 0, .int (nI 1), .int 0, .int 0, .int 0, .int (-1000000)])) (sz + 1) := by
  refine fx_of (by decide +kernel) (Nat.le_of_ble_eq_true rfl) ?_
  intro p e s m args below meth c C hr hk hnm hH ls hl
  obtain ⟨locs, hlocs⟩ : ∃ L : List Loc, L = [] := ⟨_, rfl⟩
  rw [← hlocs] at hH ⊢
  generalize s.heap = H at hH ⊢
  have hx := C.1
  have hb := C.2.1
  have hl : lv_has ls 2 [(0, .ref r), (1, .ref w)] := hl
  refine lv_aload_n hx hb dX4_init_0 rfl (lv_at hl 0 rfl) ?_
  refine fx_obj C hl.1 ml_X4_3 im_obj cd_obj (Nat.le_of_ble_eq_true rfl) (Nat.le_of_ble_eq_true rfl) dX4_init_1 ?_
  refine lv_aload_n hx hb dX4_init_4 rfl (lv_at hl 0 rfl) ?_
  refine lv_bipush (v := nI 13) hx hb dX4_init_5 (by decide) ?_
  have hH0 := hH
  refine fx_newa C hH (atype := .long) (ty := .long) (t := 1) (N := 13) (x := (13, .inr (.inl (fun _ => 0)))) rfl rfl (fun D q => by cases q) ac_long (fun cA => rfl) (nI_pos (by omega)) (nI_clamp (by omega)) (Nat.le_of_ble_eq_true rfl) (Nat.le_of_ble_eq_true rfl) (Nat.le_of_ble_eq_true rfl) dX4_init_7 (fun H hH => ?_)
  have hH : fx_H G base s (fx_up f sz (oJ 13 (fun _ => 0))) (sz + 1) H locs := hH
  have h1_r : (fx_up f sz (oJ 13 (fun _ => 0))) r = some (oO 4 [.null, .null, .int 0, .int 0, .int 0, .int 0, .int 0, .int 0]) := (fx_up_n _ _ (fx_nsz hH0 h_r)).trans h_r
  have hq2_r : r ≠ sz := (fx_nsz hH0 h_r)
  have h1_sz : (fx_up f sz (oJ 13 (fun _ => 0))) sz = some (oJ 13 (fun _ => 0)) := fx_up_s _ _ _
  refine W.widen (k := 1) (n := 13) (by omega) (by omega) ?_
  refine fx_putTF C hH hnm (k := 0) h1_r ff_X4_9_4 fL_4 fT_4_0 rfl rfl (Nat.le_of_ble_eq_true rfl) dX4_init_9 (fun H locs hH => ?_)
  have hH : fx_H G base s (fx_up (fx_up f sz (oJ 13 (fun _ => 0))) r (oO 4 [.ref sz, .null, .int 0, .int 0, .int 0, .int 0, .int 0, .int 0])) (sz + 1) H locs := hH
  have h3_sz : (fx_up (fx_up f sz (oJ 13 (fun _ => 0))) r (oO 4 [.ref sz, .null, .int 0, .int 0, .int 0, .int 0, .int 0, .int 0])) sz = some (oJ 13 (fun _ => 0)) := (fx_up_n _ _ (Ne.symm hq2_r)).trans h1_sz
  have h3_r : (fx_up (fx_up f sz (oJ 13 (fun _ => 0))) r (oO 4 [.ref sz, .null, .int 0, .int 0, .int 0, .int 0, .int 0, .int 0])) r = some (oO 4 [.ref sz, .null, .int 0, .int 0, .int 0, .int 0, .int 0, .int 0]) := fx_up_s _ _ _
  refine lv_aload_n hx hb dX4_init_12 rfl (lv_at hl 0 rfl) ?_
  refine lv_iconst (v := nI 1) hx hb dX4_init_13 (by decide) ?_
  refine fx_putT C hH (k := 3) h3_r ff_X4_15_4 fL_4 fT_4_3 rfl rfl (Nat.le_of_ble_eq_true rfl) dX4_init_14 (fun H locs hH => ?_)
  have hH : fx_H G base s (fx_up (fx_up (fx_up f sz (oJ 13 (fun _ => 0))) r (oO 4 [.ref sz, .null, .int 0, .int 0, .int 0, .int 0, .int 0, .int 0])) r (oO 4 [.ref sz, .null, .int 0, .int (nI 1), .int 0, .int 0, .int 0, .int 0])) (sz + 1) H locs := hH
  rw [fx_up_up] at hH
  have hH : fx_H G base s (fx_up (fx_up f sz (oJ 13 (fun _ => 0))) r (oO 4 [.ref sz, .null, .int 0, .int (nI 1), .int 0, .int 0, .int 0, .int 0])) (sz + 1) H locs := hH
  have heq4 : fx_up (fx_up (fx_up f sz (oJ 13 (fun _ => 0))) r (oO 4 [.ref sz, .null, .int 0, .int 0, .int 0, .int 0, .int 0, .int 0])) r (oO 4 [.ref sz, .null, .int 0, .int (nI 1), .int 0, .int 0, .int 0, .int 0]) = fx_up (fx_up f sz (oJ 13 (fun _ => 0))) r (oO 4 [.ref sz, .null, .int 0, .int (nI 1), .int 0, .int 0, .int 0, .int 0]) := by rw [fx_up_up]
  have h4_sz : (fx_up (fx_up f sz (oJ 13 (fun _ => 0))) r (oO 4 [.ref sz, .null, .int 0, .int (nI 1), .int 0, .int 0, .int 0, .int 0])) sz = some (oJ 13 (fun _ => 0)) := (congrFun heq4 sz).symm.trans ((fx_up_n _ _ (Ne.symm hq2_r)).trans h3_sz)
  have h4_r : (fx_up (fx_up f sz (oJ 13 (fun _ => 0))) r (oO 4 [.ref sz, .null, .int 0, .int (nI 1), .int 0, .int 0, .int 0, .int 0])) r = some (oO 4 [.ref sz, .null, .int 0, .int (nI 1), .int 0, .int 0, .int 0, .int 0]) := (congrFun heq4 r).symm.trans (fx_up_s _ _ _)
  refine lv_aload_n hx hb dX4_init_17 rfl (lv_at hl 0 rfl) ?_
  refine lv_ldc (v := (-1000000)) hx hb C.2.2.2.1 (C.2.2.2.2.1 _ kI_X4_19 rfl args) dX4_init_18 ?_
  refine fx_putT C hH (k := 7) h4_r ff_X4_20_4 fL_4 fT_4_7 rfl rfl (Nat.le_of_ble_eq_true rfl) dX4_init_20 (fun H locs hH => ?_)
  have hH : fx_H G base s (fx_up (fx_up (fx_up f sz (oJ 13 (fun _ => 0))) r (oO 4 [.ref sz, .null, .int 0, .int (nI 1), .int 0, .int 0, .int 0, .int 0])) r (oO 4 [.ref sz, .null, .int 0, .int (nI 1), .int 0, .int 0, .int 0, .int (-1000000)])) (sz + 1) H locs := hH
  rw [fx_up_up] at hH
  have hH : fx_H G base s (fx_up (fx_up f sz (oJ 13 (fun _ => 0))) r (oO 4 [.ref sz, .null, .int 0, .int (nI 1), .int 0, .int 0, .int 0, .int (-1000000)])) (sz + 1) H locs := hH
  have heq5 : fx_up (fx_up (fx_up f sz (oJ 13 (fun _ => 0))) r (oO 4 [.ref sz, .null, .int 0, .int (nI 1), .int 0, .int 0, .int 0, .int 0])) r (oO 4 [.ref sz, .null, .int 0, .int (nI 1), .int 0, .int 0, .int 0, .int (-1000000)]) = fx_up (fx_up f sz (oJ 13 (fun _ => 0))) r (oO 4 [.ref sz, .null, .int 0, .int (nI 1), .int 0, .int 0, .int 0, .int (-1000000)]) := by rw [fx_up_up]
  have h5_sz : (fx_up (fx_up f sz (oJ 13 (fun _ => 0))) r (oO 4 [.ref sz, .null, .int 0, .int (nI 1), .int 0, .int 0, .int 0, .int (-1000000)])) sz = some (oJ 13 (fun _ => 0)) := (congrFun heq5 sz).symm.trans ((fx_up_n _ _ (Ne.symm hq2_r)).trans h4_sz)
  have h5_r : (fx_up (fx_up f sz (oJ 13 (fun _ => 0))) r (oO 4 [.ref sz, .null, .int 0, .int (nI 1), .int 0, .int 0, .int 0, .int (-1000000)])) r = some (oO 4 [.ref sz, .null, .int 0, .int (nI 1), .int 0, .int 0, .int 0, .int (-1000000)]) := (congrFun heq5 r).symm.trans (fx_up_s _ _ _)
  refine lv_aload_n hx hb dX4_init_23 rfl (lv_at hl 0 rfl) ?_
  refine lv_aload_n hx hb dX4_init_24 rfl (lv_at hl 1 rfl) ?_
  refine fx_putT C hH (k := 1) h5_r ff_X4_23_4 fL_4 fT_4_1 rfl rfl (Nat.le_of_ble_eq_true rfl) dX4_init_25 (fun H locs hH => ?_)
  have hH : fx_H G base s (fx_up (fx_up (fx_up f sz (oJ 13 (fun _ => 0))) r (oO 4 [.ref sz, .null, .int 0, .int (nI 1), .int 0, .int 0, .int 0, .int (-1000000)])) r (oO 4 [.ref sz, .ref w, .int 0, .int (nI 1), .int 0, .int 0, .int 0, .int (-1000000)])) (sz + 1) H locs := hH
  rw [fx_up_up] at hH
  have hH : fx_H G base s (fx_up (fx_up f sz (oJ 13 (fun _ => 0))) r (oO 4 [.ref sz, .ref w, .int 0, .int (nI 1), .int 0, .int 0, .int 0, .int (-1000000)])) (sz + 1) H locs := hH
  have heq6 : fx_up (fx_up (fx_up f sz (oJ 13 (fun _ => 0))) r (oO 4 [.ref sz, .null, .int 0, .int (nI 1), .int 0, .int 0, .int 0, .int (-1000000)])) r (oO 4 [.ref sz, .ref w, .int 0, .int (nI 1), .int 0, .int 0, .int 0, .int (-1000000)]) = fx_up (fx_up f sz (oJ 13 (fun _ => 0))) r (oO 4 [.ref sz, .ref w, .int 0, .int (nI 1), .int 0, .int 0, .int 0, .int (-1000000)]) := by rw [fx_up_up]
  have h6_sz : (fx_up (fx_up f sz (oJ 13 (fun _ => 0))) r (oO 4 [.ref sz, .ref w, .int 0, .int (nI 1), .int 0, .int 0, .int 0, .int (-1000000)])) sz = some (oJ 13 (fun _ => 0)) := (congrFun heq6 sz).symm.trans ((fx_up_n _ _ (Ne.symm hq2_r)).trans h5_sz)
  have h6_r : (fx_up (fx_up f sz (oJ 13 (fun _ => 0))) r (oO 4 [.ref sz, .ref w, .int 0, .int (nI 1), .int 0, .int 0, .int 0, .int (-1000000)])) r = some (oO 4 [.ref sz, .ref w, .int 0, .int (nI 1), .int 0, .int 0, .int 0, .int (-1000000)]) := (congrFun heq6 r).symm.trans (fx_up_s _ _ _)
  exact fx_vret C hr hk hH rfl rfl (Nat.le_of_ble_eq_true rfl) (Nat.le_of_ble_eq_true rfl) dX4_init_28
abbrev rm_X7_init : Room := { frames := 1, cells := 0, slots := 0, locals := 20 }
set_option maxHeartbeats 4000000 in
set_option maxRecDepth 100000 in
theorem c_X7_init_Back {G : GG} {base : Nat} {l : Launch} {f : Hp} {sz : Nat} {o : Nat} {n : Int32} {w : Int32} {a : Int32} (h_o : f o = some (oO 0 [.int 0, .int 0, .int 0])) : fx_M G base l yX7_init cX7_init 4 none rm_X7_init [.ref o, .int n, .int w, .int a] f sz none (fx_up f o (oO 0 [.int n, .int w, .int a])) sz := by
  refine fx_of (by decide +kernel) (Nat.le_of_ble_eq_true rfl) ?_
  intro p e s m args below meth c C hr hk hnm hH ls hl
  obtain ⟨locs, hlocs⟩ : ∃ L : List Loc, L = [] := ⟨_, rfl⟩
  rw [← hlocs] at hH ⊢
  generalize s.heap = H at hH ⊢
  have hx := C.1
  have hb := C.2.1
  have hl : lv_has ls 4 [(0, .ref o), (1, .int n), (2, .int w), (3, .int a)] := hl
  refine lv_aload_n hx hb dX7_init_0 rfl (lv_at hl 0 rfl) ?_
  refine fx_obj C hl.1 ml_X7_1 im_obj cd_obj (Nat.le_of_ble_eq_true rfl) (Nat.le_of_ble_eq_true rfl) dX7_init_1 ?_
  refine lv_aload_n hx hb dX7_init_4 rfl (lv_at hl 0 rfl) ?_
  refine lv_iload_n hx hb dX7_init_5 rfl (lv_at hl 1 rfl) ?_
  refine fx_putTF C hH hnm (k := 0) h_o ff_X7_7_0 fL_0 fT_0_0 rfl rfl (Nat.le_of_ble_eq_true rfl) dX7_init_6 (fun H locs hH => ?_)
  have hH : fx_H G base s (fx_up f o (oO 0 [.int n, .int 0, .int 0])) sz H locs := hH
  have h1_o : (fx_up f o (oO 0 [.int n, .int 0, .int 0])) o = some (oO 0 [.int n, .int 0, .int 0]) := fx_up_s _ _ _
  refine lv_aload_n hx hb dX7_init_9 rfl (lv_at hl 0 rfl) ?_
  refine lv_iload_n hx hb dX7_init_10 rfl (lv_at hl 2 rfl) ?_
  refine fx_putTF C hH hnm (k := 1) h1_o ff_X7_13_0 fL_0 fT_0_1 rfl rfl (Nat.le_of_ble_eq_true rfl) dX7_init_11 (fun H locs hH => ?_)
  have hH : fx_H G base s (fx_up (fx_up f o (oO 0 [.int n, .int 0, .int 0])) o (oO 0 [.int n, .int w, .int 0])) sz H locs := hH
  rw [fx_up_up] at hH
  have hH : fx_H G base s (fx_up f o (oO 0 [.int n, .int w, .int 0])) sz H locs := hH
  have heq2 : fx_up (fx_up f o (oO 0 [.int n, .int 0, .int 0])) o (oO 0 [.int n, .int w, .int 0]) = fx_up f o (oO 0 [.int n, .int w, .int 0]) := by rw [fx_up_up]
  have h2_o : (fx_up f o (oO 0 [.int n, .int w, .int 0])) o = some (oO 0 [.int n, .int w, .int 0]) := (congrFun heq2 o).symm.trans (fx_up_s _ _ _)
  refine lv_aload_n hx hb dX7_init_14 rfl (lv_at hl 0 rfl) ?_
  refine lv_iload_n hx hb dX7_init_15 rfl (lv_at hl 3 rfl) ?_
  refine fx_putTF C hH hnm (k := 2) h2_o ff_X7_16_0 fL_0 fT_0_2 rfl rfl (Nat.le_of_ble_eq_true rfl) dX7_init_16 (fun H locs hH => ?_)
  have hH : fx_H G base s (fx_up (fx_up f o (oO 0 [.int n, .int w, .int 0])) o (oO 0 [.int n, .int w, .int a])) sz H locs := hH
  rw [fx_up_up] at hH
  have hH : fx_H G base s (fx_up f o (oO 0 [.int n, .int w, .int a])) sz H locs := hH
  have heq3 : fx_up (fx_up f o (oO 0 [.int n, .int w, .int 0])) o (oO 0 [.int n, .int w, .int a]) = fx_up f o (oO 0 [.int n, .int w, .int a]) := by rw [fx_up_up]
  have h3_o : (fx_up f o (oO 0 [.int n, .int w, .int a])) o = some (oO 0 [.int n, .int w, .int a]) := (congrFun heq3 o).symm.trans (fx_up_s _ _ _)
  exact fx_vret C hr hk hH rfl rfl (Nat.zero_le _) (Nat.zero_le _) dX7_init_19
set_option maxHeartbeats 4000000 in
set_option maxRecDepth 100000 in
theorem c_X7_init_Lamp {G : GG} {base : Nat} {l : Launch} {f : Hp} {sz : Nat} {o : Nat} {n : Int32} {w : Int32} {a : Int32} (h_o : f o = some (oO 1 [.int 0, .int 0, .int 0])) : fx_M G base l yX7_init cX7_init 4 none rm_X7_init [.ref o, .int n, .int w, .int a] f sz none (fx_up f o (oO 1 [.int n, .int w, .int a])) sz := by
  refine fx_of (by decide +kernel) (Nat.le_of_ble_eq_true rfl) ?_
  intro p e s m args below meth c C hr hk hnm hH ls hl
  obtain ⟨locs, hlocs⟩ : ∃ L : List Loc, L = [] := ⟨_, rfl⟩
  rw [← hlocs] at hH ⊢
  generalize s.heap = H at hH ⊢
  have hx := C.1
  have hb := C.2.1
  have hl : lv_has ls 4 [(0, .ref o), (1, .int n), (2, .int w), (3, .int a)] := hl
  refine lv_aload_n hx hb dX7_init_0 rfl (lv_at hl 0 rfl) ?_
  refine fx_obj C hl.1 ml_X7_1 im_obj cd_obj (Nat.le_of_ble_eq_true rfl) (Nat.le_of_ble_eq_true rfl) dX7_init_1 ?_
  refine lv_aload_n hx hb dX7_init_4 rfl (lv_at hl 0 rfl) ?_
  refine lv_iload_n hx hb dX7_init_5 rfl (lv_at hl 1 rfl) ?_
  refine fx_putTF C hH hnm (k := 0) h_o ff_X7_7_1 fL_1 fT_1_0 rfl rfl (Nat.le_of_ble_eq_true rfl) dX7_init_6 (fun H locs hH => ?_)
  have hH : fx_H G base s (fx_up f o (oO 1 [.int n, .int 0, .int 0])) sz H locs := hH
  have h1_o : (fx_up f o (oO 1 [.int n, .int 0, .int 0])) o = some (oO 1 [.int n, .int 0, .int 0]) := fx_up_s _ _ _
  refine lv_aload_n hx hb dX7_init_9 rfl (lv_at hl 0 rfl) ?_
  refine lv_iload_n hx hb dX7_init_10 rfl (lv_at hl 2 rfl) ?_
  refine fx_putTF C hH hnm (k := 1) h1_o ff_X7_13_1 fL_1 fT_1_1 rfl rfl (Nat.le_of_ble_eq_true rfl) dX7_init_11 (fun H locs hH => ?_)
  have hH : fx_H G base s (fx_up (fx_up f o (oO 1 [.int n, .int 0, .int 0])) o (oO 1 [.int n, .int w, .int 0])) sz H locs := hH
  rw [fx_up_up] at hH
  have hH : fx_H G base s (fx_up f o (oO 1 [.int n, .int w, .int 0])) sz H locs := hH
  have heq2 : fx_up (fx_up f o (oO 1 [.int n, .int 0, .int 0])) o (oO 1 [.int n, .int w, .int 0]) = fx_up f o (oO 1 [.int n, .int w, .int 0]) := by rw [fx_up_up]
  have h2_o : (fx_up f o (oO 1 [.int n, .int w, .int 0])) o = some (oO 1 [.int n, .int w, .int 0]) := (congrFun heq2 o).symm.trans (fx_up_s _ _ _)
  refine lv_aload_n hx hb dX7_init_14 rfl (lv_at hl 0 rfl) ?_
  refine lv_iload_n hx hb dX7_init_15 rfl (lv_at hl 3 rfl) ?_
  refine fx_putTF C hH hnm (k := 2) h2_o ff_X7_16_1 fL_1 fT_1_2 rfl rfl (Nat.le_of_ble_eq_true rfl) dX7_init_16 (fun H locs hH => ?_)
  have hH : fx_H G base s (fx_up (fx_up f o (oO 1 [.int n, .int w, .int 0])) o (oO 1 [.int n, .int w, .int a])) sz H locs := hH
  rw [fx_up_up] at hH
  have hH : fx_H G base s (fx_up f o (oO 1 [.int n, .int w, .int a])) sz H locs := hH
  have heq3 : fx_up (fx_up f o (oO 1 [.int n, .int w, .int 0])) o (oO 1 [.int n, .int w, .int a]) = fx_up f o (oO 1 [.int n, .int w, .int a]) := by rw [fx_up_up]
  have h3_o : (fx_up f o (oO 1 [.int n, .int w, .int a])) o = some (oO 1 [.int n, .int w, .int a]) := (congrFun heq3 o).symm.trans (fx_up_s _ _ _)
  exact fx_vret C hr hk hH rfl rfl (Nat.zero_le _) (Nat.zero_le _) dX7_init_19
set_option maxHeartbeats 4000000 in
set_option maxRecDepth 100000 in
theorem c_X7_init_Likeliest {G : GG} {base : Nat} {l : Launch} {f : Hp} {sz : Nat} {o : Nat} {n : Int32} {w : Int32} {a : Int32} (h_o : f o = some (oO 3 [.int 0, .int 0, .int 0])) : fx_M G base l yX7_init cX7_init 4 none rm_X7_init [.ref o, .int n, .int w, .int a] f sz none (fx_up f o (oO 3 [.int n, .int w, .int a])) sz := by
  refine fx_of (by decide +kernel) (Nat.le_of_ble_eq_true rfl) ?_
  intro p e s m args below meth c C hr hk hnm hH ls hl
  obtain ⟨locs, hlocs⟩ : ∃ L : List Loc, L = [] := ⟨_, rfl⟩
  rw [← hlocs] at hH ⊢
  generalize s.heap = H at hH ⊢
  have hx := C.1
  have hb := C.2.1
  have hl : lv_has ls 4 [(0, .ref o), (1, .int n), (2, .int w), (3, .int a)] := hl
  refine lv_aload_n hx hb dX7_init_0 rfl (lv_at hl 0 rfl) ?_
  refine fx_obj C hl.1 ml_X7_1 im_obj cd_obj (Nat.le_of_ble_eq_true rfl) (Nat.le_of_ble_eq_true rfl) dX7_init_1 ?_
  refine lv_aload_n hx hb dX7_init_4 rfl (lv_at hl 0 rfl) ?_
  refine lv_iload_n hx hb dX7_init_5 rfl (lv_at hl 1 rfl) ?_
  refine fx_putTF C hH hnm (k := 0) h_o ff_X7_7_3 fL_3 fT_3_0 rfl rfl (Nat.le_of_ble_eq_true rfl) dX7_init_6 (fun H locs hH => ?_)
  have hH : fx_H G base s (fx_up f o (oO 3 [.int n, .int 0, .int 0])) sz H locs := hH
  have h1_o : (fx_up f o (oO 3 [.int n, .int 0, .int 0])) o = some (oO 3 [.int n, .int 0, .int 0]) := fx_up_s _ _ _
  refine lv_aload_n hx hb dX7_init_9 rfl (lv_at hl 0 rfl) ?_
  refine lv_iload_n hx hb dX7_init_10 rfl (lv_at hl 2 rfl) ?_
  refine fx_putTF C hH hnm (k := 1) h1_o ff_X7_13_3 fL_3 fT_3_1 rfl rfl (Nat.le_of_ble_eq_true rfl) dX7_init_11 (fun H locs hH => ?_)
  have hH : fx_H G base s (fx_up (fx_up f o (oO 3 [.int n, .int 0, .int 0])) o (oO 3 [.int n, .int w, .int 0])) sz H locs := hH
  rw [fx_up_up] at hH
  have hH : fx_H G base s (fx_up f o (oO 3 [.int n, .int w, .int 0])) sz H locs := hH
  have heq2 : fx_up (fx_up f o (oO 3 [.int n, .int 0, .int 0])) o (oO 3 [.int n, .int w, .int 0]) = fx_up f o (oO 3 [.int n, .int w, .int 0]) := by rw [fx_up_up]
  have h2_o : (fx_up f o (oO 3 [.int n, .int w, .int 0])) o = some (oO 3 [.int n, .int w, .int 0]) := (congrFun heq2 o).symm.trans (fx_up_s _ _ _)
  refine lv_aload_n hx hb dX7_init_14 rfl (lv_at hl 0 rfl) ?_
  refine lv_iload_n hx hb dX7_init_15 rfl (lv_at hl 3 rfl) ?_
  refine fx_putTF C hH hnm (k := 2) h2_o ff_X7_16_3 fL_3 fT_3_2 rfl rfl (Nat.le_of_ble_eq_true rfl) dX7_init_16 (fun H locs hH => ?_)
  have hH : fx_H G base s (fx_up (fx_up f o (oO 3 [.int n, .int w, .int 0])) o (oO 3 [.int n, .int w, .int a])) sz H locs := hH
  rw [fx_up_up] at hH
  have hH : fx_H G base s (fx_up f o (oO 3 [.int n, .int w, .int a])) sz H locs := hH
  have heq3 : fx_up (fx_up f o (oO 3 [.int n, .int w, .int 0])) o (oO 3 [.int n, .int w, .int a]) = fx_up f o (oO 3 [.int n, .int w, .int a]) := by rw [fx_up_up]
  have h3_o : (fx_up f o (oO 3 [.int n, .int w, .int a])) o = some (oO 3 [.int n, .int w, .int a]) := (congrFun heq3 o).symm.trans (fx_up_s _ _ _)
  exact fx_vret C hr hk hH rfl rfl (Nat.zero_le _) (Nat.zero_le _) dX7_init_19
set_option maxHeartbeats 4000000 in
set_option maxRecDepth 100000 in
theorem c_X7_init_Round {G : GG} {base : Nat} {l : Launch} {f : Hp} {sz : Nat} {o : Nat} {n : Int32} {w : Int32} {a : Int32} (h_o : f o = some (oO 5 [.int 0, .int 0, .int 0])) : fx_M G base l yX7_init cX7_init 4 none rm_X7_init [.ref o, .int n, .int w, .int a] f sz none (fx_up f o (oO 5 [.int n, .int w, .int a])) sz := by
  refine fx_of (by decide +kernel) (Nat.le_of_ble_eq_true rfl) ?_
  intro p e s m args below meth c C hr hk hnm hH ls hl
  obtain ⟨locs, hlocs⟩ : ∃ L : List Loc, L = [] := ⟨_, rfl⟩
  rw [← hlocs] at hH ⊢
  generalize s.heap = H at hH ⊢
  have hx := C.1
  have hb := C.2.1
  have hl : lv_has ls 4 [(0, .ref o), (1, .int n), (2, .int w), (3, .int a)] := hl
  refine lv_aload_n hx hb dX7_init_0 rfl (lv_at hl 0 rfl) ?_
  refine fx_obj C hl.1 ml_X7_1 im_obj cd_obj (Nat.le_of_ble_eq_true rfl) (Nat.le_of_ble_eq_true rfl) dX7_init_1 ?_
  refine lv_aload_n hx hb dX7_init_4 rfl (lv_at hl 0 rfl) ?_
  refine lv_iload_n hx hb dX7_init_5 rfl (lv_at hl 1 rfl) ?_
  refine fx_putTF C hH hnm (k := 0) h_o ff_X7_7_5 fL_5 fT_5_0 rfl rfl (Nat.le_of_ble_eq_true rfl) dX7_init_6 (fun H locs hH => ?_)
  have hH : fx_H G base s (fx_up f o (oO 5 [.int n, .int 0, .int 0])) sz H locs := hH
  have h1_o : (fx_up f o (oO 5 [.int n, .int 0, .int 0])) o = some (oO 5 [.int n, .int 0, .int 0]) := fx_up_s _ _ _
  refine lv_aload_n hx hb dX7_init_9 rfl (lv_at hl 0 rfl) ?_
  refine lv_iload_n hx hb dX7_init_10 rfl (lv_at hl 2 rfl) ?_
  refine fx_putTF C hH hnm (k := 1) h1_o ff_X7_13_5 fL_5 fT_5_1 rfl rfl (Nat.le_of_ble_eq_true rfl) dX7_init_11 (fun H locs hH => ?_)
  have hH : fx_H G base s (fx_up (fx_up f o (oO 5 [.int n, .int 0, .int 0])) o (oO 5 [.int n, .int w, .int 0])) sz H locs := hH
  rw [fx_up_up] at hH
  have hH : fx_H G base s (fx_up f o (oO 5 [.int n, .int w, .int 0])) sz H locs := hH
  have heq2 : fx_up (fx_up f o (oO 5 [.int n, .int 0, .int 0])) o (oO 5 [.int n, .int w, .int 0]) = fx_up f o (oO 5 [.int n, .int w, .int 0]) := by rw [fx_up_up]
  have h2_o : (fx_up f o (oO 5 [.int n, .int w, .int 0])) o = some (oO 5 [.int n, .int w, .int 0]) := (congrFun heq2 o).symm.trans (fx_up_s _ _ _)
  refine lv_aload_n hx hb dX7_init_14 rfl (lv_at hl 0 rfl) ?_
  refine lv_iload_n hx hb dX7_init_15 rfl (lv_at hl 3 rfl) ?_
  refine fx_putTF C hH hnm (k := 2) h2_o ff_X7_16_5 fL_5 fT_5_2 rfl rfl (Nat.le_of_ble_eq_true rfl) dX7_init_16 (fun H locs hH => ?_)
  have hH : fx_H G base s (fx_up (fx_up f o (oO 5 [.int n, .int w, .int 0])) o (oO 5 [.int n, .int w, .int a])) sz H locs := hH
  rw [fx_up_up] at hH
  have hH : fx_H G base s (fx_up f o (oO 5 [.int n, .int w, .int a])) sz H locs := hH
  have heq3 : fx_up (fx_up f o (oO 5 [.int n, .int w, .int 0])) o (oO 5 [.int n, .int w, .int a]) = fx_up f o (oO 5 [.int n, .int w, .int a]) := by rw [fx_up_up]
  have h3_o : (fx_up f o (oO 5 [.int n, .int w, .int a])) o = some (oO 5 [.int n, .int w, .int a]) := (congrFun heq3 o).symm.trans (fx_up_s _ _ _)
  exact fx_vret C hr hk hH rfl rfl (Nat.zero_le _) (Nat.zero_le _) dX7_init_19
set_option maxHeartbeats 4000000 in
set_option maxRecDepth 100000 in
theorem c_X7_init_Tabs {G : GG} {base : Nat} {l : Launch} {f : Hp} {sz : Nat} {o : Nat} {n : Int32} {w : Int32} {a : Int32} (h_o : f o = some (oO 7 [.int 0, .int 0, .int 0])) : fx_M G base l yX7_init cX7_init 4 none rm_X7_init [.ref o, .int n, .int w, .int a] f sz none (fx_up f o (oO 7 [.int n, .int w, .int a])) sz := by
  refine fx_of (by decide +kernel) (Nat.le_of_ble_eq_true rfl) ?_
  intro p e s m args below meth c C hr hk hnm hH ls hl
  obtain ⟨locs, hlocs⟩ : ∃ L : List Loc, L = [] := ⟨_, rfl⟩
  rw [← hlocs] at hH ⊢
  generalize s.heap = H at hH ⊢
  have hx := C.1
  have hb := C.2.1
  have hl : lv_has ls 4 [(0, .ref o), (1, .int n), (2, .int w), (3, .int a)] := hl
  refine lv_aload_n hx hb dX7_init_0 rfl (lv_at hl 0 rfl) ?_
  refine fx_obj C hl.1 ml_X7_1 im_obj cd_obj (Nat.le_of_ble_eq_true rfl) (Nat.le_of_ble_eq_true rfl) dX7_init_1 ?_
  refine lv_aload_n hx hb dX7_init_4 rfl (lv_at hl 0 rfl) ?_
  refine lv_iload_n hx hb dX7_init_5 rfl (lv_at hl 1 rfl) ?_
  refine fx_putTF C hH hnm (k := 0) h_o ff_X7_7_7 fL_7 fT_7_0 rfl rfl (Nat.le_of_ble_eq_true rfl) dX7_init_6 (fun H locs hH => ?_)
  have hH : fx_H G base s (fx_up f o (oO 7 [.int n, .int 0, .int 0])) sz H locs := hH
  have h1_o : (fx_up f o (oO 7 [.int n, .int 0, .int 0])) o = some (oO 7 [.int n, .int 0, .int 0]) := fx_up_s _ _ _
  refine lv_aload_n hx hb dX7_init_9 rfl (lv_at hl 0 rfl) ?_
  refine lv_iload_n hx hb dX7_init_10 rfl (lv_at hl 2 rfl) ?_
  refine fx_putTF C hH hnm (k := 1) h1_o ff_X7_13_7 fL_7 fT_7_1 rfl rfl (Nat.le_of_ble_eq_true rfl) dX7_init_11 (fun H locs hH => ?_)
  have hH : fx_H G base s (fx_up (fx_up f o (oO 7 [.int n, .int 0, .int 0])) o (oO 7 [.int n, .int w, .int 0])) sz H locs := hH
  rw [fx_up_up] at hH
  have hH : fx_H G base s (fx_up f o (oO 7 [.int n, .int w, .int 0])) sz H locs := hH
  have heq2 : fx_up (fx_up f o (oO 7 [.int n, .int 0, .int 0])) o (oO 7 [.int n, .int w, .int 0]) = fx_up f o (oO 7 [.int n, .int w, .int 0]) := by rw [fx_up_up]
  have h2_o : (fx_up f o (oO 7 [.int n, .int w, .int 0])) o = some (oO 7 [.int n, .int w, .int 0]) := (congrFun heq2 o).symm.trans (fx_up_s _ _ _)
  refine lv_aload_n hx hb dX7_init_14 rfl (lv_at hl 0 rfl) ?_
  refine lv_iload_n hx hb dX7_init_15 rfl (lv_at hl 3 rfl) ?_
  refine fx_putTF C hH hnm (k := 2) h2_o ff_X7_16_7 fL_7 fT_7_2 rfl rfl (Nat.le_of_ble_eq_true rfl) dX7_init_16 (fun H locs hH => ?_)
  have hH : fx_H G base s (fx_up (fx_up f o (oO 7 [.int n, .int w, .int 0])) o (oO 7 [.int n, .int w, .int a])) sz H locs := hH
  rw [fx_up_up] at hH
  have hH : fx_H G base s (fx_up f o (oO 7 [.int n, .int w, .int a])) sz H locs := hH
  have heq3 : fx_up (fx_up f o (oO 7 [.int n, .int w, .int 0])) o (oO 7 [.int n, .int w, .int a]) = fx_up f o (oO 7 [.int n, .int w, .int a]) := by rw [fx_up_up]
  have h3_o : (fx_up f o (oO 7 [.int n, .int w, .int a])) o = some (oO 7 [.int n, .int w, .int a]) := (congrFun heq3 o).symm.trans (fx_up_s _ _ _)
  exact fx_vret C hr hk hH rfl rfl (Nat.zero_le _) (Nat.zero_le _) dX7_init_19
abbrev rm_X5_init : Room := { frames := 2, cells := 0, slots := 0, locals := 43 }
set_option maxHeartbeats 4000000 in
set_option maxRecDepth 100000 in
theorem c_X5_init_Back {G : GG} {base : Nat} {l : Launch} {f : Hp} {sz : Nat} {o : Nat} {n : Int32} {w : Int32} {a : Int32} (h_o : f o = some (oO 0 [.int 0, .int 0, .int 0])) : fx_M G base l yX5_init cX5_init 4 none rm_X5_init [.ref o, .int n, .int w, .int a] f sz none (fx_up f o (oO 0 [.int n, .int w, .int a])) sz := by
  refine fx_of (by decide +kernel) (Nat.le_of_ble_eq_true rfl) ?_
  intro p e s m args below meth c C hr hk hnm hH ls hl
  obtain ⟨locs, hlocs⟩ : ∃ L : List Loc, L = [] := ⟨_, rfl⟩
  rw [← hlocs] at hH ⊢
  generalize s.heap = H at hH ⊢
  have hx := C.1
  have hb := C.2.1
  have hl : lv_has ls 4 [(0, .ref o), (1, .int n), (2, .int w), (3, .int a)] := hl
  refine lv_aload_n hx hb dX5_init_0 rfl (lv_at hl 0 rfl) ?_
  refine lv_iload_n hx hb dX5_init_1 rfl (lv_at hl 1 rfl) ?_
  refine lv_iload_n hx hb dX5_init_2 rfl (lv_at hl 2 rfl) ?_
  refine lv_iload_n hx hb dX5_init_3 rfl (lv_at hl 3 rfl) ?_
  refine fx_go0 hH (fx_runI C hH hl.1 (As := [.int n, .int w, .int a]) (rest := []) (c_X7_init_Back (G := G) (base := base) (l := l) (f := f) (sz := sz) (o := o) (n := n) (w := w) (a := a) h_o) mY_X7_init ml_X5_1 im_X7_init rfl rfl ⟨(Nat.le_of_ble_eq_true rfl), (Nat.le_of_ble_eq_true rfl)⟩ rfl (Nat.le_of_ble_eq_true rfl) ⟨(Nat.le_of_ble_eq_true rfl), (Nat.le_of_ble_eq_true rfl)⟩ dX5_init_4) (fun H locs hH => ?_)
  have hH : fx_H G base s (fx_up f o (oO 0 [.int n, .int w, .int a])) sz H locs := hH
  have h1_o : (fx_up f o (oO 0 [.int n, .int w, .int a])) o = some (oO 0 [.int n, .int w, .int a]) := fx_up_s _ _ _
  have hH : fx_H G base s (fx_up f o (oO 0 [.int n, .int w, .int a])) sz H locs := hH
  exact fx_vret C hr hk hH rfl rfl (Nat.zero_le _) (Nat.zero_le _) dX5_init_7
set_option maxHeartbeats 4000000 in
set_option maxRecDepth 100000 in
theorem c_X5_init_Lamp {G : GG} {base : Nat} {l : Launch} {f : Hp} {sz : Nat} {o : Nat} {n : Int32} {w : Int32} {a : Int32} (h_o : f o = some (oO 1 [.int 0, .int 0, .int 0])) : fx_M G base l yX5_init cX5_init 4 none rm_X5_init [.ref o, .int n, .int w, .int a] f sz none (fx_up f o (oO 1 [.int n, .int w, .int a])) sz := by
  refine fx_of (by decide +kernel) (Nat.le_of_ble_eq_true rfl) ?_
  intro p e s m args below meth c C hr hk hnm hH ls hl
  obtain ⟨locs, hlocs⟩ : ∃ L : List Loc, L = [] := ⟨_, rfl⟩
  rw [← hlocs] at hH ⊢
  generalize s.heap = H at hH ⊢
  have hx := C.1
  have hb := C.2.1
  have hl : lv_has ls 4 [(0, .ref o), (1, .int n), (2, .int w), (3, .int a)] := hl
  refine lv_aload_n hx hb dX5_init_0 rfl (lv_at hl 0 rfl) ?_
  refine lv_iload_n hx hb dX5_init_1 rfl (lv_at hl 1 rfl) ?_
  refine lv_iload_n hx hb dX5_init_2 rfl (lv_at hl 2 rfl) ?_
  refine lv_iload_n hx hb dX5_init_3 rfl (lv_at hl 3 rfl) ?_
  refine fx_go0 hH (fx_runI C hH hl.1 (As := [.int n, .int w, .int a]) (rest := []) (c_X7_init_Lamp (G := G) (base := base) (l := l) (f := f) (sz := sz) (o := o) (n := n) (w := w) (a := a) h_o) mY_X7_init ml_X5_1 im_X7_init rfl rfl ⟨(Nat.le_of_ble_eq_true rfl), (Nat.le_of_ble_eq_true rfl)⟩ rfl (Nat.le_of_ble_eq_true rfl) ⟨(Nat.le_of_ble_eq_true rfl), (Nat.le_of_ble_eq_true rfl)⟩ dX5_init_4) (fun H locs hH => ?_)
  have hH : fx_H G base s (fx_up f o (oO 1 [.int n, .int w, .int a])) sz H locs := hH
  have h1_o : (fx_up f o (oO 1 [.int n, .int w, .int a])) o = some (oO 1 [.int n, .int w, .int a]) := fx_up_s _ _ _
  have hH : fx_H G base s (fx_up f o (oO 1 [.int n, .int w, .int a])) sz H locs := hH
  exact fx_vret C hr hk hH rfl rfl (Nat.zero_le _) (Nat.zero_le _) dX5_init_7
set_option maxHeartbeats 4000000 in
set_option maxRecDepth 100000 in
theorem c_X5_init_Round {G : GG} {base : Nat} {l : Launch} {f : Hp} {sz : Nat} {o : Nat} {n : Int32} {w : Int32} {a : Int32} (h_o : f o = some (oO 5 [.int 0, .int 0, .int 0])) : fx_M G base l yX5_init cX5_init 4 none rm_X5_init [.ref o, .int n, .int w, .int a] f sz none (fx_up f o (oO 5 [.int n, .int w, .int a])) sz := by
  refine fx_of (by decide +kernel) (Nat.le_of_ble_eq_true rfl) ?_
  intro p e s m args below meth c C hr hk hnm hH ls hl
  obtain ⟨locs, hlocs⟩ : ∃ L : List Loc, L = [] := ⟨_, rfl⟩
  rw [← hlocs] at hH ⊢
  generalize s.heap = H at hH ⊢
  have hx := C.1
  have hb := C.2.1
  have hl : lv_has ls 4 [(0, .ref o), (1, .int n), (2, .int w), (3, .int a)] := hl
  refine lv_aload_n hx hb dX5_init_0 rfl (lv_at hl 0 rfl) ?_
  refine lv_iload_n hx hb dX5_init_1 rfl (lv_at hl 1 rfl) ?_
  refine lv_iload_n hx hb dX5_init_2 rfl (lv_at hl 2 rfl) ?_
  refine lv_iload_n hx hb dX5_init_3 rfl (lv_at hl 3 rfl) ?_
  refine fx_go0 hH (fx_runI C hH hl.1 (As := [.int n, .int w, .int a]) (rest := []) (c_X7_init_Round (G := G) (base := base) (l := l) (f := f) (sz := sz) (o := o) (n := n) (w := w) (a := a) h_o) mY_X7_init ml_X5_1 im_X7_init rfl rfl ⟨(Nat.le_of_ble_eq_true rfl), (Nat.le_of_ble_eq_true rfl)⟩ rfl (Nat.le_of_ble_eq_true rfl) ⟨(Nat.le_of_ble_eq_true rfl), (Nat.le_of_ble_eq_true rfl)⟩ dX5_init_4) (fun H locs hH => ?_)
  have hH : fx_H G base s (fx_up f o (oO 5 [.int n, .int w, .int a])) sz H locs := hH
  have h1_o : (fx_up f o (oO 5 [.int n, .int w, .int a])) o = some (oO 5 [.int n, .int w, .int a]) := fx_up_s _ _ _
  have hH : fx_H G base s (fx_up f o (oO 5 [.int n, .int w, .int a])) sz H locs := hH
  exact fx_vret C hr hk hH rfl rfl (Nat.zero_le _) (Nat.zero_le _) dX5_init_7
abbrev rm_X3_init : Room := { frames := 2, cells := 0, slots := 0, locals := 43 }
set_option maxHeartbeats 4000000 in
set_option maxRecDepth 100000 in
theorem c_X3_init_Likeliest {G : GG} {base : Nat} {l : Launch} {f : Hp} {sz : Nat} {o : Nat} {n : Int32} {w : Int32} {a : Int32} (h_o : f o = some (oO 3 [.int 0, .int 0, .int 0])) : fx_M G base l yX3_init cX3_init 4 none rm_X3_init [.ref o, .int n, .int w, .int a] f sz none (fx_up f o (oO 3 [.int n, .int w, .int a])) sz := by
  refine fx_of (by decide +kernel) (Nat.le_of_ble_eq_true rfl) ?_
  intro p e s m args below meth c C hr hk hnm hH ls hl
  obtain ⟨locs, hlocs⟩ : ∃ L : List Loc, L = [] := ⟨_, rfl⟩
  rw [← hlocs] at hH ⊢
  generalize s.heap = H at hH ⊢
  have hx := C.1
  have hb := C.2.1
  have hl : lv_has ls 4 [(0, .ref o), (1, .int n), (2, .int w), (3, .int a)] := hl
  refine lv_aload_n hx hb dX3_init_0 rfl (lv_at hl 0 rfl) ?_
  refine lv_iload_n hx hb dX3_init_1 rfl (lv_at hl 1 rfl) ?_
  refine lv_iload_n hx hb dX3_init_2 rfl (lv_at hl 2 rfl) ?_
  refine lv_iload_n hx hb dX3_init_3 rfl (lv_at hl 3 rfl) ?_
  refine fx_go0 hH (fx_runI C hH hl.1 (As := [.int n, .int w, .int a]) (rest := []) (c_X7_init_Likeliest (G := G) (base := base) (l := l) (f := f) (sz := sz) (o := o) (n := n) (w := w) (a := a) h_o) mY_X7_init ml_X3_1 im_X7_init rfl rfl ⟨(Nat.le_of_ble_eq_true rfl), (Nat.le_of_ble_eq_true rfl)⟩ rfl (Nat.le_of_ble_eq_true rfl) ⟨(Nat.le_of_ble_eq_true rfl), (Nat.le_of_ble_eq_true rfl)⟩ dX3_init_4) (fun H locs hH => ?_)
  have hH : fx_H G base s (fx_up f o (oO 3 [.int n, .int w, .int a])) sz H locs := hH
  have h1_o : (fx_up f o (oO 3 [.int n, .int w, .int a])) o = some (oO 3 [.int n, .int w, .int a]) := fx_up_s _ _ _
  have hH : fx_H G base s (fx_up f o (oO 3 [.int n, .int w, .int a])) sz H locs := hH
  exact fx_vret C hr hk hH rfl rfl (Nat.zero_le _) (Nat.zero_le _) dX3_init_7
set_option maxHeartbeats 4000000 in
set_option maxRecDepth 100000 in
theorem c_X3_init_Tabs {G : GG} {base : Nat} {l : Launch} {f : Hp} {sz : Nat} {o : Nat} {n : Int32} {w : Int32} {a : Int32} (h_o : f o = some (oO 7 [.int 0, .int 0, .int 0])) : fx_M G base l yX3_init cX3_init 4 none rm_X3_init [.ref o, .int n, .int w, .int a] f sz none (fx_up f o (oO 7 [.int n, .int w, .int a])) sz := by
  refine fx_of (by decide +kernel) (Nat.le_of_ble_eq_true rfl) ?_
  intro p e s m args below meth c C hr hk hnm hH ls hl
  obtain ⟨locs, hlocs⟩ : ∃ L : List Loc, L = [] := ⟨_, rfl⟩
  rw [← hlocs] at hH ⊢
  generalize s.heap = H at hH ⊢
  have hx := C.1
  have hb := C.2.1
  have hl : lv_has ls 4 [(0, .ref o), (1, .int n), (2, .int w), (3, .int a)] := hl
  refine lv_aload_n hx hb dX3_init_0 rfl (lv_at hl 0 rfl) ?_
  refine lv_iload_n hx hb dX3_init_1 rfl (lv_at hl 1 rfl) ?_
  refine lv_iload_n hx hb dX3_init_2 rfl (lv_at hl 2 rfl) ?_
  refine lv_iload_n hx hb dX3_init_3 rfl (lv_at hl 3 rfl) ?_
  refine fx_go0 hH (fx_runI C hH hl.1 (As := [.int n, .int w, .int a]) (rest := []) (c_X7_init_Tabs (G := G) (base := base) (l := l) (f := f) (sz := sz) (o := o) (n := n) (w := w) (a := a) h_o) mY_X7_init ml_X3_1 im_X7_init rfl rfl ⟨(Nat.le_of_ble_eq_true rfl), (Nat.le_of_ble_eq_true rfl)⟩ rfl (Nat.le_of_ble_eq_true rfl) ⟨(Nat.le_of_ble_eq_true rfl), (Nat.le_of_ble_eq_true rfl)⟩ dX3_init_4) (fun H locs hH => ?_)
  have hH : fx_H G base s (fx_up f o (oO 7 [.int n, .int w, .int a])) sz H locs := hH
  have h1_o : (fx_up f o (oO 7 [.int n, .int w, .int a])) o = some (oO 7 [.int n, .int w, .int a]) := fx_up_s _ _ _
  have hH : fx_H G base s (fx_up f o (oO 7 [.int n, .int w, .int a])) sz H locs := hH
  exact fx_vret C hr hk hH rfl rfl (Nat.zero_le _) (Nat.zero_le _) dX3_init_7
abbrev rm_X0_init : Room := { frames := 3, cells := 0, slots := 0, locals := 66 }
set_option maxHeartbeats 4000000 in
set_option maxRecDepth 100000 in
theorem c_X0_init {G : GG} {base : Nat} {l : Launch} {f : Hp} {sz : Nat} {o : Nat} {n : Int32} {w : Int32} {a : Int32} (h_o : f o = some (oO 0 [.int 0, .int 0, .int 0])) : fx_M G base l yX0_init cX0_init 4 none rm_X0_init [.ref o, .int n, .int w, .int a] f sz none (fx_up f o (oO 0 [.int n, .int w, .int a])) sz := by
  refine fx_of (by decide +kernel) (Nat.le_of_ble_eq_true rfl) ?_
  intro p e s m args below meth c C hr hk hnm hH ls hl
  obtain ⟨locs, hlocs⟩ : ∃ L : List Loc, L = [] := ⟨_, rfl⟩
  rw [← hlocs] at hH ⊢
  generalize s.heap = H at hH ⊢
  have hx := C.1
  have hb := C.2.1
  have hl : lv_has ls 4 [(0, .ref o), (1, .int n), (2, .int w), (3, .int a)] := hl
  refine lv_aload_n hx hb dX0_init_0 rfl (lv_at hl 0 rfl) ?_
  refine lv_iload_n hx hb dX0_init_1 rfl (lv_at hl 1 rfl) ?_
  refine lv_iload_n hx hb dX0_init_2 rfl (lv_at hl 2 rfl) ?_
  refine lv_iload_n hx hb dX0_init_3 rfl (lv_at hl 3 rfl) ?_
  refine fx_go0 hH (fx_runI C hH hl.1 (As := [.int n, .int w, .int a]) (rest := []) (c_X5_init_Back (G := G) (base := base) (l := l) (f := f) (sz := sz) (o := o) (n := n) (w := w) (a := a) h_o) mY_X5_init ml_X0_1 im_X5_init rfl rfl ⟨(Nat.le_of_ble_eq_true rfl), (Nat.le_of_ble_eq_true rfl)⟩ rfl (Nat.le_of_ble_eq_true rfl) ⟨(Nat.le_of_ble_eq_true rfl), (Nat.le_of_ble_eq_true rfl)⟩ dX0_init_4) (fun H locs hH => ?_)
  have hH : fx_H G base s (fx_up f o (oO 0 [.int n, .int w, .int a])) sz H locs := hH
  have h1_o : (fx_up f o (oO 0 [.int n, .int w, .int a])) o = some (oO 0 [.int n, .int w, .int a]) := fx_up_s _ _ _
  have hH : fx_H G base s (fx_up f o (oO 0 [.int n, .int w, .int a])) sz H locs := hH
  exact fx_vret C hr hk hH rfl rfl (Nat.zero_le _) (Nat.zero_le _) dX0_init_7
abbrev rm_X1_init : Room := { frames := 3, cells := 0, slots := 0, locals := 66 }
set_option maxHeartbeats 4000000 in
set_option maxRecDepth 100000 in
theorem c_X1_init {G : GG} {base : Nat} {l : Launch} {f : Hp} {sz : Nat} {o : Nat} {n : Int32} {w : Int32} {a : Int32} (h_o : f o = some (oO 1 [.int 0, .int 0, .int 0])) : fx_M G base l yX1_init cX1_init 4 none rm_X1_init [.ref o, .int n, .int w, .int a] f sz none (fx_up f o (oO 1 [.int n, .int w, .int a])) sz := by
  refine fx_of (by decide +kernel) (Nat.le_of_ble_eq_true rfl) ?_
  intro p e s m args below meth c C hr hk hnm hH ls hl
  obtain ⟨locs, hlocs⟩ : ∃ L : List Loc, L = [] := ⟨_, rfl⟩
  rw [← hlocs] at hH ⊢
  generalize s.heap = H at hH ⊢
  have hx := C.1
  have hb := C.2.1
  have hl : lv_has ls 4 [(0, .ref o), (1, .int n), (2, .int w), (3, .int a)] := hl
  refine lv_aload_n hx hb dX1_init_0 rfl (lv_at hl 0 rfl) ?_
  refine lv_iload_n hx hb dX1_init_1 rfl (lv_at hl 1 rfl) ?_
  refine lv_iload_n hx hb dX1_init_2 rfl (lv_at hl 2 rfl) ?_
  refine lv_iload_n hx hb dX1_init_3 rfl (lv_at hl 3 rfl) ?_
  refine fx_go0 hH (fx_runI C hH hl.1 (As := [.int n, .int w, .int a]) (rest := []) (c_X5_init_Lamp (G := G) (base := base) (l := l) (f := f) (sz := sz) (o := o) (n := n) (w := w) (a := a) h_o) mY_X5_init ml_X1_1 im_X5_init rfl rfl ⟨(Nat.le_of_ble_eq_true rfl), (Nat.le_of_ble_eq_true rfl)⟩ rfl (Nat.le_of_ble_eq_true rfl) ⟨(Nat.le_of_ble_eq_true rfl), (Nat.le_of_ble_eq_true rfl)⟩ dX1_init_4) (fun H locs hH => ?_)
  have hH : fx_H G base s (fx_up f o (oO 1 [.int n, .int w, .int a])) sz H locs := hH
  have h1_o : (fx_up f o (oO 1 [.int n, .int w, .int a])) o = some (oO 1 [.int n, .int w, .int a]) := fx_up_s _ _ _
  have hH : fx_H G base s (fx_up f o (oO 1 [.int n, .int w, .int a])) sz H locs := hH
  exact fx_vret C hr hk hH rfl rfl (Nat.zero_le _) (Nat.zero_le _) dX1_init_7
abbrev rm_X8_init : Room := { frames := 3, cells := 0, slots := 0, locals := 66 }
set_option maxHeartbeats 4000000 in
set_option maxRecDepth 100000 in
theorem c_X8_init {G : GG} {base : Nat} {l : Launch} {f : Hp} {sz : Nat} {o : Nat} {n : Int32} {w : Int32} {a : Int32} (h_o : f o = some (oO 7 [.int 0, .int 0, .int 0])) : fx_M G base l yX8_init cX8_init 4 none rm_X8_init [.ref o, .int n, .int w, .int a] f sz none (fx_up f o (oO 7 [.int n, .int w, .int a])) sz := by
  refine fx_of (by decide +kernel) (Nat.le_of_ble_eq_true rfl) ?_
  intro p e s m args below meth c C hr hk hnm hH ls hl
  obtain ⟨locs, hlocs⟩ : ∃ L : List Loc, L = [] := ⟨_, rfl⟩
  rw [← hlocs] at hH ⊢
  generalize s.heap = H at hH ⊢
  have hx := C.1
  have hb := C.2.1
  have hl : lv_has ls 4 [(0, .ref o), (1, .int n), (2, .int w), (3, .int a)] := hl
  refine lv_aload_n hx hb dX8_init_0 rfl (lv_at hl 0 rfl) ?_
  refine lv_iload_n hx hb dX8_init_1 rfl (lv_at hl 1 rfl) ?_
  refine lv_iload_n hx hb dX8_init_2 rfl (lv_at hl 2 rfl) ?_
  refine lv_iload_n hx hb dX8_init_3 rfl (lv_at hl 3 rfl) ?_
  refine fx_go0 hH (fx_runI C hH hl.1 (As := [.int n, .int w, .int a]) (rest := []) (c_X3_init_Tabs (G := G) (base := base) (l := l) (f := f) (sz := sz) (o := o) (n := n) (w := w) (a := a) h_o) mY_X3_init ml_X8_3 im_X3_init rfl rfl ⟨(Nat.le_of_ble_eq_true rfl), (Nat.le_of_ble_eq_true rfl)⟩ rfl (Nat.le_of_ble_eq_true rfl) ⟨(Nat.le_of_ble_eq_true rfl), (Nat.le_of_ble_eq_true rfl)⟩ dX8_init_4) (fun H locs hH => ?_)
  have hH : fx_H G base s (fx_up f o (oO 7 [.int n, .int w, .int a])) sz H locs := hH
  have h1_o : (fx_up f o (oO 7 [.int n, .int w, .int a])) o = some (oO 7 [.int n, .int w, .int a]) := fx_up_s _ _ _
  have hH : fx_H G base s (fx_up f o (oO 7 [.int n, .int w, .int a])) sz H locs := hH
  exact fx_vret C hr hk hH rfl rfl (Nat.zero_le _) (Nat.zero_le _) dX8_init_7
