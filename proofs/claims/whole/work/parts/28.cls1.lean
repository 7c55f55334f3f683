abbrev rm_X11_isOfKind : Room := { frames := 0, cells := 0, slots := 0, locals := 0 }
set_option maxHeartbeats 4000000 in
set_option maxRecDepth 100000 in
theorem c_X11_isOfKind_1_0 {G : GG} {base : Nat} {l : Launch} {f : Hp} {sz : Nat} {o : Nat} {nn : Int32} {wi : Int32} {ag : Int32} (h_o : f o = some (oO 5 [.int nn, .int wi, .int ag])) : fx_M G base l yX11_isOfKind cX11_isOfKind 2 (some .boolean) rm_X11_isOfKind [.ref o, .int (nI 0)] f sz (some (.int (nI 1))) f sz := by
  refine fx_of (by decide +kernel) (Nat.le_of_ble_eq_true rfl) ?_
  intro p e s m args below meth c C hr hk hnm hH ls hl
  obtain ⟨locs, hlocs⟩ : ∃ L : List Loc, L = [] := ⟨_, rfl⟩
  rw [← hlocs] at hH ⊢
  generalize s.heap = H at hH ⊢
  have hx := C.1
  have hb := C.2.1
  have hl : lv_has ls 2 [(0, .ref o), (1, .int (nI 0))] := hl
  refine lv_iload_n hx hb dX11_isOfKind_0 rfl (lv_at hl 1 rfl) ?_
  refine lv_tableIn (off := 39) (tgt := 40) hx hb dX11_isOfKind_1 (by decide) (by decide) (by decide) (by decide) ?_
  refine lv_iconst (v := nI 1) hx hb dX11_isOfKind_40 (by decide) ?_
  exact fx_zret C hr hk hH (by decide) rfl rfl rfl (Nat.zero_le _) (Nat.zero_le _) dX11_isOfKind_41
set_option maxHeartbeats 4000000 in
set_option maxRecDepth 100000 in
theorem c_X11_isOfKind_1_1 {G : GG} {base : Nat} {l : Launch} {f : Hp} {sz : Nat} {o : Nat} {nn : Int32} {wi : Int32} {ag : Int32} (h_o : f o = some (oO 5 [.int nn, .int wi, .int ag])) : fx_M G base l yX11_isOfKind cX11_isOfKind 2 (some .boolean) rm_X11_isOfKind [.ref o, .int (nI 1)] f sz (some (.int (nI 1))) f sz := by
  refine fx_of (by decide +kernel) (Nat.le_of_ble_eq_true rfl) ?_
  intro p e s m args below meth c C hr hk hnm hH ls hl
  obtain ⟨locs, hlocs⟩ : ∃ L : List Loc, L = [] := ⟨_, rfl⟩
  rw [← hlocs] at hH ⊢
  generalize s.heap = H at hH ⊢
  have hx := C.1
  have hb := C.2.1
  have hl : lv_has ls 2 [(0, .ref o), (1, .int (nI 1))] := hl
  refine lv_iload_n hx hb dX11_isOfKind_0 rfl (lv_at hl 1 rfl) ?_
  refine lv_tableIn (off := 41) (tgt := 42) hx hb dX11_isOfKind_1 (by decide) (by decide) (by decide) (by decide) ?_
  refine lv_aload_n hx hb dX11_isOfKind_42 rfl (lv_at hl 0 rfl) ?_
  refine fx_instS C hH h_o rfl cl_X11_339 dX11_isOfKind_43 ?_
  refine fx_ti (y := nI 1) (by decide) ?_
  exact fx_zret C hr hk hH (by decide) rfl rfl rfl (Nat.zero_le _) (Nat.zero_le _) dX11_isOfKind_46
set_option maxHeartbeats 4000000 in
set_option maxRecDepth 100000 in
theorem c_X11_isOfKind_1_2 {G : GG} {base : Nat} {l : Launch} {f : Hp} {sz : Nat} {o : Nat} {nn : Int32} {wi : Int32} {ag : Int32} (h_o : f o = some (oO 5 [.int nn, .int wi, .int ag])) : fx_M G base l yX11_isOfKind cX11_isOfKind 2 (some .boolean) rm_X11_isOfKind [.ref o, .int (nI 2)] f sz (some (.int (nI 0))) f sz := by
  refine fx_of (by decide +kernel) (Nat.le_of_ble_eq_true rfl) ?_
  intro p e s m args below meth c C hr hk hnm hH ls hl
  obtain ⟨locs, hlocs⟩ : ∃ L : List Loc, L = [] := ⟨_, rfl⟩
  rw [← hlocs] at hH ⊢
  generalize s.heap = H at hH ⊢
  have hx := C.1
  have hb := C.2.1
  have hl : lv_has ls 2 [(0, .ref o), (1, .int (nI 2))] := hl
  refine lv_iload_n hx hb dX11_isOfKind_0 rfl (lv_at hl 1 rfl) ?_
  refine lv_tableIn (off := 46) (tgt := 47) hx hb dX11_isOfKind_1 (by decide) (by decide) (by decide) (by decide) ?_
  refine lv_aload_n hx hb dX11_isOfKind_47 rfl (lv_at hl 0 rfl) ?_
  refine fx_instN C hH h_o rfl cl_X11_341 (by decide +kernel) dX11_isOfKind_48 ?_
  refine fx_ti (y := nI 0) (by decide) ?_
  exact fx_zret C hr hk hH (by decide) rfl rfl rfl (Nat.zero_le _) (Nat.zero_le _) dX11_isOfKind_51
set_option maxHeartbeats 4000000 in
set_option maxRecDepth 100000 in
theorem c_X11_isOfKind_1_3 {G : GG} {base : Nat} {l : Launch} {f : Hp} {sz : Nat} {o : Nat} {nn : Int32} {wi : Int32} {ag : Int32} (h_o : f o = some (oO 5 [.int nn, .int wi, .int ag])) : fx_M G base l yX11_isOfKind cX11_isOfKind 2 (some .boolean) rm_X11_isOfKind [.ref o, .int (nI 3)] f sz (some (.int (nI 0))) f sz := by
  refine fx_of (by decide +kernel) (Nat.le_of_ble_eq_true rfl) ?_
  intro p e s m args below meth c C hr hk hnm hH ls hl
  obtain ⟨locs, hlocs⟩ : ∃ L : List Loc, L = [] := ⟨_, rfl⟩
  rw [← hlocs] at hH ⊢
  generalize s.heap = H at hH ⊢
  have hx := C.1
  have hb := C.2.1
  have hl : lv_has ls 2 [(0, .ref o), (1, .int (nI 3))] := hl
  refine lv_iload_n hx hb dX11_isOfKind_0 rfl (lv_at hl 1 rfl) ?_
  refine lv_tableIn (off := 51) (tgt := 52) hx hb dX11_isOfKind_1 (by decide) (by decide) (by decide) (by decide) ?_
  refine lv_aload_n hx hb dX11_isOfKind_52 rfl (lv_at hl 0 rfl) ?_
  refine fx_instN C hH h_o rfl cl_X11_343 (by decide +kernel) dX11_isOfKind_53 ?_
  refine fx_ti (y := nI 0) (by decide) ?_
  exact fx_zret C hr hk hH (by decide) rfl rfl rfl (Nat.zero_le _) (Nat.zero_le _) dX11_isOfKind_56
set_option maxHeartbeats 4000000 in
set_option maxRecDepth 100000 in
theorem c_X11_isOfKind_1_4 {G : GG} {base : Nat} {l : Launch} {f : Hp} {sz : Nat} {o : Nat} {nn : Int32} {wi : Int32} {ag : Int32} (h_o : f o = some (oO 5 [.int nn, .int wi, .int ag])) : fx_M G base l yX11_isOfKind cX11_isOfKind 2 (some .boolean) rm_X11_isOfKind [.ref o, .int (nI 4)] f sz (some (.int (nI 0))) f sz := by
  refine fx_of (by decide +kernel) (Nat.le_of_ble_eq_true rfl) ?_
  intro p e s m args below meth c C hr hk hnm hH ls hl
  obtain ⟨locs, hlocs⟩ : ∃ L : List Loc, L = [] := ⟨_, rfl⟩
  rw [← hlocs] at hH ⊢
  generalize s.heap = H at hH ⊢
  have hx := C.1
  have hb := C.2.1
  have hl : lv_has ls 2 [(0, .ref o), (1, .int (nI 4))] := hl
  refine lv_iload_n hx hb dX11_isOfKind_0 rfl (lv_at hl 1 rfl) ?_
  refine lv_tableIn (off := 56) (tgt := 57) hx hb dX11_isOfKind_1 (by decide) (by decide) (by decide) (by decide) ?_
  refine lv_aload_n hx hb dX11_isOfKind_57 rfl (lv_at hl 0 rfl) ?_
  refine fx_instN C hH h_o rfl cl_X11_345 (by decide +kernel) dX11_isOfKind_58 ?_
  refine fx_ti (y := nI 0) (by decide) ?_
  exact fx_zret C hr hk hH (by decide) rfl rfl rfl (Nat.zero_le _) (Nat.zero_le _) dX11_isOfKind_61
set_option maxHeartbeats 4000000 in
set_option maxRecDepth 100000 in
theorem c_X11_isOfKind_1_5 {G : GG} {base : Nat} {l : Launch} {f : Hp} {sz : Nat} {o : Nat} {nn : Int32} {wi : Int32} {ag : Int32} (h_o : f o = some (oO 5 [.int nn, .int wi, .int ag])) : fx_M G base l yX11_isOfKind cX11_isOfKind 2 (some .boolean) rm_X11_isOfKind [.ref o, .int (nI 5)] f sz (some (.int (nI 0))) f sz := by
  refine fx_of (by decide +kernel) (Nat.le_of_ble_eq_true rfl) ?_
  intro p e s m args below meth c C hr hk hnm hH ls hl
  obtain ⟨locs, hlocs⟩ : ∃ L : List Loc, L = [] := ⟨_, rfl⟩
  rw [← hlocs] at hH ⊢
  generalize s.heap = H at hH ⊢
  have hx := C.1
  have hb := C.2.1
  have hl : lv_has ls 2 [(0, .ref o), (1, .int (nI 5))] := hl
  refine lv_iload_n hx hb dX11_isOfKind_0 rfl (lv_at hl 1 rfl) ?_
  refine lv_tableIn (off := 61) (tgt := 62) hx hb dX11_isOfKind_1 (by decide) (by decide) (by decide) (by decide) ?_
  refine lv_aload_n hx hb dX11_isOfKind_62 rfl (lv_at hl 0 rfl) ?_
  refine fx_instN C hH h_o rfl cl_X11_347 (by decide +kernel) dX11_isOfKind_63 ?_
  refine fx_ti (y := nI 0) (by decide) ?_
  exact fx_zret C hr hk hH (by decide) rfl rfl rfl (Nat.zero_le _) (Nat.zero_le _) dX11_isOfKind_66
set_option maxHeartbeats 4000000 in
set_option maxRecDepth 100000 in
theorem c_X11_isOfKind_2_0 {G : GG} {base : Nat} {l : Launch} {f : Hp} {sz : Nat} {o : Nat} {nn : Int32} {wi : Int32} {ag : Int32} (h_o : f o = some (oO 0 [.int nn, .int wi, .int ag])) : fx_M G base l yX11_isOfKind cX11_isOfKind 2 (some .boolean) rm_X11_isOfKind [.ref o, .int (nI 0)] f sz (some (.int (nI 1))) f sz := by
  refine fx_of (by decide +kernel) (Nat.le_of_ble_eq_true rfl) ?_
  intro p e s m args below meth c C hr hk hnm hH ls hl
  obtain ⟨locs, hlocs⟩ : ∃ L : List Loc, L = [] := ⟨_, rfl⟩
  rw [← hlocs] at hH ⊢
  generalize s.heap = H at hH ⊢
  have hx := C.1
  have hb := C.2.1
  have hl : lv_has ls 2 [(0, .ref o), (1, .int (nI 0))] := hl
  refine lv_iload_n hx hb dX11_isOfKind_0 rfl (lv_at hl 1 rfl) ?_
  refine lv_tableIn (off := 39) (tgt := 40) hx hb dX11_isOfKind_1 (by decide) (by decide) (by decide) (by decide) ?_
  refine lv_iconst (v := nI 1) hx hb dX11_isOfKind_40 (by decide) ?_
  exact fx_zret C hr hk hH (by decide) rfl rfl rfl (Nat.zero_le _) (Nat.zero_le _) dX11_isOfKind_41
set_option maxHeartbeats 4000000 in
set_option maxRecDepth 100000 in
theorem c_X11_isOfKind_2_1 {G : GG} {base : Nat} {l : Launch} {f : Hp} {sz : Nat} {o : Nat} {nn : Int32} {wi : Int32} {ag : Int32} (h_o : f o = some (oO 0 [.int nn, .int wi, .int ag])) : fx_M G base l yX11_isOfKind cX11_isOfKind 2 (some .boolean) rm_X11_isOfKind [.ref o, .int (nI 1)] f sz (some (.int (nI 1))) f sz := by
  refine fx_of (by decide +kernel) (Nat.le_of_ble_eq_true rfl) ?_
  intro p e s m args below meth c C hr hk hnm hH ls hl
  obtain ⟨locs, hlocs⟩ : ∃ L : List Loc, L = [] := ⟨_, rfl⟩
  rw [← hlocs] at hH ⊢
  generalize s.heap = H at hH ⊢
  have hx := C.1
  have hb := C.2.1
  have hl : lv_has ls 2 [(0, .ref o), (1, .int (nI 1))] := hl
  refine lv_iload_n hx hb dX11_isOfKind_0 rfl (lv_at hl 1 rfl) ?_
  refine lv_tableIn (off := 41) (tgt := 42) hx hb dX11_isOfKind_1 (by decide) (by decide) (by decide) (by decide) ?_
  refine lv_aload_n hx hb dX11_isOfKind_42 rfl (lv_at hl 0 rfl) ?_
  refine fx_instY C hH h_o rfl cl_X11_339 ca_X0_X5 dX11_isOfKind_43 ?_
  refine fx_ti (y := nI 1) (by decide) ?_
  exact fx_zret C hr hk hH (by decide) rfl rfl rfl (Nat.zero_le _) (Nat.zero_le _) dX11_isOfKind_46
set_option maxHeartbeats 4000000 in
set_option maxRecDepth 100000 in
theorem c_X11_isOfKind_2_2 {G : GG} {base : Nat} {l : Launch} {f : Hp} {sz : Nat} {o : Nat} {nn : Int32} {wi : Int32} {ag : Int32} (h_o : f o = some (oO 0 [.int nn, .int wi, .int ag])) : fx_M G base l yX11_isOfKind cX11_isOfKind 2 (some .boolean) rm_X11_isOfKind [.ref o, .int (nI 2)] f sz (some (.int (nI 1))) f sz := by
  refine fx_of (by decide +kernel) (Nat.le_of_ble_eq_true rfl) ?_
  intro p e s m args below meth c C hr hk hnm hH ls hl
  obtain ⟨locs, hlocs⟩ : ∃ L : List Loc, L = [] := ⟨_, rfl⟩
  rw [← hlocs] at hH ⊢
  generalize s.heap = H at hH ⊢
  have hx := C.1
  have hb := C.2.1
  have hl : lv_has ls 2 [(0, .ref o), (1, .int (nI 2))] := hl
  refine lv_iload_n hx hb dX11_isOfKind_0 rfl (lv_at hl 1 rfl) ?_
  refine lv_tableIn (off := 46) (tgt := 47) hx hb dX11_isOfKind_1 (by decide) (by decide) (by decide) (by decide) ?_
  refine lv_aload_n hx hb dX11_isOfKind_47 rfl (lv_at hl 0 rfl) ?_
  refine fx_instS C hH h_o rfl cl_X11_341 dX11_isOfKind_48 ?_
  refine fx_ti (y := nI 1) (by decide) ?_
  exact fx_zret C hr hk hH (by decide) rfl rfl rfl (Nat.zero_le _) (Nat.zero_le _) dX11_isOfKind_51
set_option maxHeartbeats 4000000 in
set_option maxRecDepth 100000 in
theorem c_X11_isOfKind_2_3 {G : GG} {base : Nat} {l : Launch} {f : Hp} {sz : Nat} {o : Nat} {nn : Int32} {wi : Int32} {ag : Int32} (h_o : f o = some (oO 0 [.int nn, .int wi, .int ag])) : fx_M G base l yX11_isOfKind cX11_isOfKind 2 (some .boolean) rm_X11_isOfKind [.ref o, .int (nI 3)] f sz (some (.int (nI 0))) f sz := by
  refine fx_of (by decide +kernel) (Nat.le_of_ble_eq_true rfl) ?_
  intro p e s m args below meth c C hr hk hnm hH ls hl
  obtain ⟨locs, hlocs⟩ : ∃ L : List Loc, L = [] := ⟨_, rfl⟩
  rw [← hlocs] at hH ⊢
  generalize s.heap = H at hH ⊢
  have hx := C.1
  have hb := C.2.1
  have hl : lv_has ls 2 [(0, .ref o), (1, .int (nI 3))] := hl
  refine lv_iload_n hx hb dX11_isOfKind_0 rfl (lv_at hl 1 rfl) ?_
  refine lv_tableIn (off := 51) (tgt := 52) hx hb dX11_isOfKind_1 (by decide) (by decide) (by decide) (by decide) ?_
  refine lv_aload_n hx hb dX11_isOfKind_52 rfl (lv_at hl 0 rfl) ?_
  refine fx_instN C hH h_o rfl cl_X11_343 (by decide +kernel) dX11_isOfKind_53 ?_
  refine fx_ti (y := nI 0) (by decide) ?_
  exact fx_zret C hr hk hH (by decide) rfl rfl rfl (Nat.zero_le _) (Nat.zero_le _) dX11_isOfKind_56
set_option maxHeartbeats 4000000 in
set_option maxRecDepth 100000 in
theorem c_X11_isOfKind_2_4 {G : GG} {base : Nat} {l : Launch} {f : Hp} {sz : Nat} {o : Nat} {nn : Int32} {wi : Int32} {ag : Int32} (h_o : f o = some (oO 0 [.int nn, .int wi, .int ag])) : fx_M G base l yX11_isOfKind cX11_isOfKind 2 (some .boolean) rm_X11_isOfKind [.ref o, .int (nI 4)] f sz (some (.int (nI 0))) f sz := by
  refine fx_of (by decide +kernel) (Nat.le_of_ble_eq_true rfl) ?_
  intro p e s m args below meth c C hr hk hnm hH ls hl
  obtain ⟨locs, hlocs⟩ : ∃ L : List Loc, L = [] := ⟨_, rfl⟩
  rw [← hlocs] at hH ⊢
  generalize s.heap = H at hH ⊢
  have hx := C.1
  have hb := C.2.1
  have hl : lv_has ls 2 [(0, .ref o), (1, .int (nI 4))] := hl
  refine lv_iload_n hx hb dX11_isOfKind_0 rfl (lv_at hl 1 rfl) ?_
  refine lv_tableIn (off := 56) (tgt := 57) hx hb dX11_isOfKind_1 (by decide) (by decide) (by decide) (by decide) ?_
  refine lv_aload_n hx hb dX11_isOfKind_57 rfl (lv_at hl 0 rfl) ?_
  refine fx_instN C hH h_o rfl cl_X11_345 (by decide +kernel) dX11_isOfKind_58 ?_
  refine fx_ti (y := nI 0) (by decide) ?_
  exact fx_zret C hr hk hH (by decide) rfl rfl rfl (Nat.zero_le _) (Nat.zero_le _) dX11_isOfKind_61
set_option maxHeartbeats 4000000 in
set_option maxRecDepth 100000 in
theorem c_X11_isOfKind_2_5 {G : GG} {base : Nat} {l : Launch} {f : Hp} {sz : Nat} {o : Nat} {nn : Int32} {wi : Int32} {ag : Int32} (h_o : f o = some (oO 0 [.int nn, .int wi, .int ag])) : fx_M G base l yX11_isOfKind cX11_isOfKind 2 (some .boolean) rm_X11_isOfKind [.ref o, .int (nI 5)] f sz (some (.int (nI 0))) f sz := by
  refine fx_of (by decide +kernel) (Nat.le_of_ble_eq_true rfl) ?_
  intro p e s m args below meth c C hr hk hnm hH ls hl
  obtain ⟨locs, hlocs⟩ : ∃ L : List Loc, L = [] := ⟨_, rfl⟩
  rw [← hlocs] at hH ⊢
  generalize s.heap = H at hH ⊢
  have hx := C.1
  have hb := C.2.1
  have hl : lv_has ls 2 [(0, .ref o), (1, .int (nI 5))] := hl
  refine lv_iload_n hx hb dX11_isOfKind_0 rfl (lv_at hl 1 rfl) ?_
  refine lv_tableIn (off := 61) (tgt := 62) hx hb dX11_isOfKind_1 (by decide) (by decide) (by decide) (by decide) ?_
  refine lv_aload_n hx hb dX11_isOfKind_62 rfl (lv_at hl 0 rfl) ?_
  refine fx_instN C hH h_o rfl cl_X11_347 (by decide +kernel) dX11_isOfKind_63 ?_
  refine fx_ti (y := nI 0) (by decide) ?_
  exact fx_zret C hr hk hH (by decide) rfl rfl rfl (Nat.zero_le _) (Nat.zero_le _) dX11_isOfKind_66
set_option maxHeartbeats 4000000 in
set_option maxRecDepth 100000 in
theorem c_X11_isOfKind_3_0 {G : GG} {base : Nat} {l : Launch} {f : Hp} {sz : Nat} {o : Nat} {nn : Int32} {wi : Int32} {ag : Int32} (h_o : f o = some (oO 1 [.int nn, .int wi, .int ag])) : fx_M G base l yX11_isOfKind cX11_isOfKind 2 (some .boolean) rm_X11_isOfKind [.ref o, .int (nI 0)] f sz (some (.int (nI 1))) f sz := by
  refine fx_of (by decide +kernel) (Nat.le_of_ble_eq_true rfl) ?_
  intro p e s m args below meth c C hr hk hnm hH ls hl
  obtain ⟨locs, hlocs⟩ : ∃ L : List Loc, L = [] := ⟨_, rfl⟩
  rw [← hlocs] at hH ⊢
  generalize s.heap = H at hH ⊢
  have hx := C.1
  have hb := C.2.1
  have hl : lv_has ls 2 [(0, .ref o), (1, .int (nI 0))] := hl
  refine lv_iload_n hx hb dX11_isOfKind_0 rfl (lv_at hl 1 rfl) ?_
  refine lv_tableIn (off := 39) (tgt := 40) hx hb dX11_isOfKind_1 (by decide) (by decide) (by decide) (by decide) ?_
  refine lv_iconst (v := nI 1) hx hb dX11_isOfKind_40 (by decide) ?_
  exact fx_zret C hr hk hH (by decide) rfl rfl rfl (Nat.zero_le _) (Nat.zero_le _) dX11_isOfKind_41
set_option maxHeartbeats 4000000 in
set_option maxRecDepth 100000 in
theorem c_X11_isOfKind_3_1 {G : GG} {base : Nat} {l : Launch} {f : Hp} {sz : Nat} {o : Nat} {nn : Int32} {wi : Int32} {ag : Int32} (h_o : f o = some (oO 1 [.int nn, .int wi, .int ag])) : fx_M G base l yX11_isOfKind cX11_isOfKind 2 (some .boolean) rm_X11_isOfKind [.ref o, .int (nI 1)] f sz (some (.int (nI 1))) f sz := by
  refine fx_of (by decide +kernel) (Nat.le_of_ble_eq_true rfl) ?_
  intro p e s m args below meth c C hr hk hnm hH ls hl
  obtain ⟨locs, hlocs⟩ : ∃ L : List Loc, L = [] := ⟨_, rfl⟩
  rw [← hlocs] at hH ⊢
  generalize s.heap = H at hH ⊢
  have hx := C.1
  have hb := C.2.1
  have hl : lv_has ls 2 [(0, .ref o), (1, .int (nI 1))] := hl
  refine lv_iload_n hx hb dX11_isOfKind_0 rfl (lv_at hl 1 rfl) ?_
  refine lv_tableIn (off := 41) (tgt := 42) hx hb dX11_isOfKind_1 (by decide) (by decide) (by decide) (by decide) ?_
  refine lv_aload_n hx hb dX11_isOfKind_42 rfl (lv_at hl 0 rfl) ?_
  refine fx_instY C hH h_o rfl cl_X11_339 ca_X1_X5 dX11_isOfKind_43 ?_
  refine fx_ti (y := nI 1) (by decide) ?_
  exact fx_zret C hr hk hH (by decide) rfl rfl rfl (Nat.zero_le _) (Nat.zero_le _) dX11_isOfKind_46
set_option maxHeartbeats 4000000 in
set_option maxRecDepth 100000 in
theorem c_X11_isOfKind_3_2 {G : GG} {base : Nat} {l : Launch} {f : Hp} {sz : Nat} {o : Nat} {nn : Int32} {wi : Int32} {ag : Int32} (h_o : f o = some (oO 1 [.int nn, .int wi, .int ag])) : fx_M G base l yX11_isOfKind cX11_isOfKind 2 (some .boolean) rm_X11_isOfKind [.ref o, .int (nI 2)] f sz (some (.int (nI 0))) f sz := by
  refine fx_of (by decide +kernel) (Nat.le_of_ble_eq_true rfl) ?_
  intro p e s m args below meth c C hr hk hnm hH ls hl
  obtain ⟨locs, hlocs⟩ : ∃ L : List Loc, L = [] := ⟨_, rfl⟩
  rw [← hlocs] at hH ⊢
  generalize s.heap = H at hH ⊢
  have hx := C.1
  have hb := C.2.1
  have hl : lv_has ls 2 [(0, .ref o), (1, .int (nI 2))] := hl
  refine lv_iload_n hx hb dX11_isOfKind_0 rfl (lv_at hl 1 rfl) ?_
  refine lv_tableIn (off := 46) (tgt := 47) hx hb dX11_isOfKind_1 (by decide) (by decide) (by decide) (by decide) ?_
  refine lv_aload_n hx hb dX11_isOfKind_47 rfl (lv_at hl 0 rfl) ?_
  refine fx_instN C hH h_o rfl cl_X11_341 (by decide +kernel) dX11_isOfKind_48 ?_
  refine fx_ti (y := nI 0) (by decide) ?_
  exact fx_zret C hr hk hH (by decide) rfl rfl rfl (Nat.zero_le _) (Nat.zero_le _) dX11_isOfKind_51
set_option maxHeartbeats 4000000 in
set_option maxRecDepth 100000 in
theorem c_X11_isOfKind_3_3 {G : GG} {base : Nat} {l : Launch} {f : Hp} {sz : Nat} {o : Nat} {nn : Int32} {wi : Int32} {ag : Int32} (h_o : f o = some (oO 1 [.int nn, .int wi, .int ag])) : fx_M G base l yX11_isOfKind cX11_isOfKind 2 (some .boolean) rm_X11_isOfKind [.ref o, .int (nI 3)] f sz (some (.int (nI 1))) f sz := by
  refine fx_of (by decide +kernel) (Nat.le_of_ble_eq_true rfl) ?_
  intro p e s m args below meth c C hr hk hnm hH ls hl
  obtain ⟨locs, hlocs⟩ : ∃ L : List Loc, L = [] := ⟨_, rfl⟩
  rw [← hlocs] at hH ⊢
  generalize s.heap = H at hH ⊢
  have hx := C.1
  have hb := C.2.1
  have hl : lv_has ls 2 [(0, .ref o), (1, .int (nI 3))] := hl
  refine lv_iload_n hx hb dX11_isOfKind_0 rfl (lv_at hl 1 rfl) ?_
  refine lv_tableIn (off := 51) (tgt := 52) hx hb dX11_isOfKind_1 (by decide) (by decide) (by decide) (by decide) ?_
  refine lv_aload_n hx hb dX11_isOfKind_52 rfl (lv_at hl 0 rfl) ?_
  refine fx_instS C hH h_o rfl cl_X11_343 dX11_isOfKind_53 ?_
  refine fx_ti (y := nI 1) (by decide) ?_
  exact fx_zret C hr hk hH (by decide) rfl rfl rfl (Nat.zero_le _) (Nat.zero_le _) dX11_isOfKind_56
set_option maxHeartbeats 4000000 in
set_option maxRecDepth 100000 in
theorem c_X11_isOfKind_3_4 {G : GG} {base : Nat} {l : Launch} {f : Hp} {sz : Nat} {o : Nat} {nn : Int32} {wi : Int32} {ag : Int32} (h_o : f o = some (oO 1 [.int nn, .int wi, .int ag])) : fx_M G base l yX11_isOfKind cX11_isOfKind 2 (some .boolean) rm_X11_isOfKind [.ref o, .int (nI 4)] f sz (some (.int (nI 0))) f sz := by
  refine fx_of (by decide +kernel) (Nat.le_of_ble_eq_true rfl) ?_
  intro p e s m args below meth c C hr hk hnm hH ls hl
  obtain ⟨locs, hlocs⟩ : ∃ L : List Loc, L = [] := ⟨_, rfl⟩
  rw [← hlocs] at hH ⊢
  generalize s.heap = H at hH ⊢
  have hx := C.1
  have hb := C.2.1
  have hl : lv_has ls 2 [(0, .ref o), (1, .int (nI 4))] := hl
  refine lv_iload_n hx hb dX11_isOfKind_0 rfl (lv_at hl 1 rfl) ?_
  refine lv_tableIn (off := 56) (tgt := 57) hx hb dX11_isOfKind_1 (by decide) (by decide) (by decide) (by decide) ?_
  refine lv_aload_n hx hb dX11_isOfKind_57 rfl (lv_at hl 0 rfl) ?_
  refine fx_instN C hH h_o rfl cl_X11_345 (by decide +kernel) dX11_isOfKind_58 ?_
  refine fx_ti (y := nI 0) (by decide) ?_
  exact fx_zret C hr hk hH (by decide) rfl rfl rfl (Nat.zero_le _) (Nat.zero_le _) dX11_isOfKind_61
set_option maxHeartbeats 4000000 in
set_option maxRecDepth 100000 in
theorem c_X11_isOfKind_3_5 {G : GG} {base : Nat} {l : Launch} {f : Hp} {sz : Nat} {o : Nat} {nn : Int32} {wi : Int32} {ag : Int32} (h_o : f o = some (oO 1 [.int nn, .int wi, .int ag])) : fx_M G base l yX11_isOfKind cX11_isOfKind 2 (some .boolean) rm_X11_isOfKind [.ref o, .int (nI 5)] f sz (some (.int (nI 0))) f sz := by
  refine fx_of (by decide +kernel) (Nat.le_of_ble_eq_true rfl) ?_
  intro p e s m args below meth c C hr hk hnm hH ls hl
  obtain ⟨locs, hlocs⟩ : ∃ L : List Loc, L = [] := ⟨_, rfl⟩
  rw [← hlocs] at hH ⊢
  generalize s.heap = H at hH ⊢
  have hx := C.1
  have hb := C.2.1
  have hl : lv_has ls 2 [(0, .ref o), (1, .int (nI 5))] := hl
  refine lv_iload_n hx hb dX11_isOfKind_0 rfl (lv_at hl 1 rfl) ?_
  refine lv_tableIn (off := 61) (tgt := 62) hx hb dX11_isOfKind_1 (by decide) (by decide) (by decide) (by decide) ?_
  refine lv_aload_n hx hb dX11_isOfKind_62 rfl (lv_at hl 0 rfl) ?_
  refine fx_instN C hH h_o rfl cl_X11_347 (by decide +kernel) dX11_isOfKind_63 ?_
  refine fx_ti (y := nI 0) (by decide) ?_
  exact fx_zret C hr hk hH (by decide) rfl rfl rfl (Nat.zero_le _) (Nat.zero_le _) dX11_isOfKind_66
set_option maxHeartbeats 4000000 in
set_option maxRecDepth 100000 in
theorem c_X11_isOfKind_4_0 {G : GG} {base : Nat} {l : Launch} {f : Hp} {sz : Nat} {o : Nat} {nn : Int32} {wi : Int32} {ag : Int32} (h_o : f o = some (oO 3 [.int nn, .int wi, .int ag])) : fx_M G base l yX11_isOfKind cX11_isOfKind 2 (some .boolean) rm_X11_isOfKind [.ref o, .int (nI 0)] f sz (some (.int (nI 1))) f sz := by
  refine fx_of (by decide +kernel) (Nat.le_of_ble_eq_true rfl) ?_
  intro p e s m args below meth c C hr hk hnm hH ls hl
  obtain ⟨locs, hlocs⟩ : ∃ L : List Loc, L = [] := ⟨_, rfl⟩
  rw [← hlocs] at hH ⊢
  generalize s.heap = H at hH ⊢
  have hx := C.1
  have hb := C.2.1
  have hl : lv_has ls 2 [(0, .ref o), (1, .int (nI 0))] := hl
  refine lv_iload_n hx hb dX11_isOfKind_0 rfl (lv_at hl 1 rfl) ?_
  refine lv_tableIn (off := 39) (tgt := 40) hx hb dX11_isOfKind_1 (by decide) (by decide) (by decide) (by decide) ?_
  refine lv_iconst (v := nI 1) hx hb dX11_isOfKind_40 (by decide) ?_
  exact fx_zret C hr hk hH (by decide) rfl rfl rfl (Nat.zero_le _) (Nat.zero_le _) dX11_isOfKind_41
set_option maxHeartbeats 4000000 in
set_option maxRecDepth 100000 in
theorem c_X11_isOfKind_4_1 {G : GG} {base : Nat} {l : Launch} {f : Hp} {sz : Nat} {o : Nat} {nn : Int32} {wi : Int32} {ag : Int32} (h_o : f o = some (oO 3 [.int nn, .int wi, .int ag])) : fx_M G base l yX11_isOfKind cX11_isOfKind 2 (some .boolean) rm_X11_isOfKind [.ref o, .int (nI 1)] f sz (some (.int (nI 0))) f sz := by
  refine fx_of (by decide +kernel) (Nat.le_of_ble_eq_true rfl) ?_
  intro p e s m args below meth c C hr hk hnm hH ls hl
  obtain ⟨locs, hlocs⟩ : ∃ L : List Loc, L = [] := ⟨_, rfl⟩
  rw [← hlocs] at hH ⊢
  generalize s.heap = H at hH ⊢
  have hx := C.1
  have hb := C.2.1
  have hl : lv_has ls 2 [(0, .ref o), (1, .int (nI 1))] := hl
  refine lv_iload_n hx hb dX11_isOfKind_0 rfl (lv_at hl 1 rfl) ?_
  refine lv_tableIn (off := 41) (tgt := 42) hx hb dX11_isOfKind_1 (by decide) (by decide) (by decide) (by decide) ?_
  refine lv_aload_n hx hb dX11_isOfKind_42 rfl (lv_at hl 0 rfl) ?_
  refine fx_instN C hH h_o rfl cl_X11_339 (by decide +kernel) dX11_isOfKind_43 ?_
  refine fx_ti (y := nI 0) (by decide) ?_
  exact fx_zret C hr hk hH (by decide) rfl rfl rfl (Nat.zero_le _) (Nat.zero_le _) dX11_isOfKind_46
set_option maxHeartbeats 4000000 in
set_option maxRecDepth 100000 in
theorem c_X11_isOfKind_4_2 {G : GG} {base : Nat} {l : Launch} {f : Hp} {sz : Nat} {o : Nat} {nn : Int32} {wi : Int32} {ag : Int32} (h_o : f o = some (oO 3 [.int nn, .int wi, .int ag])) : fx_M G base l yX11_isOfKind cX11_isOfKind 2 (some .boolean) rm_X11_isOfKind [.ref o, .int (nI 2)] f sz (some (.int (nI 0))) f sz := by
  refine fx_of (by decide +kernel) (Nat.le_of_ble_eq_true rfl) ?_
  intro p e s m args below meth c C hr hk hnm hH ls hl
  obtain ⟨locs, hlocs⟩ : ∃ L : List Loc, L = [] := ⟨_, rfl⟩
  rw [← hlocs] at hH ⊢
  generalize s.heap = H at hH ⊢
  have hx := C.1
  have hb := C.2.1
  have hl : lv_has ls 2 [(0, .ref o), (1, .int (nI 2))] := hl
  refine lv_iload_n hx hb dX11_isOfKind_0 rfl (lv_at hl 1 rfl) ?_
  refine lv_tableIn (off := 46) (tgt := 47) hx hb dX11_isOfKind_1 (by decide) (by decide) (by decide) (by decide) ?_
  refine lv_aload_n hx hb dX11_isOfKind_47 rfl (lv_at hl 0 rfl) ?_
  refine fx_instN C hH h_o rfl cl_X11_341 (by decide +kernel) dX11_isOfKind_48 ?_
  refine fx_ti (y := nI 0) (by decide) ?_
  exact fx_zret C hr hk hH (by decide) rfl rfl rfl (Nat.zero_le _) (Nat.zero_le _) dX11_isOfKind_51
set_option maxHeartbeats 4000000 in
set_option maxRecDepth 100000 in
theorem c_X11_isOfKind_4_3 {G : GG} {base : Nat} {l : Launch} {f : Hp} {sz : Nat} {o : Nat} {nn : Int32} {wi : Int32} {ag : Int32} (h_o : f o = some (oO 3 [.int nn, .int wi, .int ag])) : fx_M G base l yX11_isOfKind cX11_isOfKind 2 (some .boolean) rm_X11_isOfKind [.ref o, .int (nI 3)] f sz (some (.int (nI 0))) f sz := by
  refine fx_of (by decide +kernel) (Nat.le_of_ble_eq_true rfl) ?_
  intro p e s m args below meth c C hr hk hnm hH ls hl
  obtain ⟨locs, hlocs⟩ : ∃ L : List Loc, L = [] := ⟨_, rfl⟩
  rw [← hlocs] at hH ⊢
  generalize s.heap = H at hH ⊢
  have hx := C.1
  have hb := C.2.1
  have hl : lv_has ls 2 [(0, .ref o), (1, .int (nI 3))] := hl
  refine lv_iload_n hx hb dX11_isOfKind_0 rfl (lv_at hl 1 rfl) ?_
  refine lv_tableIn (off := 51) (tgt := 52) hx hb dX11_isOfKind_1 (by decide) (by decide) (by decide) (by decide) ?_
  refine lv_aload_n hx hb dX11_isOfKind_52 rfl (lv_at hl 0 rfl) ?_
  refine fx_instN C hH h_o rfl cl_X11_343 (by decide +kernel) dX11_isOfKind_53 ?_
  refine fx_ti (y := nI 0) (by decide) ?_
  exact fx_zret C hr hk hH (by decide) rfl rfl rfl (Nat.zero_le _) (Nat.zero_le _) dX11_isOfKind_56
set_option maxHeartbeats 4000000 in
set_option maxRecDepth 100000 in
theorem c_X11_isOfKind_4_4 {G : GG} {base : Nat} {l : Launch} {f : Hp} {sz : Nat} {o : Nat} {nn : Int32} {wi : Int32} {ag : Int32} (h_o : f o = some (oO 3 [.int nn, .int wi, .int ag])) : fx_M G base l yX11_isOfKind cX11_isOfKind 2 (some .boolean) rm_X11_isOfKind [.ref o, .int (nI 4)] f sz (some (.int (nI 1))) f sz := by
  refine fx_of (by decide +kernel) (Nat.le_of_ble_eq_true rfl) ?_
  intro p e s m args below meth c C hr hk hnm hH ls hl
  obtain ⟨locs, hlocs⟩ : ∃ L : List Loc, L = [] := ⟨_, rfl⟩
  rw [← hlocs] at hH ⊢
  generalize s.heap = H at hH ⊢
  have hx := C.1
  have hb := C.2.1
  have hl : lv_has ls 2 [(0, .ref o), (1, .int (nI 4))] := hl
  refine lv_iload_n hx hb dX11_isOfKind_0 rfl (lv_at hl 1 rfl) ?_
  refine lv_tableIn (off := 56) (tgt := 57) hx hb dX11_isOfKind_1 (by decide) (by decide) (by decide) (by decide) ?_
  refine lv_aload_n hx hb dX11_isOfKind_57 rfl (lv_at hl 0 rfl) ?_
  refine fx_instS C hH h_o rfl cl_X11_345 dX11_isOfKind_58 ?_
  refine fx_ti (y := nI 1) (by decide) ?_
  exact fx_zret C hr hk hH (by decide) rfl rfl rfl (Nat.zero_le _) (Nat.zero_le _) dX11_isOfKind_61
set_option maxHeartbeats 4000000 in
set_option maxRecDepth 100000 in
theorem c_X11_isOfKind_4_5 {G : GG} {base : Nat} {l : Launch} {f : Hp} {sz : Nat} {o : Nat} {nn : Int32} {wi : Int32} {ag : Int32} (h_o : f o = some (oO 3 [.int nn, .int wi, .int ag])) : fx_M G base l yX11_isOfKind cX11_isOfKind 2 (some .boolean) rm_X11_isOfKind [.ref o, .int (nI 5)] f sz (some (.int (nI 0))) f sz := by
  refine fx_of (by decide +kernel) (Nat.le_of_ble_eq_true rfl) ?_
  intro p e s m args below meth c C hr hk hnm hH ls hl
  obtain ⟨locs, hlocs⟩ : ∃ L : List Loc, L = [] := ⟨_, rfl⟩
  rw [← hlocs] at hH ⊢
  generalize s.heap = H at hH ⊢
  have hx := C.1
  have hb := C.2.1
  have hl : lv_has ls 2 [(0, .ref o), (1, .int (nI 5))] := hl
  refine lv_iload_n hx hb dX11_isOfKind_0 rfl (lv_at hl 1 rfl) ?_
  refine lv_tableIn (off := 61) (tgt := 62) hx hb dX11_isOfKind_1 (by decide) (by decide) (by decide) (by decide) ?_
  refine lv_aload_n hx hb dX11_isOfKind_62 rfl (lv_at hl 0 rfl) ?_
  refine fx_instN C hH h_o rfl cl_X11_347 (by decide +kernel) dX11_isOfKind_63 ?_
  refine fx_ti (y := nI 0) (by decide) ?_
  exact fx_zret C hr hk hH (by decide) rfl rfl rfl (Nat.zero_le _) (Nat.zero_le _) dX11_isOfKind_66
set_option maxHeartbeats 4000000 in
set_option maxRecDepth 100000 in
theorem c_X11_isOfKind_5_0 {G : GG} {base : Nat} {l : Launch} {f : Hp} {sz : Nat} {o : Nat} {nn : Int32} {wi : Int32} {ag : Int32} (h_o : f o = some (oO 7 [.int nn, .int wi, .int ag])) : fx_M G base l yX11_isOfKind cX11_isOfKind 2 (some .boolean) rm_X11_isOfKind [.ref o, .int (nI 0)] f sz (some (.int (nI 1))) f sz := by
  refine fx_of (by decide +kernel) (Nat.le_of_ble_eq_true rfl) ?_
  intro p e s m args below meth c C hr hk hnm hH ls hl
  obtain ⟨locs, hlocs⟩ : ∃ L : List Loc, L = [] := ⟨_, rfl⟩
  rw [← hlocs] at hH ⊢
  generalize s.heap = H at hH ⊢
  have hx := C.1
  have hb := C.2.1
  have hl : lv_has ls 2 [(0, .ref o), (1, .int (nI 0))] := hl
  refine lv_iload_n hx hb dX11_isOfKind_0 rfl (lv_at hl 1 rfl) ?_
  refine lv_tableIn (off := 39) (tgt := 40) hx hb dX11_isOfKind_1 (by decide) (by decide) (by decide) (by decide) ?_
  refine lv_iconst (v := nI 1) hx hb dX11_isOfKind_40 (by decide) ?_
  exact fx_zret C hr hk hH (by decide) rfl rfl rfl (Nat.zero_le _) (Nat.zero_le _) dX11_isOfKind_41
set_option maxHeartbeats 4000000 in
set_option maxRecDepth 100000 in
theorem c_X11_isOfKind_5_1 {G : GG} {base : Nat} {l : Launch} {f : Hp} {sz : Nat} {o : Nat} {nn : Int32} {wi : Int32} {ag : Int32} (h_o : f o = some (oO 7 [.int nn, .int wi, .int ag])) : fx_M G base l yX11_isOfKind cX11_isOfKind 2 (some .boolean) rm_X11_isOfKind [.ref o, .int (nI 1)] f sz (some (.int (nI 0))) f sz := by
  refine fx_of (by decide +kernel) (Nat.le_of_ble_eq_true rfl) ?_
  intro p e s m args below meth c C hr hk hnm hH ls hl
  obtain ⟨locs, hlocs⟩ : ∃ L : List Loc, L = [] := ⟨_, rfl⟩
  rw [← hlocs] at hH ⊢
  generalize s.heap = H at hH ⊢
  have hx := C.1
  have hb := C.2.1
  have hl : lv_has ls 2 [(0, .ref o), (1, .int (nI 1))] := hl
  refine lv_iload_n hx hb dX11_isOfKind_0 rfl (lv_at hl 1 rfl) ?_
  refine lv_tableIn (off := 41) (tgt := 42) hx hb dX11_isOfKind_1 (by decide) (by decide) (by decide) (by decide) ?_
  refine lv_aload_n hx hb dX11_isOfKind_42 rfl (lv_at hl 0 rfl) ?_
  refine fx_instN C hH h_o rfl cl_X11_339 (by decide +kernel) dX11_isOfKind_43 ?_
  refine fx_ti (y := nI 0) (by decide) ?_
  exact fx_zret C hr hk hH (by decide) rfl rfl rfl (Nat.zero_le _) (Nat.zero_le _) dX11_isOfKind_46
set_option maxHeartbeats 4000000 in
set_option maxRecDepth 100000 in
theorem c_X11_isOfKind_5_2 {G : GG} {base : Nat} {l : Launch} {f : Hp} {sz : Nat} {o : Nat} {nn : Int32} {wi : Int32} {ag : Int32} (h_o : f o = some (oO 7 [.int nn, .int wi, .int ag])) : fx_M G base l yX11_isOfKind cX11_isOfKind 2 (some .boolean) rm_X11_isOfKind [.ref o, .int (nI 2)] f sz (some (.int (nI 0))) f sz := by
  refine fx_of (by decide +kernel) (Nat.le_of_ble_eq_true rfl) ?_
  intro p e s m args below meth c C hr hk hnm hH ls hl
  obtain ⟨locs, hlocs⟩ : ∃ L : List Loc, L = [] := ⟨_, rfl⟩
  rw [← hlocs] at hH ⊢
  generalize s.heap = H at hH ⊢
  have hx := C.1
  have hb := C.2.1
  have hl : lv_has ls 2 [(0, .ref o), (1, .int (nI 2))] := hl
  refine lv_iload_n hx hb dX11_isOfKind_0 rfl (lv_at hl 1 rfl) ?_
  refine lv_tableIn (off := 46) (tgt := 47) hx hb dX11_isOfKind_1 (by decide) (by decide) (by decide) (by decide) ?_
  refine lv_aload_n hx hb dX11_isOfKind_47 rfl (lv_at hl 0 rfl) ?_
  refine fx_instN C hH h_o rfl cl_X11_341 (by decide +kernel) dX11_isOfKind_48 ?_
  refine fx_ti (y := nI 0) (by decide) ?_
  exact fx_zret C hr hk hH (by decide) rfl rfl rfl (Nat.zero_le _) (Nat.zero_le _) dX11_isOfKind_51
set_option maxHeartbeats 4000000 in
set_option maxRecDepth 100000 in
theorem c_X11_isOfKind_5_3 {G : GG} {base : Nat} {l : Launch} {f : Hp} {sz : Nat} {o : Nat} {nn : Int32} {wi : Int32} {ag : Int32} (h_o : f o = some (oO 7 [.int nn, .int wi, .int ag])) : fx_M G base l yX11_isOfKind cX11_isOfKind 2 (some .boolean) rm_X11_isOfKind [.ref o, .int (nI 3)] f sz (some (.int (nI 0))) f sz := by
  refine fx_of (by decide +kernel) (Nat.le_of_ble_eq_true rfl) ?_
  intro p e s m args below meth c C hr hk hnm hH ls hl
  obtain ⟨locs, hlocs⟩ : ∃ L : List Loc, L = [] := ⟨_, rfl⟩
  rw [← hlocs] at hH ⊢
  generalize s.heap = H at hH ⊢
  have hx := C.1
  have hb := C.2.1
  have hl : lv_has ls 2 [(0, .ref o), (1, .int (nI 3))] := hl
  refine lv_iload_n hx hb dX11_isOfKind_0 rfl (lv_at hl 1 rfl) ?_
  refine lv_tableIn (off := 51) (tgt := 52) hx hb dX11_isOfKind_1 (by decide) (by decide) (by decide) (by decide) ?_
  refine lv_aload_n hx hb dX11_isOfKind_52 rfl (lv_at hl 0 rfl) ?_
  refine fx_instN C hH h_o rfl cl_X11_343 (by decide +kernel) dX11_isOfKind_53 ?_
  refine fx_ti (y := nI 0) (by decide) ?_
  exact fx_zret C hr hk hH (by decide) rfl rfl rfl (Nat.zero_le _) (Nat.zero_le _) dX11_isOfKind_56
set_option maxHeartbeats 4000000 in
set_option maxRecDepth 100000 in
theorem c_X11_isOfKind_5_4 {G : GG} {base : Nat} {l : Launch} {f : Hp} {sz : Nat} {o : Nat} {nn : Int32} {wi : Int32} {ag : Int32} (h_o : f o = some (oO 7 [.int nn, .int wi, .int ag])) : fx_M G base l yX11_isOfKind cX11_isOfKind 2 (some .boolean) rm_X11_isOfKind [.ref o, .int (nI 4)] f sz (some (.int (nI 1))) f sz := by
  refine fx_of (by decide +kernel) (Nat.le_of_ble_eq_true rfl) ?_
  intro p e s m args below meth c C hr hk hnm hH ls hl
  obtain ⟨locs, hlocs⟩ : ∃ L : List Loc, L = [] := ⟨_, rfl⟩
  rw [← hlocs] at hH ⊢
  generalize s.heap = H at hH ⊢
  have hx := C.1
  have hb := C.2.1
  have hl : lv_has ls 2 [(0, .ref o), (1, .int (nI 4))] := hl
  refine lv_iload_n hx hb dX11_isOfKind_0 rfl (lv_at hl 1 rfl) ?_
  refine lv_tableIn (off := 56) (tgt := 57) hx hb dX11_isOfKind_1 (by decide) (by decide) (by decide) (by decide) ?_
  refine lv_aload_n hx hb dX11_isOfKind_57 rfl (lv_at hl 0 rfl) ?_
  refine fx_instY C hH h_o rfl cl_X11_345 ca_X8_X3 dX11_isOfKind_58 ?_
  refine fx_ti (y := nI 1) (by decide) ?_
  exact fx_zret C hr hk hH (by decide) rfl rfl rfl (Nat.zero_le _) (Nat.zero_le _) dX11_isOfKind_61
set_option maxHeartbeats 4000000 in
set_option maxRecDepth 100000 in
theorem c_X11_isOfKind_5_5 {G : GG} {base : Nat} {l : Launch} {f : Hp} {sz : Nat} {o : Nat} {nn : Int32} {wi : Int32} {ag : Int32} (h_o : f o = some (oO 7 [.int nn, .int wi, .int ag])) : fx_M G base l yX11_isOfKind cX11_isOfKind 2 (some .boolean) rm_X11_isOfKind [.ref o, .int (nI 5)] f sz (some (.int (nI 1))) f sz := by
  refine fx_of (by decide +kernel) (Nat.le_of_ble_eq_true rfl) ?_
  intro p e s m args below meth c C hr hk hnm hH ls hl
  obtain ⟨locs, hlocs⟩ : ∃ L : List Loc, L = [] := ⟨_, rfl⟩
  rw [← hlocs] at hH ⊢
  generalize s.heap = H at hH ⊢
  have hx := C.1
  have hb := C.2.1
  have hl : lv_has ls 2 [(0, .ref o), (1, .int (nI 5))] := hl
  refine lv_iload_n hx hb dX11_isOfKind_0 rfl (lv_at hl 1 rfl) ?_
  refine lv_tableIn (off := 61) (tgt := 62) hx hb dX11_isOfKind_1 (by decide) (by decide) (by decide) (by decide) ?_
  refine lv_aload_n hx hb dX11_isOfKind_62 rfl (lv_at hl 0 rfl) ?_
  refine fx_instS C hH h_o rfl cl_X11_347 dX11_isOfKind_63 ?_
  refine fx_ti (y := nI 1) (by decide) ?_
  exact fx_zret C hr hk hH (by decide) rfl rfl rfl (Nat.zero_le _) (Nat.zero_le _) dX11_isOfKind_66
