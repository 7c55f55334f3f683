set_option maxHeartbeats 4000000 in
set_option maxRecDepth 100000 in
theorem vk_askSize {p : Program} {l : Launch} {e : Env} {R : Room} {s : State} {m : MethodId} {args : Array Value} {below : List Frame} {meth : Method} {c : Code} {H : Heap} {locs : List Loc} {cells slots : Nat} {cc : ByteArray} {nL pc : Nat} {own : String} {ls : Array Slot} {rest : List Value} {G : GG} {base sz index : Nat} {f : Hp} (C : fx_C G p s m c cc nL own) (hH : fx_H G base s f sz H locs) (hls : ls.size = nL) {o : Nat} {t : Nat} {K : Nat} {nn : Int32} {wi : Int32} {ag : Int32} {u : Nat} {tn : Nat} {g : Nat → Int32} (h_o : f o = some (skC K nn wi ag)) (h_t : f t = some (oO 9 [.ref u, .int (nI tn)])) (h_u : f u = some (oI 16 g)) (hK : 1 ≤ K ∧ K ≤ 5) (ht : tn + 6 ≤ 16) (hl : Cond.methodLink own index yX7_askSize ∈ lw_tbl) (hfr : 6 ≤ R.frames) (hlo : 127 ≤ R.locals) (hw : (rest.map fun v => v.category).sum ≤ 8) (hcs : cells + 0 ≤ R.cells ∧ slots + 0 ≤ R.slots) (hdg : decode cc pc = .ok (.invokevirtual index, 3)) : fx_Run p l e R s m args below meth c H locs cells slots rm_X7_feel (F0 m pc ls (.ref t :: .ref o :: rest)) rest G base (some (.int (aSV K nn wi ag))) (fx_up (fx_up f u (oI 16 (twL g tn (aSB K)))) t (oO 9 [.ref u, .int (nI (tn + (aSB K).length))])) sz (Value.ref o :: [.ref t]).toArray := by
  have hk5 : K = 1 ∨ K = 2 ∨ K = 3 ∨ K = 4 ∨ K = 5 := by omega
  rcases hk5 with rfl | rfl | rfl | rfl | rfl
  · exact fx_runU C hH hls (As := [.ref t]) (rest := rest) (owner := RX7) (rm := rm_X5_askSize) (c_X5_askSize_Round (G := G) (base := base) (l := l) h_o h_t h_u (by omega)) mY_X5_askSize hl sm_X7_askSize_X7 (Or.inr ⟨im_X7_askSize, _, _, _, cd_X7_askSize⟩) (by decide +kernel) rfl se_X5_X7_askSize_X5_askSize im_X5_askSize h_o rfl rfl ⟨Nat.le_trans (Nat.le_of_ble_eq_true rfl) hfr, Nat.le_trans (Nat.le_of_ble_eq_true rfl) hlo⟩ rfl hw hcs hdg
  · exact fx_runU C hH hls (As := [.ref t]) (rest := rest) (owner := RX7) (rm := rm_X0_askSize) (c_X0_askSize (G := G) (base := base) (l := l) h_o h_t h_u (by omega)) mY_X0_askSize hl sm_X7_askSize_X7 (Or.inr ⟨im_X7_askSize, _, _, _, cd_X7_askSize⟩) (by decide +kernel) rfl se_X0_X7_askSize_X0_askSize im_X0_askSize h_o rfl rfl ⟨Nat.le_trans (Nat.le_of_ble_eq_true rfl) hfr, Nat.le_trans (Nat.le_of_ble_eq_true rfl) hlo⟩ rfl hw hcs hdg
  · exact fx_runU C hH hls (As := [.ref t]) (rest := rest) (owner := RX7) (rm := rm_X5_askSize) (c_X5_askSize_Lamp (G := G) (base := base) (l := l) h_o h_t h_u (by omega)) mY_X5_askSize hl sm_X7_askSize_X7 (Or.inr ⟨im_X7_askSize, _, _, _, cd_X7_askSize⟩) (by decide +kernel) rfl se_X1_X7_askSize_X5_askSize im_X5_askSize h_o rfl rfl ⟨Nat.le_trans (Nat.le_of_ble_eq_true rfl) hfr, Nat.le_trans (Nat.le_of_ble_eq_true rfl) hlo⟩ rfl hw hcs hdg
  · exact fx_runU C hH hls (As := [.ref t]) (rest := rest) (owner := RX7) (rm := rm_X3_askSize) (c_X3_askSize_Likeliest (G := G) (base := base) (l := l) h_o h_t h_u (by omega)) mY_X3_askSize hl sm_X7_askSize_X7 (Or.inr ⟨im_X7_askSize, _, _, _, cd_X7_askSize⟩) (by decide +kernel) rfl se_X3_X7_askSize_X3_askSize im_X3_askSize h_o rfl rfl ⟨Nat.le_trans (Nat.le_of_ble_eq_true rfl) hfr, Nat.le_trans (Nat.le_of_ble_eq_true rfl) hlo⟩ rfl hw hcs hdg
  · exact fx_runU C hH hls (As := [.ref t]) (rest := rest) (owner := RX7) (rm := rm_X8_askSize) (c_X8_askSize (G := G) (base := base) (l := l) h_o h_t h_u (by omega)) mY_X8_askSize hl sm_X7_askSize_X7 (Or.inr ⟨im_X7_askSize, _, _, _, cd_X7_askSize⟩) (by decide +kernel) rfl se_X8_X7_askSize_X8_askSize im_X8_askSize h_o rfl rfl ⟨Nat.le_trans (Nat.le_of_ble_eq_true rfl) hfr, Nat.le_trans (Nat.le_of_ble_eq_true rfl) hlo⟩ rfl hw hcs hdg
set_option maxHeartbeats 4000000 in
set_option maxRecDepth 100000 in
theorem vk_askMark {p : Program} {l : Launch} {e : Env} {R : Room} {s : State} {m : MethodId} {args : Array Value} {below : List Frame} {meth : Method} {c : Code} {H : Heap} {locs : List Loc} {cells slots : Nat} {cc : ByteArray} {nL pc : Nat} {own : String} {ls : Array Slot} {rest : List Value} {G : GG} {base sz index : Nat} {f : Hp} (C : fx_C G p s m c cc nL own) (hH : fx_H G base s f sz H locs) (hls : ls.size = nL) {o : Nat} {t : Nat} {K : Nat} {nn : Int32} {wi : Int32} {ag : Int32} {u : Nat} {tn : Nat} {g : Nat → Int32} (h_o : f o = some (skC K nn wi ag)) (h_t : f t = some (oO 9 [.ref u, .int (nI tn)])) (h_u : f u = some (oI 16 g)) (hK : 1 ≤ K ∧ K ≤ 5) (ht : tn + 6 ≤ 16) (hl : Cond.methodLink own index yX7_askMark ∈ lw_tbl) (hfr : 5 ≤ R.frames) (hlo : 106 ≤ R.locals) (hw : (rest.map fun v => v.category).sum ≤ 8) (hcs : cells + 0 ≤ R.cells ∧ slots + 0 ≤ R.slots) (hdg : decode cc pc = .ok (.invokevirtual index, 3)) : fx_Run p l e R s m args below meth c H locs cells slots rm_X7_feel (F0 m pc ls (.ref t :: .ref o :: rest)) rest G base (some (.int (aMV K nn wi ag))) (fx_up (fx_up f u (oI 16 (twL g tn (aMB K)))) t (oO 9 [.ref u, .int (nI (tn + (aMB K).length))])) sz (Value.ref o :: [.ref t]).toArray := by
  have hk5 : K = 1 ∨ K = 2 ∨ K = 3 ∨ K = 4 ∨ K = 5 := by omega
  rcases hk5 with rfl | rfl | rfl | rfl | rfl
  · exact fx_runU C hH hls (As := [.ref t]) (rest := rest) (owner := RX7) (rm := rm_X5_askMark) (c_X5_askMark_Round (G := G) (base := base) (l := l) h_o h_t h_u (by omega)) mY_X5_askMark hl sm_X7_askMark_X7 (Or.inr ⟨im_X7_askMark, _, _, _, cd_X7_askMark⟩) (by decide +kernel) rfl se_X5_X7_askMark_X5_askMark im_X5_askMark h_o rfl rfl ⟨Nat.le_trans (Nat.le_of_ble_eq_true rfl) hfr, Nat.le_trans (Nat.le_of_ble_eq_true rfl) hlo⟩ rfl hw hcs hdg
  · exact fx_runU C hH hls (As := [.ref t]) (rest := rest) (owner := RX7) (rm := rm_X0_askMark) (c_X0_askMark (G := G) (base := base) (l := l) h_o h_t h_u (by omega)) mY_X0_askMark hl sm_X7_askMark_X7 (Or.inr ⟨im_X7_askMark, _, _, _, cd_X7_askMark⟩) (by decide +kernel) rfl se_X0_X7_askMark_X0_askMark im_X0_askMark h_o rfl rfl ⟨Nat.le_trans (Nat.le_of_ble_eq_true rfl) hfr, Nat.le_trans (Nat.le_of_ble_eq_true rfl) hlo⟩ rfl hw hcs hdg
  · exact fx_runU C hH hls (As := [.ref t]) (rest := rest) (owner := RX7) (rm := rm_X1_askMark) (c_X1_askMark (G := G) (base := base) (l := l) h_o h_t h_u (by omega)) mY_X1_askMark hl sm_X7_askMark_X7 (Or.inr ⟨im_X7_askMark, _, _, _, cd_X7_askMark⟩) (by decide +kernel) rfl se_X1_X7_askMark_X1_askMark im_X1_askMark h_o rfl rfl ⟨Nat.le_trans (Nat.le_of_ble_eq_true rfl) hfr, Nat.le_trans (Nat.le_of_ble_eq_true rfl) hlo⟩ rfl hw hcs hdg
  · exact fx_runU C hH hls (As := [.ref t]) (rest := rest) (owner := RX7) (rm := rm_X3_askMark) (c_X3_askMark_Likeliest (G := G) (base := base) (l := l) h_o h_t h_u (by omega)) mY_X3_askMark hl sm_X7_askMark_X7 (Or.inr ⟨im_X7_askMark, _, _, _, cd_X7_askMark⟩) (by decide +kernel) rfl se_X3_X7_askMark_X3_askMark im_X3_askMark h_o rfl rfl ⟨Nat.le_trans (Nat.le_of_ble_eq_true rfl) hfr, Nat.le_trans (Nat.le_of_ble_eq_true rfl) hlo⟩ rfl hw hcs hdg
  · exact fx_runU C hH hls (As := [.ref t]) (rest := rest) (owner := RX7) (rm := rm_X3_askMark) (c_X3_askMark_Tabs (G := G) (base := base) (l := l) h_o h_t h_u (by omega)) mY_X3_askMark hl sm_X7_askMark_X7 (Or.inr ⟨im_X7_askMark, _, _, _, cd_X7_askMark⟩) (by decide +kernel) rfl se_X8_X7_askMark_X3_askMark im_X3_askMark h_o rfl rfl ⟨Nat.le_trans (Nat.le_of_ble_eq_true rfl) hfr, Nat.le_trans (Nat.le_of_ble_eq_true rfl) hlo⟩ rfl hw hcs hdg
abbrev rm_X9_append : Room := { frames := 0, cells := 0, slots := 0, locals := 0 }
set_option maxHeartbeats 4000000 in
set_option maxRecDepth 100000 in
theorem c_X9_append {G : GG} {base : Nat} {l : Launch} {f : Hp} {sz : Nat} {t : Nat} {b : Int32} {by_ : Nat} {n : Nat} {at_ : Int32} {wr : Int32} {g : Nat → Int32} (h_t : f t = some (oO 8 [.ref by_, .int (nI n), .int at_, .int wr])) (h_by_ : f by_ = some (oI 120 g)) (hn : n < 120) : fx_M G base l yX9_append cX9_append 2 none rm_X9_append [.ref t, .int b] f sz none (fx_up (fx_up f by_ (oI 120 (upd g n b))) t (oO 8 [.ref by_, .int (nI (n + 1)), .int at_, .int wr])) sz := by
  refine fx_of (by decide +kernel) (Nat.le_of_ble_eq_true rfl) ?_
  intro p e s m args below meth c C hr hk hnm hH ls hl
  obtain ⟨locs, hlocs⟩ : ∃ L : List Loc, L = [] := ⟨_, rfl⟩
  rw [← hlocs] at hH ⊢
  generalize s.heap = H at hH ⊢
  have hx := C.1
  have hb := C.2.1
  have hl : lv_has ls 2 [(0, .ref t), (1, .int b)] := hl
  refine lv_aload_n hx hb dX9_append_0 rfl (lv_at hl 0 rfl) ?_
  refine fx_get C hH (k := 1) (v := .int (nI n)) h_t ff_X9_15_8 rfl dX9_append_1 ?_
  refine lv_bipush (v := nI 120) hx hb dX9_append_4 (by decide) ?_
  refine fx_N_ge (a := n) (b := 120) hx hb (by omega) (by omega) (tgt := 29) dX9_append_6 (by decide) (fun c6 => absurd c6 (by omega)) (fun c6 => ?_)
  refine lv_aload_n hx hb dX9_append_9 rfl (lv_at hl 0 rfl) ?_
  refine fx_get C hH (k := 0) (v := .ref by_) h_t ff_X9_9_8 rfl dX9_append_10 ?_
  refine lv_aload_n hx hb dX9_append_13 rfl (lv_at hl 0 rfl) ?_
  refine fx_get C hH (k := 1) (v := .int (nI n)) h_t ff_X9_15_8 rfl dX9_append_14 ?_
  refine lv_iload_n hx hb dX9_append_17 rfl (lv_at hl 1 rfl) ?_
  refine fx_iastN C hH h_by_ (by omega) (by omega) dX9_append_18 (fun H locs hH => ?_)
  have hH : fx_H G base s (fx_up f by_ (oI 120 (upd g n b))) sz H locs := hH
  have h1_t : (fx_up f by_ (oI 120 (upd g n b))) t = some (oO 8 [.ref by_, .int (nI n), .int at_, .int wr]) := (fx_up_n _ _ (fx_ne h_t h_by_ rfl)).trans h_t
  have h1_by_ : (fx_up f by_ (oI 120 (upd g n b))) by_ = some (oI 120 (upd g n b)) := fx_up_s _ _ _
  refine lv_aload_n hx hb dX9_append_19 rfl (lv_at hl 0 rfl) ?_
  refine lv_dup hx hb dX9_append_20 rfl ?_
  refine fx_get C hH (k := 1) (v := .int (nI n)) h1_t ff_X9_15_8 rfl dX9_append_21 ?_
  refine lv_iconst (v := nI 1) hx hb dX9_append_24 (by decide) ?_
  refine lv_iadd hx hb dX9_append_25 ?_
  refine fx_ti (y := nI (n + 1)) (nI_add _ _) ?_
  refine fx_putT C hH (k := 1) h1_t ff_X9_15_8 fL_8 fT_8_1 rfl rfl (Nat.le_of_ble_eq_true rfl) dX9_append_26 (fun H locs hH => ?_)
  have hH : fx_H G base s (fx_up (fx_up f by_ (oI 120 (upd g n b))) t (oO 8 [.ref by_, .int (nI (n + 1)), .int at_, .int wr])) sz H locs := hH
  have h2_by_ : (fx_up (fx_up f by_ (oI 120 (upd g n b))) t (oO 8 [.ref by_, .int (nI (n + 1)), .int at_, .int wr])) by_ = some (oI 120 (upd g n b)) := (fx_up_n _ _ (fx_ne h1_by_ h1_t rfl)).trans h1_by_
  have h2_t : (fx_up (fx_up f by_ (oI 120 (upd g n b))) t (oO 8 [.ref by_, .int (nI (n + 1)), .int at_, .int wr])) t = some (oO 8 [.ref by_, .int (nI (n + 1)), .int at_, .int wr]) := fx_up_s _ _ _
  exact fx_vret C hr hk hH rfl rfl (Nat.zero_le _) (Nat.zero_le _) dX9_append_29
abbrev rm_X9_fail : Room := { frames := 0, cells := 0, slots := 0, locals := 0 }
set_option maxHeartbeats 4000000 in
set_option maxRecDepth 100000 in
theorem c_X9_fail {G : GG} {base : Nat} {l : Launch} {f : Hp} {sz : Nat} {z : Nat × Nat} {t : Nat} {xx : Nat} {by_ : Nat} {n : Nat} (h_t : f t = some (oO 8 [.ref by_, .int (nI n), .int (nI z.1), .int (nI z.2)])) (hz2 : z.2 < 100) : fx_M G base l yX9_fail cX9_fail 2 none rm_X9_fail [.ref t, .int (nI xx)] f sz none (fx_up f t (oO 8 [.ref by_, .int (nI n), .int (nI ((fl xx z).1)), .int (nI ((fl xx z).2))])) sz := by
  refine fx_of (by decide +kernel) (Nat.le_of_ble_eq_true rfl) ?_
  intro p e s m args below meth c C hr hk hnm hH ls hl
  obtain ⟨locs, hlocs⟩ : ∃ L : List Loc, L = [] := ⟨_, rfl⟩
  rw [← hlocs] at hH ⊢
  generalize s.heap = H at hH ⊢
  have hx := C.1
  have hb := C.2.1
  have hl : lv_has ls 2 [(0, .ref t), (1, .int (nI xx))] := hl
  refine lv_aload_n hx hb dX9_fail_0 rfl (lv_at hl 0 rfl) ?_
  refine fx_get C hH (k := 3) (v := .int (nI z.2)) h_t ff_X9_22_8 rfl dX9_fail_1 ?_
  refine fx_O_ne (a := z.2) hx hb (by omega) (tgt := 12) dX9_fail_4 (by decide) (fun c4 => ?_) (fun c4 => ?_)
  · exact fx_vret C hr hk hH (by rw [fl_z c4]; exact (fx_up_id h_t).symm) rfl (Nat.zero_le _) (Nat.zero_le _) dX9_fail_12
  · refine lv_aload_n hx hb dX9_fail_7 rfl (lv_at hl 0 rfl) ?_
    refine lv_iload_n hx hb dX9_fail_8 rfl (lv_at hl 1 rfl) ?_
    refine fx_putT C hH (k := 3) h_t ff_X9_22_8 fL_8 fT_8_3 rfl rfl (Nat.le_of_ble_eq_true rfl) dX9_fail_9 (fun H locs hH => ?_)
    have hH : fx_H G base s (fx_up f t (oO 8 [.ref by_, .int (nI n), .int (nI z.1), .int (nI xx)])) sz H locs := hH
    have h1_t : (fx_up f t (oO 8 [.ref by_, .int (nI n), .int (nI z.1), .int (nI xx)])) t = some (oO 8 [.ref by_, .int (nI n), .int (nI z.1), .int (nI xx)]) := fx_up_s _ _ _
    exact fx_vret C hr hk hH (by rw [fl_0 c4]) rfl (Nat.zero_le _) (Nat.zero_le _) dX9_fail_12
abbrev rm_X9_letterHere : Room := { frames := 0, cells := 0, slots := 0, locals := 0 }
set_option maxHeartbeats 4000000 in
set_option maxRecDepth 100000 in
theorem c_X9_letterHere {G : GG} {base : Nat} {l : Launch} {f : Hp} {sz : Nat} {z : Nat × Nat} {t : Nat} {by_ : Nat} {n : Nat} {g : Nat → Int32} (h_t : f t = some (oO 8 [.ref by_, .int (nI n), .int (nI z.1), .int (nI z.2)])) (h_by_ : f by_ = some (oI 120 g)) (hz2 : z.2 < 100) (hz1 : z.1 ≤ n) (hn : n ≤ 120) : fx_M G base l yX9_letterHere cX9_letterHere 1 (some .int) rm_X9_letterHere [.ref t] f sz (some (.int (lh g n z))) f sz := by
  refine fx_of (by decide +kernel) (Nat.le_of_ble_eq_true rfl) ?_
  intro p e s m args below meth c C hr hk hnm hH ls hl
  obtain ⟨locs, hlocs⟩ : ∃ L : List Loc, L = [] := ⟨_, rfl⟩
  rw [← hlocs] at hH ⊢
  generalize s.heap = H at hH ⊢
  have hx := C.1
  have hb := C.2.1
  have hl : lv_has ls 1 [(0, .ref t)] := hl
  refine lv_aload_n hx hb dX9_letterHere_0 rfl (lv_at hl 0 rfl) ?_
  refine fx_get C hH (k := 3) (v := .int (nI z.2)) h_t ff_X9_22_8 rfl dX9_letterHere_1 ?_
  refine fx_O_ne (a := z.2) hx hb (by omega) (tgt := 30) dX9_letterHere_4 (by decide) (fun c4 => ?_) (fun c4 => ?_)
  · refine lv_iconst (v := (-1)) hx hb dX9_letterHere_30 (by decide) ?_
    exact fx_iret C hr hk hH (by rw [lh, if_neg (fun q => c4 q.1)]) rfl rfl (Nat.zero_le _) (Nat.zero_le _) dX9_letterHere_31
  · refine lv_aload_n hx hb dX9_letterHere_7 rfl (lv_at hl 0 rfl) ?_
    refine fx_get C hH (k := 2) (v := .int (nI z.1)) h_t ff_X9_19_8 rfl dX9_letterHere_8 ?_
    refine lv_aload_n hx hb dX9_letterHere_11 rfl (lv_at hl 0 rfl) ?_
    refine fx_get C hH (k := 1) (v := .int (nI n)) h_t ff_X9_15_8 rfl dX9_letterHere_12 ?_
    refine fx_N_ge (a := z.1) (b := n) hx hb (by omega) (by omega) (tgt := 30) dX9_letterHere_15 (by decide) (fun c15 => ?_) (fun c15 => ?_)
    · refine lv_iconst (v := (-1)) hx hb dX9_letterHere_30 (by decide) ?_
      exact fx_iret C hr hk hH (by rw [lh, if_neg (fun q => absurd q.2 (by omega))]) rfl rfl (Nat.zero_le _) (Nat.zero_le _) dX9_letterHere_31
    · refine lv_aload_n hx hb dX9_letterHere_18 rfl (lv_at hl 0 rfl) ?_
      refine fx_get C hH (k := 0) (v := .ref by_) h_t ff_X9_9_8 rfl dX9_letterHere_19 ?_
      refine lv_aload_n hx hb dX9_letterHere_22 rfl (lv_at hl 0 rfl) ?_
      refine fx_get C hH (k := 2) (v := .int (nI z.1)) h_t ff_X9_19_8 rfl dX9_letterHere_23 ?_
      refine fx_ialdN C hH h_by_ (by omega) (by omega) dX9_letterHere_26 ?_
      refine lv_goto (tgt := 31) hx hb dX9_letterHere_27 (by decide) ?_
      exact fx_iret C hr hk hH (by rw [lh, if_pos ⟨c4, c15⟩]) rfl rfl (Nat.zero_le _) (Nat.zero_le _) dX9_letterHere_31
abbrev rm_X9_takeSign : Room := { frames := 1, cells := 0, slots := 0, locals := 21 }
set_option maxHeartbeats 4000000 in
set_option maxRecDepth 100000 in
theorem c_X9_takeSign {G : GG} {base : Nat} {l : Launch} {f : Hp} {sz : Nat} {z : Nat × Nat} {t : Nat} {sg : Int32} {by_ : Nat} {n : Nat} {g : Nat → Int32} (h_t : f t = some (oO 8 [.ref by_, .int (nI n), .int (nI z.1), .int (nI z.2)])) (h_by_ : f by_ = some (oI 120 g)) (hz2 : z.2 < 100) (hz1 : z.1 ≤ n) (hn : n ≤ 120) : fx_M G base l yX9_takeSign cX9_takeSign 2 none rm_X9_takeSign [.ref t, .int sg] f sz none (fx_up f t (oO 8 [.ref by_, .int (nI n), .int (nI ((tS g n sg z).1)), .int (nI ((tS g n sg z).2))])) sz := by
  refine fx_of (by decide +kernel) (Nat.le_of_ble_eq_true rfl) ?_
  intro p e s m args below meth c C hr hk hnm hH ls hl
  obtain ⟨locs, hlocs⟩ : ∃ L : List Loc, L = [] := ⟨_, rfl⟩
  rw [← hlocs] at hH ⊢
  generalize s.heap = H at hH ⊢
  have hx := C.1
  have hb := C.2.1
  have hl : lv_has ls 2 [(0, .ref t), (1, .int sg)] := hl
  refine lv_aload_n hx hb dX9_takeSign_0 rfl (lv_at hl 0 rfl) ?_
  refine fx_get C hH (k := 3) (v := .int (nI z.2)) h_t ff_X9_22_8 rfl dX9_takeSign_1 ?_
  refine fx_O_ne (a := z.2) hx hb (by omega) (tgt := 28) dX9_takeSign_4 (by decide) (fun c4 => ?_) (fun c4 => ?_)
  · refine lv_aload_n hx hb dX9_takeSign_28 rfl (lv_at hl 0 rfl) ?_
    refine lv_iconst (v := nI 1) hx hb dX9_takeSign_29 (by decide) ?_
    refine fx_go0 hH (fx_runV C hH hl.1 (As := [.int (nI 1)]) (rest := []) (c_X9_fail (G := G) (base := base) (l := l) (f := f) (sz := sz) (z := z) (t := t) (xx := 1) (by_ := by_) (n := n) h_t (by omega)) mY_X9_fail ml_X9_49 im_X9_fail se_X9_X9_fail h_t rfl rfl ⟨(Nat.le_of_ble_eq_true rfl), (Nat.le_of_ble_eq_true rfl)⟩ rfl (Nat.le_of_ble_eq_true rfl) ⟨(Nat.le_of_ble_eq_true rfl), (Nat.le_of_ble_eq_true rfl)⟩ dX9_takeSign_30) (fun H locs hH => ?_)
    have hH : fx_H G base s (fx_up f t (oO 8 [.ref by_, .int (nI n), .int (nI ((fl 1 z).1)), .int (nI ((fl 1 z).2))])) sz H locs := hH
    have h1_by_ : (fx_up f t (oO 8 [.ref by_, .int (nI n), .int (nI ((fl 1 z).1)), .int (nI ((fl 1 z).2))])) by_ = some (oI 120 g) := (fx_up_n _ _ (fx_ne h_by_ h_t rfl)).trans h_by_
    have h1_t : (fx_up f t (oO 8 [.ref by_, .int (nI n), .int (nI ((fl 1 z).1)), .int (nI ((fl 1 z).2))])) t = some (oO 8 [.ref by_, .int (nI n), .int (nI ((fl 1 z).1)), .int (nI ((fl 1 z).2))]) := fx_up_s _ _ _
    have hH : fx_H G base s (fx_up f t (oO 8 [.ref by_, .int (nI n), .int (nI ((fl 1 z).1)), .int (nI ((fl 1 z).2))])) sz H locs := hH
    exact fx_vret C hr hk hH (by rw [tS, if_neg (fun q => c4 q.1)]) rfl (Nat.zero_le _) (Nat.zero_le _) dX9_takeSign_33
  · refine lv_aload_n hx hb dX9_takeSign_7 rfl (lv_at hl 0 rfl) ?_
    refine fx_go1 hH (fx_runV C hH hl.1 (As := []) (rest := []) (c_X9_letterHere (G := G) (base := base) (l := l) (f := f) (sz := sz) (z := z) (t := t) (by_ := by_) (n := n) (g := g) h_t h_by_ (by omega) (by omega) (by omega)) mY_X9_letterHere ml_X9_35 im_X9_letterHere se_X9_X9_letterHere h_t rfl rfl ⟨(Nat.le_of_ble_eq_true rfl), (Nat.le_of_ble_eq_true rfl)⟩ rfl (Nat.le_of_ble_eq_true rfl) ⟨(Nat.le_of_ble_eq_true rfl), (Nat.le_of_ble_eq_true rfl)⟩ dX9_takeSign_8) (fun H locs hH => ?_)
    refine lv_iload_n hx hb dX9_takeSign_11 rfl (lv_at hl 1 rfl) ?_
    refine lv_icmp_ne hx hb (tgt := 28) dX9_takeSign_12 (by decide) (fun c12 => ?_) (fun c12 => ?_)
    · refine lv_aload_n hx hb dX9_takeSign_28 rfl (lv_at hl 0 rfl) ?_
      refine lv_iconst (v := nI 1) hx hb dX9_takeSign_29 (by decide) ?_
      refine fx_go0 hH (fx_runV C hH hl.1 (As := [.int (nI 1)]) (rest := []) (c_X9_fail (G := G) (base := base) (l := l) (f := f) (sz := sz) (z := z) (t := t) (xx := 1) (by_ := by_) (n := n) h_t (by omega)) mY_X9_fail ml_X9_49 im_X9_fail se_X9_X9_fail h_t rfl rfl ⟨(Nat.le_of_ble_eq_true rfl), (Nat.le_of_ble_eq_true rfl)⟩ rfl (Nat.le_of_ble_eq_true rfl) ⟨(Nat.le_of_ble_eq_true rfl), (Nat.le_of_ble_eq_true rfl)⟩ dX9_takeSign_30) (fun H locs hH => ?_)
      have hH : fx_H G base s (fx_up f t (oO 8 [.ref by_, .int (nI n), .int (nI ((fl 1 z).1)), .int (nI ((fl 1 z).2))])) sz H locs := hH
      have h2_by_ : (fx_up f t (oO 8 [.ref by_, .int (nI n), .int (nI ((fl 1 z).1)), .int (nI ((fl 1 z).2))])) by_ = some (oI 120 g) := (fx_up_n _ _ (fx_ne h_by_ h_t rfl)).trans h_by_
      have h2_t : (fx_up f t (oO 8 [.ref by_, .int (nI n), .int (nI ((fl 1 z).1)), .int (nI ((fl 1 z).2))])) t = some (oO 8 [.ref by_, .int (nI n), .int (nI ((fl 1 z).1)), .int (nI ((fl 1 z).2))]) := fx_up_s _ _ _
      have hH : fx_H G base s (fx_up f t (oO 8 [.ref by_, .int (nI n), .int (nI ((fl 1 z).1)), .int (nI ((fl 1 z).2))])) sz H locs := hH
      exact fx_vret C hr hk hH (by rw [tS, if_neg (fun q => c12 q.2)]) rfl (Nat.zero_le _) (Nat.zero_le _) dX9_takeSign_33
    · refine lv_aload_n hx hb dX9_takeSign_15 rfl (lv_at hl 0 rfl) ?_
      refine lv_dup hx hb dX9_takeSign_16 rfl ?_
      refine fx_get C hH (k := 2) (v := .int (nI z.1)) h_t ff_X9_19_8 rfl dX9_takeSign_17 ?_
      refine lv_iconst (v := nI 1) hx hb dX9_takeSign_20 (by decide) ?_
      refine lv_iadd hx hb dX9_takeSign_21 ?_
      refine fx_ti (y := nI (z.1 + 1)) (nI_add _ _) ?_
      refine fx_putT C hH (k := 2) h_t ff_X9_19_8 fL_8 fT_8_2 rfl rfl (Nat.le_of_ble_eq_true rfl) dX9_takeSign_22 (fun H locs hH => ?_)
      have hH : fx_H G base s (fx_up f t (oO 8 [.ref by_, .int (nI n), .int (nI (z.1 + 1)), .int (nI z.2)])) sz H locs := hH
      have h3_by_ : (fx_up f t (oO 8 [.ref by_, .int (nI n), .int (nI (z.1 + 1)), .int (nI z.2)])) by_ = some (oI 120 g) := (fx_up_n _ _ (fx_ne h_by_ h_t rfl)).trans h_by_
      have h3_t : (fx_up f t (oO 8 [.ref by_, .int (nI n), .int (nI (z.1 + 1)), .int (nI z.2)])) t = some (oO 8 [.ref by_, .int (nI n), .int (nI (z.1 + 1)), .int (nI z.2)]) := fx_up_s _ _ _
      refine lv_goto (tgt := 33) hx hb dX9_takeSign_25 (by decide) ?_
      exact fx_vret C hr hk hH (by rw [tS, if_pos ⟨c4, c12⟩, ← c4]) rfl (Nat.zero_le _) (Nat.zero_le _) dX9_takeSign_33
abbrev rm_X9_figuresHere : Room := { frames := 0, cells := 0, slots := 0, locals := 0 }
set_option maxHeartbeats 4000000 in
set_option maxRecDepth 100000 in
theorem c_X9_figuresHere {G : GG} {base : Nat} {l : Launch} {f : Hp} {sz : Nat} {z : Nat × Nat} {t : Nat} {by_ : Nat} {n : Nat} {g : Nat → Int32} (h_t : f t = some (oO 8 [.ref by_, .int (nI n), .int (nI z.1), .int (nI z.2)])) (h_by_ : f by_ = some (oI 120 g)) (hz2 : z.2 < 100) (hz1 : z.1 ≤ n) (hn : n ≤ 120) : fx_M G base l yX9_figuresHere cX9_figuresHere 2 (some .int) rm_X9_figuresHere [.ref t] f sz (some (.int (nI (fg g n z.1)))) f sz := by
  refine fx_of (by decide +kernel) (Nat.le_of_ble_eq_true rfl) ?_
  intro p e s m args below meth c C hr hk hnm hH ls hl
  obtain ⟨locs, hlocs⟩ : ∃ L : List Loc, L = [] := ⟨_, rfl⟩
  rw [← hlocs] at hH ⊢
  generalize s.heap = H at hH ⊢
  have hx := C.1
  have hb := C.2.1
  have hl : lv_has ls 2 [(0, .ref t)] := hl
  refine lv_aload_n hx hb dX9_figuresHere_0 rfl (lv_at hl 0 rfl) ?_
  refine fx_get C hH (k := 2) (v := .int (nI z.1)) h_t ff_X9_19_8 rfl dX9_figuresHere_1 ?_
  refine lv_istore_n (lv' := [(1, .int (nI z.1)), (0, .ref t)]) hx hb dX9_figuresHere_4 rfl hl (by decide) rfl (fun ls hl => ?_)
  have loop_5 : ∀ (N_5 : Nat) (j : Nat) (hj : z.1 + j ≤ n) (hfg : fg g n z.1 = j + fg g n (z.1 + j)) (hm_5 : n - (z.1 + j) < N_5) (H : Heap) (locs : List Loc) (hH : fx_H G base s f sz H locs) (ls : Array Slot) (hl : lv_has ls 2 [(0, .ref t), (1, .int (nI (z.1 + j)))]), W p l e rm_X9_figuresHere s m args below meth c H locs 0 0 (MQ below (fx_Q G base (some (.int (nI (fg g n z.1)))) f sz) args s rm_X9_figuresHere.cells rm_X9_figuresHere.slots (fun q => base ≤ q)) (F0 m 5 ls []) := by
    intro N_5
    induction N_5 with
    | zero => intro j hj hfg hm_5; exact absurd hm_5 (Nat.not_lt_zero _)
    | succ N_5 ih_5 =>
      intro j hj hfg hm_5 H locs hH ls hl
      refine lv_iload_n hx hb dX9_figuresHere_5 rfl (lv_at hl 1 rfl) ?_
      refine lv_aload_n hx hb dX9_figuresHere_6 rfl (lv_at hl 0 rfl) ?_
      refine fx_get C hH (k := 1) (v := .int (nI n)) h_t ff_X9_15_8 rfl dX9_figuresHere_7 ?_
      refine fx_N_ge (a := z.1 + j) (b := n) hx hb (by omega) (by omega) (tgt := 41) dX9_figuresHere_10 (by decide) (fun c10 => ?_) (fun c10 => ?_)
      · refine lv_iload_n hx hb dX9_figuresHere_41 rfl (lv_at hl 1 rfl) ?_
        refine lv_aload_n hx hb dX9_figuresHere_42 rfl (lv_at hl 0 rfl) ?_
        refine fx_get C hH (k := 2) (v := .int (nI z.1)) h_t ff_X9_19_8 rfl dX9_figuresHere_43 ?_
        refine lv_isub hx hb dX9_figuresHere_46 ?_
        refine fx_ti (y := nI ((z.1 + j) - z.1)) (pk_sub (by omega)) ?_
        exact fx_iret C hr hk hH (by rw [hfg, fg_n (Or.inl (by omega))]; rw [show z.1 + j - z.1 = j + 0 from (by omega)]) rfl rfl (Nat.zero_le _) (Nat.zero_le _) dX9_figuresHere_47
      · refine lv_aload_n hx hb dX9_figuresHere_13 rfl (lv_at hl 0 rfl) ?_
        refine fx_get C hH (k := 0) (v := .ref by_) h_t ff_X9_9_8 rfl dX9_figuresHere_14 ?_
        refine lv_iload_n hx hb dX9_figuresHere_17 rfl (lv_at hl 1 rfl) ?_
        refine fx_ialdN C hH h_by_ (by omega) (by omega) dX9_figuresHere_18 ?_
        refine lv_bipush (v := nI 48) hx hb dX9_figuresHere_19 (by decide) ?_
        refine lv_icmp_lt hx hb (tgt := 41) dX9_figuresHere_21 (by decide) (fun c21 => ?_) (fun c21 => ?_)
        · refine lv_iload_n hx hb dX9_figuresHere_41 rfl (lv_at hl 1 rfl) ?_
          refine lv_aload_n hx hb dX9_figuresHere_42 rfl (lv_at hl 0 rfl) ?_
          refine fx_get C hH (k := 2) (v := .int (nI z.1)) h_t ff_X9_19_8 rfl dX9_figuresHere_43 ?_
          refine lv_isub hx hb dX9_figuresHere_46 ?_
          refine fx_ti (y := nI ((z.1 + j) - z.1)) (pk_sub (by omega)) ?_
          exact fx_iret C hr hk hH (by rw [hfg, fg_n (Or.inr (fun q => q.1 c21))]; rw [show z.1 + j - z.1 = j + 0 from (by omega)]) rfl rfl (Nat.zero_le _) (Nat.zero_le _) dX9_figuresHere_47
        · refine lv_aload_n hx hb dX9_figuresHere_24 rfl (lv_at hl 0 rfl) ?_
          refine fx_get C hH (k := 0) (v := .ref by_) h_t ff_X9_9_8 rfl dX9_figuresHere_25 ?_
          refine lv_iload_n hx hb dX9_figuresHere_28 rfl (lv_at hl 1 rfl) ?_
          refine fx_ialdN C hH h_by_ (by omega) (by omega) dX9_figuresHere_29 ?_
          refine lv_bipush (v := nI 57) hx hb dX9_figuresHere_30 (by decide) ?_
          refine lv_icmp_gt hx hb (tgt := 41) dX9_figuresHere_32 (by decide) (fun c32 => ?_) (fun c32 => ?_)
          · refine lv_iload_n hx hb dX9_figuresHere_41 rfl (lv_at hl 1 rfl) ?_
            refine lv_aload_n hx hb dX9_figuresHere_42 rfl (lv_at hl 0 rfl) ?_
            refine fx_get C hH (k := 2) (v := .int (nI z.1)) h_t ff_X9_19_8 rfl dX9_figuresHere_43 ?_
            refine lv_isub hx hb dX9_figuresHere_46 ?_
            refine fx_ti (y := nI ((z.1 + j) - z.1)) (pk_sub (by omega)) ?_
            exact fx_iret C hr hk hH (by rw [hfg, fg_n (Or.inr (fun q => q.2 c32))]; rw [show z.1 + j - z.1 = j + 0 from (by omega)]) rfl rfl (Nat.zero_le _) (Nat.zero_le _) dX9_figuresHere_47
          · refine lv_iinc (v := nI (z.1 + j + 1)) (lv' := [(1, .int (nI (z.1 + j + 1))), (0, .ref t)]) hx hb dX9_figuresHere_35 hl (k := 1) rfl (nI_1 _) (by decide) rfl (fun ls hl => ?_)
            refine lv_goto (tgt := 5) hx hb dX9_figuresHere_38 (by decide) ?_
            have hl : lv_has ls 2 [(0, .ref t), (1, .int (nI (z.1 + j + 1)))] := lv_sub hl [1, 0] rfl
            have hl : lv_has ls 2 [(0, .ref t), (1, .int (nI (z.1 + (j + 1))))] := hl
            exact ih_5 (j + 1) (by omega) (by rw [hfg, fg_y (a := z.1 + j) (by omega) ⟨c21, c32⟩, show z.1 + (j + 1) = z.1 + j + 1 from rfl]; omega) (by omega) _ _ hH _ hl
  have hl : lv_has ls 2 [(0, .ref t), (1, .int (nI z.1))] := lv_sub hl [1, 0] rfl
  have hl : lv_has ls 2 [(0, .ref t), (1, .int (nI (z.1 + 0)))] := hl
  exact loop_5 _ 0 hz1 ((Nat.zero_add _).symm) (Nat.lt_succ_self _) _ _ hH _ hl
abbrev rm_X9_takeNumber : Room := { frames := 1, cells := 0, slots := 0, locals := 21 }
set_option maxHeartbeats 4000000 in
set_option maxRecDepth 100000 in
theorem c_X9_takeNumber {G : GG} {base : Nat} {l : Launch} {f : Hp} {sz : Nat} {z : Nat × Nat} {t : Nat} {lo : Nat} {hi : Nat} {by_ : Nat} {n : Nat} {g : Nat → Int32} (h_t : f t = some (oO 8 [.ref by_, .int (nI n), .int (nI z.1), .int (nI z.2)])) (h_by_ : f by_ = some (oI 120 g)) (hz2 : z.2 < 100) (hz1 : z.1 ≤ n) (hn : n ≤ 120) (hlo : lo < 100) (hhi : hi < 100) : fx_M G base l yX9_takeNumber cX9_takeNumber 6 (some .int) rm_X9_takeNumber [.ref t, .int (nI lo), .int (nI hi)] f sz (some (.int (nI ((tN g n lo hi z).2)))) (fx_up f t (oO 8 [.ref by_, .int (nI n), .int (nI ((tN g n lo hi z).1.1)), .int (nI ((tN g n lo hi z).1.2))])) sz := by
  refine fx_of (by decide +kernel) (Nat.le_of_ble_eq_true rfl) ?_
  intro p e s m args below meth c C hr hk hnm hH ls hl
  obtain ⟨locs, hlocs⟩ : ∃ L : List Loc, L = [] := ⟨_, rfl⟩
  rw [← hlocs] at hH ⊢
  generalize s.heap = H at hH ⊢
  have hx := C.1
  have hb := C.2.1
  have hl : lv_has ls 6 [(0, .ref t), (1, .int (nI lo)), (2, .int (nI hi))] := hl
  have hfl := fg_le (g := g) (n - z.1) z.1
  have hfg0 : fg g n z.1 = fgc g (n - z.1) z.1 := rfl
  refine lv_aload_n hx hb dX9_takeNumber_0 rfl (lv_at hl 0 rfl) ?_
  refine fx_go1 hH (fx_runV C hH hl.1 (As := []) (rest := []) (c_X9_figuresHere (G := G) (base := base) (l := l) (f := f) (sz := sz) (z := z) (t := t) (by_ := by_) (n := n) (g := g) h_t h_by_ (by omega) (by omega) (by omega)) mY_X9_figuresHere ml_X9_109 im_X9_figuresHere se_X9_X9_figuresHere h_t rfl rfl ⟨(Nat.le_of_ble_eq_true rfl), (Nat.le_of_ble_eq_true rfl)⟩ rfl (Nat.le_of_ble_eq_true rfl) ⟨(Nat.le_of_ble_eq_true rfl), (Nat.le_of_ble_eq_true rfl)⟩ dX9_takeNumber_1) (fun H locs hH => ?_)
  refine lv_istore_n (lv' := [(3, .int (nI (fg g n z.1))), (0, .ref t), (1, .int (nI lo)), (2, .int (nI hi))]) hx hb dX9_takeNumber_4 rfl hl (by decide) rfl (fun ls hl => ?_)
  refine lv_aload_n hx hb dX9_takeNumber_5 rfl (lv_at hl 1 rfl) ?_
  refine fx_get C hH (k := 3) (v := .int (nI z.2)) h_t ff_X9_22_8 rfl dX9_takeNumber_6 ?_
  refine fx_O_ne (a := z.2) hx hb (by omega) (tgt := 22) dX9_takeNumber_9 (by decide) (fun c9 => ?_) (fun c9 => ?_)
  · refine lv_aload_n hx hb dX9_takeNumber_22 rfl (lv_at hl 1 rfl) ?_
    refine lv_iconst (v := nI 1) hx hb dX9_takeNumber_23 (by decide) ?_
    refine fx_go0 hH (fx_runV C hH hl.1 (As := [.int (nI 1)]) (rest := []) (c_X9_fail (G := G) (base := base) (l := l) (f := f) (sz := sz) (z := z) (t := t) (xx := 1) (by_ := by_) (n := n) h_t (by omega)) mY_X9_fail ml_X9_49 im_X9_fail se_X9_X9_fail h_t rfl rfl ⟨(Nat.le_of_ble_eq_true rfl), (Nat.le_of_ble_eq_true rfl)⟩ rfl (Nat.le_of_ble_eq_true rfl) ⟨(Nat.le_of_ble_eq_true rfl), (Nat.le_of_ble_eq_true rfl)⟩ dX9_takeNumber_24) (fun H locs hH => ?_)
    have hH : fx_H G base s (fx_up f t (oO 8 [.ref by_, .int (nI n), .int (nI ((fl 1 z).1)), .int (nI ((fl 1 z).2))])) sz H locs := hH
    have h1_by_ : (fx_up f t (oO 8 [.ref by_, .int (nI n), .int (nI ((fl 1 z).1)), .int (nI ((fl 1 z).2))])) by_ = some (oI 120 g) := (fx_up_n _ _ (fx_ne h_by_ h_t rfl)).trans h_by_
    have h1_t : (fx_up f t (oO 8 [.ref by_, .int (nI n), .int (nI ((fl 1 z).1)), .int (nI ((fl 1 z).2))])) t = some (oO 8 [.ref by_, .int (nI n), .int (nI ((fl 1 z).1)), .int (nI ((fl 1 z).2))]) := fx_up_s _ _ _
    have hH : fx_H G base s (fx_up f t (oO 8 [.ref by_, .int (nI n), .int (nI ((fl 1 z).1)), .int (nI ((fl 1 z).2))])) sz H locs := hH
    refine lv_iconst (v := nI 0) hx hb dX9_takeNumber_27 (by decide) ?_
    exact fx_iret C hr hk hH (by rw [tN, if_neg (fun q => c9 q.1)]) (by rw [tN, if_neg (fun q => c9 q.1)]) rfl (Nat.zero_le _) (Nat.zero_le _) dX9_takeNumber_28
  · refine lv_iload_n hx hb dX9_takeNumber_12 rfl (lv_at hl 0 rfl) ?_
    refine lv_iconst (v := nI 1) hx hb dX9_takeNumber_13 (by decide) ?_
    refine fx_N_lt (a := fg g n z.1) (b := 1) hx hb (by omega) (by omega) (tgt := 22) dX9_takeNumber_14 (by decide) (fun c14 => ?_) (fun c14 => ?_)
    · refine lv_aload_n hx hb dX9_takeNumber_22 rfl (lv_at hl 1 rfl) ?_
      refine lv_iconst (v := nI 1) hx hb dX9_takeNumber_23 (by decide) ?_
      refine fx_go0 hH (fx_runV C hH hl.1 (As := [.int (nI 1)]) (rest := []) (c_X9_fail (G := G) (base := base) (l := l) (f := f) (sz := sz) (z := z) (t := t) (xx := 1) (by_ := by_) (n := n) h_t (by omega)) mY_X9_fail ml_X9_49 im_X9_fail se_X9_X9_fail h_t rfl rfl ⟨(Nat.le_of_ble_eq_true rfl), (Nat.le_of_ble_eq_true rfl)⟩ rfl (Nat.le_of_ble_eq_true rfl) ⟨(Nat.le_of_ble_eq_true rfl), (Nat.le_of_ble_eq_true rfl)⟩ dX9_takeNumber_24) (fun H locs hH => ?_)
      have hH : fx_H G base s (fx_up f t (oO 8 [.ref by_, .int (nI n), .int (nI ((fl 1 z).1)), .int (nI ((fl 1 z).2))])) sz H locs := hH
      have h2_by_ : (fx_up f t (oO 8 [.ref by_, .int (nI n), .int (nI ((fl 1 z).1)), .int (nI ((fl 1 z).2))])) by_ = some (oI 120 g) := (fx_up_n _ _ (fx_ne h_by_ h_t rfl)).trans h_by_
      have h2_t : (fx_up f t (oO 8 [.ref by_, .int (nI n), .int (nI ((fl 1 z).1)), .int (nI ((fl 1 z).2))])) t = some (oO 8 [.ref by_, .int (nI n), .int (nI ((fl 1 z).1)), .int (nI ((fl 1 z).2))]) := fx_up_s _ _ _
      have hH : fx_H G base s (fx_up f t (oO 8 [.ref by_, .int (nI n), .int (nI ((fl 1 z).1)), .int (nI ((fl 1 z).2))])) sz H locs := hH
      refine lv_iconst (v := nI 0) hx hb dX9_takeNumber_27 (by decide) ?_
      exact fx_iret C hr hk hH (by rw [tN, if_neg (fun q => q.2.1 c14)]) (by rw [tN, if_neg (fun q => q.2.1 c14)]) rfl (Nat.zero_le _) (Nat.zero_le _) dX9_takeNumber_28
    · refine lv_iload_n hx hb dX9_takeNumber_17 rfl (lv_at hl 0 rfl) ?_
      refine lv_iconst (v := nI 2) hx hb dX9_takeNumber_18 (by decide) ?_
      refine fx_N_le (a := fg g n z.1) (b := 2) hx hb (by omega) (by omega) (tgt := 29) dX9_takeNumber_19 (by decide) (fun c19 => ?_) (fun c19 => ?_)
      · refine lv_iconst (v := nI 0) hx hb dX9_takeNumber_29 (by decide) ?_
        refine lv_istore (lv' := [(4, .int (nI 0)), (3, .int (nI (fg g n z.1))), (0, .ref t), (1, .int (nI lo)), (2, .int (nI hi))]) hx hb dX9_takeNumber_30 hl (by decide) rfl (fun ls hl => ?_)
        refine lv_aload_n hx hb dX9_takeNumber_32 rfl (lv_at hl 2 rfl) ?_
        refine fx_get C hH (k := 2) (v := .int (nI z.1)) h_t ff_X9_19_8 rfl dX9_takeNumber_33 ?_
        refine lv_istore (lv' := [(5, .int (nI z.1)), (4, .int (nI 0)), (3, .int (nI (fg g n z.1))), (0, .ref t), (1, .int (nI lo)), (2, .int (nI hi))]) hx hb dX9_takeNumber_36 hl (by decide) rfl (fun ls hl => ?_)
        have loop_38 : ∀ (N_38 : Nat) (j : Nat) (hj : j ≤ fg g n z.1) (hm_38 : fg g n z.1 - j < N_38) (H : Heap) (locs : List Loc) (hH : fx_H G base s f sz H locs) (ls : Array Slot) (hl : lv_has ls 6 [(0, .ref t), (1, .int (nI lo)), (2, .int (nI hi)), (3, .int (nI (fg g n z.1))), (4, .int (nvI g z.1 j)), (5, .int (nI (z.1 + j)))]), W p l e rm_X9_takeNumber s m args below meth c H locs 0 0 (MQ below (fx_Q G base (some (.int (nI ((tN g n lo hi z).2)))) (fx_up f t (oO 8 [.ref by_, .int (nI n), .int (nI ((tN g n lo hi z).1.1)), .int (nI ((tN g n lo hi z).1.2))])) sz) args s rm_X9_takeNumber.cells rm_X9_takeNumber.slots (fun q => base ≤ q)) (F0 m 38 ls []) := by
          intro N_38
          induction N_38 with
          | zero => intro j hj hm_38; exact absurd hm_38 (Nat.not_lt_zero _)
          | succ N_38 ih_38 =>
            intro j hj hm_38 H locs hH ls hl
            refine lv_iload hx hb dX9_takeNumber_38 (lv_at hl 5 rfl) ?_
            refine lv_aload_n hx hb dX9_takeNumber_40 rfl (lv_at hl 0 rfl) ?_
            refine fx_get C hH (k := 2) (v := .int (nI z.1)) h_t ff_X9_19_8 rfl dX9_takeNumber_41 ?_
            refine lv_iload_n hx hb dX9_takeNumber_44 rfl (lv_at hl 3 rfl) ?_
            refine lv_iadd hx hb dX9_takeNumber_45 ?_
            refine fx_ti (y := nI (z.1 + (fg g n z.1))) (nI_add _ _) ?_
            refine fx_N_ge (a := z.1 + j) (b := z.1 + (fg g n z.1)) hx hb (by omega) (by omega) (tgt := 73) dX9_takeNumber_46 (by decide) (fun c46 => ?_) (fun c46 => ?_)
            · have hjf : j = fg g n z.1 := by omega
              refine lv_iload hx hb dX9_takeNumber_73 (lv_at hl 4 rfl) ?_
              refine lv_iload_n hx hb dX9_takeNumber_75 rfl (lv_at hl 1 rfl) ?_
              refine lv_icmp_lt hx hb (tgt := 85) dX9_takeNumber_76 (by decide) (fun c76 => ?_) (fun c76 => ?_)
              · refine lv_aload_n hx hb dX9_takeNumber_85 rfl (lv_at hl 0 rfl) ?_
                refine lv_iconst (v := nI 2) hx hb dX9_takeNumber_86 (by decide) ?_
                refine fx_go0 hH (fx_runV C hH hl.1 (As := [.int (nI 2)]) (rest := []) (c_X9_fail (G := G) (base := base) (l := l) (f := f) (sz := sz) (z := z) (t := t) (xx := 2) (by_ := by_) (n := n) h_t (by omega)) mY_X9_fail ml_X9_49 im_X9_fail se_X9_X9_fail h_t rfl rfl ⟨(Nat.le_of_ble_eq_true rfl), (Nat.le_of_ble_eq_true rfl)⟩ rfl (Nat.le_of_ble_eq_true rfl) ⟨(Nat.le_of_ble_eq_true rfl), (Nat.le_of_ble_eq_true rfl)⟩ dX9_takeNumber_87) (fun H locs hH => ?_)
                have hH : fx_H G base s (fx_up f t (oO 8 [.ref by_, .int (nI n), .int (nI ((fl 2 z).1)), .int (nI ((fl 2 z).2))])) sz H locs := hH
                have h3_by_ : (fx_up f t (oO 8 [.ref by_, .int (nI n), .int (nI ((fl 2 z).1)), .int (nI ((fl 2 z).2))])) by_ = some (oI 120 g) := (fx_up_n _ _ (fx_ne h_by_ h_t rfl)).trans h_by_
                have h3_t : (fx_up f t (oO 8 [.ref by_, .int (nI n), .int (nI ((fl 2 z).1)), .int (nI ((fl 2 z).2))])) t = some (oO 8 [.ref by_, .int (nI n), .int (nI ((fl 2 z).1)), .int (nI ((fl 2 z).2))]) := fx_up_s _ _ _
                have hH : fx_H G base s (fx_up f t (oO 8 [.ref by_, .int (nI n), .int (nI ((fl 2 z).1)), .int (nI ((fl 2 z).2))])) sz H locs := hH
                refine lv_iconst (v := nI 0) hx hb dX9_takeNumber_90 (by decide) ?_
                exact fx_iret C hr hk hH (by rw [tN, if_pos ⟨c9, by omega, by omega⟩, if_neg (fun q => q.1 (by rw [← hjf]; exact c76))]) (by rw [tN, if_pos ⟨c9, by omega, by omega⟩, if_neg (fun q => q.1 (by rw [← hjf]; exact c76))]) rfl (Nat.zero_le _) (Nat.zero_le _) dX9_takeNumber_91
              · refine lv_iload hx hb dX9_takeNumber_79 (lv_at hl 4 rfl) ?_
                refine lv_iload_n hx hb dX9_takeNumber_81 rfl (lv_at hl 2 rfl) ?_
                refine lv_icmp_le hx hb (tgt := 92) dX9_takeNumber_82 (by decide) (fun c82 => ?_) (fun c82 => ?_)
                · refine lv_aload_n hx hb dX9_takeNumber_92 rfl (lv_at hl 0 rfl) ?_
                  refine lv_dup hx hb dX9_takeNumber_93 rfl ?_
                  refine fx_get C hH (k := 2) (v := .int (nI z.1)) h_t ff_X9_19_8 rfl dX9_takeNumber_94 ?_
                  refine lv_iload_n hx hb dX9_takeNumber_97 rfl (lv_at hl 3 rfl) ?_
                  refine lv_iadd hx hb dX9_takeNumber_98 ?_
                  refine fx_ti (y := nI (z.1 + (fg g n z.1))) (nI_add _ _) ?_
                  refine fx_putT C hH (k := 2) h_t ff_X9_19_8 fL_8 fT_8_2 rfl rfl (Nat.le_of_ble_eq_true rfl) dX9_takeNumber_99 (fun H locs hH => ?_)
                  have hH : fx_H G base s (fx_up f t (oO 8 [.ref by_, .int (nI n), .int (nI (z.1 + (fg g n z.1))), .int (nI z.2)])) sz H locs := hH
                  have h4_by_ : (fx_up f t (oO 8 [.ref by_, .int (nI n), .int (nI (z.1 + (fg g n z.1))), .int (nI z.2)])) by_ = some (oI 120 g) := (fx_up_n _ _ (fx_ne h_by_ h_t rfl)).trans h_by_
                  have h4_t : (fx_up f t (oO 8 [.ref by_, .int (nI n), .int (nI (z.1 + (fg g n z.1))), .int (nI z.2)])) t = some (oO 8 [.ref by_, .int (nI n), .int (nI (z.1 + (fg g n z.1))), .int (nI z.2)]) := fx_up_s _ _ _
                  refine lv_iload hx hb dX9_takeNumber_102 (lv_at hl 4 rfl) ?_
                  exact fx_iret C hr hk hH (by rw [tN, if_pos ⟨c9, by omega, by omega⟩, if_pos ⟨by rw [← hjf]; exact c76, by rw [← hjf]; exact c82⟩]; rw [hjf]; exact (nI_back (lo := lo) (hi := hi) (by omega) (by rw [← hjf]; exact c76) (by omega) (by rw [← hjf]; exact c82)).1) (by rw [tN, if_pos ⟨c9, by omega, by omega⟩, if_pos ⟨by rw [← hjf]; exact c76, by rw [← hjf]; exact c82⟩, ← c9]) rfl (Nat.zero_le _) (Nat.zero_le _) dX9_takeNumber_104
                · refine lv_aload_n hx hb dX9_takeNumber_85 rfl (lv_at hl 0 rfl) ?_
                  refine lv_iconst (v := nI 2) hx hb dX9_takeNumber_86 (by decide) ?_
                  refine fx_go0 hH (fx_runV C hH hl.1 (As := [.int (nI 2)]) (rest := []) (c_X9_fail (G := G) (base := base) (l := l) (f := f) (sz := sz) (z := z) (t := t) (xx := 2) (by_ := by_) (n := n) h_t (by omega)) mY_X9_fail ml_X9_49 im_X9_fail se_X9_X9_fail h_t rfl rfl ⟨(Nat.le_of_ble_eq_true rfl), (Nat.le_of_ble_eq_true rfl)⟩ rfl (Nat.le_of_ble_eq_true rfl) ⟨(Nat.le_of_ble_eq_true rfl), (Nat.le_of_ble_eq_true rfl)⟩ dX9_takeNumber_87) (fun H locs hH => ?_)
                  have hH : fx_H G base s (fx_up f t (oO 8 [.ref by_, .int (nI n), .int (nI ((fl 2 z).1)), .int (nI ((fl 2 z).2))])) sz H locs := hH
                  have h5_by_ : (fx_up f t (oO 8 [.ref by_, .int (nI n), .int (nI ((fl 2 z).1)), .int (nI ((fl 2 z).2))])) by_ = some (oI 120 g) := (fx_up_n _ _ (fx_ne h_by_ h_t rfl)).trans h_by_
                  have h5_t : (fx_up f t (oO 8 [.ref by_, .int (nI n), .int (nI ((fl 2 z).1)), .int (nI ((fl 2 z).2))])) t = some (oO 8 [.ref by_, .int (nI n), .int (nI ((fl 2 z).1)), .int (nI ((fl 2 z).2))]) := fx_up_s _ _ _
                  have hH : fx_H G base s (fx_up f t (oO 8 [.ref by_, .int (nI n), .int (nI ((fl 2 z).1)), .int (nI ((fl 2 z).2))])) sz H locs := hH
                  refine lv_iconst (v := nI 0) hx hb dX9_takeNumber_90 (by decide) ?_
                  exact fx_iret C hr hk hH (by rw [tN, if_pos ⟨c9, by omega, by omega⟩, if_neg (fun q => c82 (by rw [hjf]; exact q.2))]) (by rw [tN, if_pos ⟨c9, by omega, by omega⟩, if_neg (fun q => c82 (by rw [hjf]; exact q.2))]) rfl (Nat.zero_le _) (Nat.zero_le _) dX9_takeNumber_91
            · refine lv_iload hx hb dX9_takeNumber_49 (lv_at hl 4 rfl) ?_
              refine lv_bipush (v := nI 10) hx hb dX9_takeNumber_51 (by decide) ?_
              refine lv_imul hx hb dX9_takeNumber_53 ?_
              refine lv_aload_n hx hb dX9_takeNumber_54 rfl (lv_at hl 0 rfl) ?_
              refine fx_get C hH (k := 0) (v := .ref by_) h_t ff_X9_9_8 rfl dX9_takeNumber_55 ?_
              refine lv_iload hx hb dX9_takeNumber_58 (lv_at hl 5 rfl) ?_
              refine fx_ialdN C hH h_by_ (by omega) (by omega) dX9_takeNumber_60 ?_
              refine lv_iadd hx hb dX9_takeNumber_61 ?_
              refine lv_bipush (v := nI 48) hx hb dX9_takeNumber_62 (by decide) ?_
              refine lv_isub hx hb dX9_takeNumber_64 ?_
              refine lv_istore (lv' := [(4, .int ((((nvI g z.1 j) * (nI 10)) + (g (z.1 + j))) - (nI 48))), (0, .ref t), (1, .int (nI lo)), (2, .int (nI hi)), (3, .int (nI (fg g n z.1))), (5, .int (nI (z.1 + j)))]) hx hb dX9_takeNumber_65 hl (by decide) rfl (fun ls hl => ?_)
              refine lv_iinc (v := nI (z.1 + j + 1)) (lv' := [(5, .int (nI (z.1 + j + 1))), (4, .int ((((nvI g z.1 j) * (nI 10)) + (g (z.1 + j))) - (nI 48))), (0, .ref t), (1, .int (nI lo)), (2, .int (nI hi)), (3, .int (nI (fg g n z.1)))]) hx hb dX9_takeNumber_67 hl (k := 5) rfl (nI_1 _) (by decide) rfl (fun ls hl => ?_)
              refine lv_goto (tgt := 38) hx hb dX9_takeNumber_70 (by decide) ?_
              have hl : lv_has ls 6 [(0, .ref t), (1, .int (nI lo)), (2, .int (nI hi)), (3, .int (nI (fg g n z.1))), (4, .int ((((nvI g z.1 j) * (nI 10)) + (g (z.1 + j))) - (nI 48))), (5, .int (nI (z.1 + j + 1)))] := lv_sub hl [2, 3, 4, 5, 1, 0] rfl
              have hl : lv_has ls 6 [(0, .ref t), (1, .int (nI lo)), (2, .int (nI hi)), (3, .int (nI (fg g n z.1))), (4, .int (nvI g z.1 (j + 1))), (5, .int (nI (z.1 + (j + 1))))] := hl
              exact ih_38 (j + 1) (by omega) (by omega) _ _ hH _ hl
        have hl : lv_has ls 6 [(0, .ref t), (1, .int (nI lo)), (2, .int (nI hi)), (3, .int (nI (fg g n z.1))), (4, .int (nI 0)), (5, .int (nI z.1))] := lv_sub hl [3, 4, 5, 2, 1, 0] rfl
        have hl : lv_has ls 6 [(0, .ref t), (1, .int (nI lo)), (2, .int (nI hi)), (3, .int (nI (fg g n z.1))), (4, .int (nvI g z.1 0)), (5, .int (nI (z.1 + 0)))] := hl
        exact loop_38 _ 0 (by omega) (Nat.lt_succ_self _) _ _ hH _ hl
      · refine lv_aload_n hx hb dX9_takeNumber_22 rfl (lv_at hl 1 rfl) ?_
        refine lv_iconst (v := nI 1) hx hb dX9_takeNumber_23 (by decide) ?_
        refine fx_go0 hH (fx_runV C hH hl.1 (As := [.int (nI 1)]) (rest := []) (c_X9_fail (G := G) (base := base) (l := l) (f := f) (sz := sz) (z := z) (t := t) (xx := 1) (by_ := by_) (n := n) h_t (by omega)) mY_X9_fail ml_X9_49 im_X9_fail se_X9_X9_fail h_t rfl rfl ⟨(Nat.le_of_ble_eq_true rfl), (Nat.le_of_ble_eq_true rfl)⟩ rfl (Nat.le_of_ble_eq_true rfl) ⟨(Nat.le_of_ble_eq_true rfl), (Nat.le_of_ble_eq_true rfl)⟩ dX9_takeNumber_24) (fun H locs hH => ?_)
        have hH : fx_H G base s (fx_up f t (oO 8 [.ref by_, .int (nI n), .int (nI ((fl 1 z).1)), .int (nI ((fl 1 z).2))])) sz H locs := hH
        have h6_by_ : (fx_up f t (oO 8 [.ref by_, .int (nI n), .int (nI ((fl 1 z).1)), .int (nI ((fl 1 z).2))])) by_ = some (oI 120 g) := (fx_up_n _ _ (fx_ne h_by_ h_t rfl)).trans h_by_
        have h6_t : (fx_up f t (oO 8 [.ref by_, .int (nI n), .int (nI ((fl 1 z).1)), .int (nI ((fl 1 z).2))])) t = some (oO 8 [.ref by_, .int (nI n), .int (nI ((fl 1 z).1)), .int (nI ((fl 1 z).2))]) := fx_up_s _ _ _
        have hH : fx_H G base s (fx_up f t (oO 8 [.ref by_, .int (nI n), .int (nI ((fl 1 z).1)), .int (nI ((fl 1 z).2))])) sz H locs := hH
        refine lv_iconst (v := nI 0) hx hb dX9_takeNumber_27 (by decide) ?_
        exact fx_iret C hr hk hH (by rw [tN, if_neg (fun q => absurd q.2.2 (by omega))]) (by rw [tN, if_neg (fun q => absurd q.2.2 (by omega))]) rfl (Nat.zero_le _) (Nat.zero_le _) dX9_takeNumber_28
abbrev rm_X9_isSort : Room := { frames := 0, cells := 0, slots := 0, locals := 0 }
set_option maxHeartbeats 4000000 in
set_option maxRecDepth 100000 in
theorem c_X9_isSort {G : GG} {base : Nat} {l : Launch} {f : Hp} {sz : Nat} {x : Int32}  : fx_M G base l yX9_isSort cX9_isSort 1 (some .boolean) rm_X9_isSort [.int x] f sz (some (.int (bI (x = nI 117 ∨ x = nI 98 ∨ x = nI 108 ∨ x = nI 109 ∨ x = nI 116)))) f sz := by
  refine fx_of (by decide +kernel) (Nat.le_of_ble_eq_true rfl) ?_
  intro p e s m args below meth c C hr hk hnm hH ls hl
  obtain ⟨locs, hlocs⟩ : ∃ L : List Loc, L = [] := ⟨_, rfl⟩
  rw [← hlocs] at hH ⊢
  generalize s.heap = H at hH ⊢
  have hx := C.1
  have hb := C.2.1
  have hl : lv_has ls 1 [(0, .int x)] := hl
  refine lv_iload_n hx hb dX9_isSort_0 rfl (lv_at hl 0 rfl) ?_
  refine lv_bipush (v := nI 117) hx hb dX9_isSort_1 (by decide) ?_
  refine lv_icmp_eq hx hb (tgt := 30) dX9_isSort_3 (by decide) (fun c3 => ?_) (fun c3 => ?_)
  · refine lv_iconst (v := nI 1) hx hb dX9_isSort_30 (by decide) ?_
    refine lv_goto (tgt := 35) hx hb dX9_isSort_31 (by decide) ?_
    exact fx_zret C hr hk hH (by decide) (by first | rfl | (simp [bI, *]; done) | ((repeat (first | rw [if_pos (by assumption)] | rw [if_neg (by assumption)])); done) | (unfold bI; grind)) rfl rfl (Nat.zero_le _) (Nat.zero_le _) dX9_isSort_35
  · refine lv_iload_n hx hb dX9_isSort_6 rfl (lv_at hl 0 rfl) ?_
    refine lv_bipush (v := nI 98) hx hb dX9_isSort_7 (by decide) ?_
    refine lv_icmp_eq hx hb (tgt := 30) dX9_isSort_9 (by decide) (fun c9 => ?_) (fun c9 => ?_)
    · refine lv_iconst (v := nI 1) hx hb dX9_isSort_30 (by decide) ?_
      refine lv_goto (tgt := 35) hx hb dX9_isSort_31 (by decide) ?_
      exact fx_zret C hr hk hH (by decide) (by first | rfl | (simp [bI, *]; done) | ((repeat (first | rw [if_pos (by assumption)] | rw [if_neg (by assumption)])); done) | (unfold bI; grind)) rfl rfl (Nat.zero_le _) (Nat.zero_le _) dX9_isSort_35
    · refine lv_iload_n hx hb dX9_isSort_12 rfl (lv_at hl 0 rfl) ?_
      refine lv_bipush (v := nI 108) hx hb dX9_isSort_13 (by decide) ?_
      refine lv_icmp_eq hx hb (tgt := 30) dX9_isSort_15 (by decide) (fun c15 => ?_) (fun c15 => ?_)
      · refine lv_iconst (v := nI 1) hx hb dX9_isSort_30 (by decide) ?_
        refine lv_goto (tgt := 35) hx hb dX9_isSort_31 (by decide) ?_
        exact fx_zret C hr hk hH (by decide) (by first | rfl | (simp [bI, *]; done) | ((repeat (first | rw [if_pos (by assumption)] | rw [if_neg (by assumption)])); done) | (unfold bI; grind)) rfl rfl (Nat.zero_le _) (Nat.zero_le _) dX9_isSort_35
      · refine lv_iload_n hx hb dX9_isSort_18 rfl (lv_at hl 0 rfl) ?_
        refine lv_bipush (v := nI 109) hx hb dX9_isSort_19 (by decide) ?_
        refine lv_icmp_eq hx hb (tgt := 30) dX9_isSort_21 (by decide) (fun c21 => ?_) (fun c21 => ?_)
        · refine lv_iconst (v := nI 1) hx hb dX9_isSort_30 (by decide) ?_
          refine lv_goto (tgt := 35) hx hb dX9_isSort_31 (by decide) ?_
          exact fx_zret C hr hk hH (by decide) (by first | rfl | (simp [bI, *]; done) | ((repeat (first | rw [if_pos (by assumption)] | rw [if_neg (by assumption)])); done) | (unfold bI; grind)) rfl rfl (Nat.zero_le _) (Nat.zero_le _) dX9_isSort_35
        · refine lv_iload_n hx hb dX9_isSort_24 rfl (lv_at hl 0 rfl) ?_
          refine lv_bipush (v := nI 116) hx hb dX9_isSort_25 (by decide) ?_
          refine lv_icmp_ne hx hb (tgt := 34) dX9_isSort_27 (by decide) (fun c27 => ?_) (fun c27 => ?_)
          · refine lv_iconst (v := nI 0) hx hb dX9_isSort_34 (by decide) ?_
            exact fx_zret C hr hk hH (by decide) (by first | rfl | (simp [bI, *]; done) | ((repeat (first | rw [if_pos (by assumption)] | rw [if_neg (by assumption)])); done) | (unfold bI; grind)) rfl rfl (Nat.zero_le _) (Nat.zero_le _) dX9_isSort_35
          · refine lv_iconst (v := nI 1) hx hb dX9_isSort_30 (by decide) ?_
            refine lv_goto (tgt := 35) hx hb dX9_isSort_31 (by decide) ?_
            exact fx_zret C hr hk hH (by decide) (by first | rfl | (simp [bI, *]; done) | ((repeat (first | rw [if_pos (by assumption)] | rw [if_neg (by assumption)])); done) | (unfold bI; grind)) rfl rfl (Nat.zero_le _) (Nat.zero_le _) dX9_isSort_35
