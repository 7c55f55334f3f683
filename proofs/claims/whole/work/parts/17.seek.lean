abbrev rm_X4_become : Room := { frames := 1, cells := 0, slots := 0, locals := 40 }
set_option maxHeartbeats 4000000 in
set_option maxRecDepth 100000 in
theorem c_X4_become {G : GG} {base : Nat} {l : Launch} {f : Hp} {sz : Nat} {r : Nat} {u : Nat} {k : Nat} {w : Nat} {pl : Int32} {wy : Int32} {se : Int32} {to : Int32} {lf : Int32} {ta : Int32} {k2 : Nat} {w2 : Nat} {pl2 : Int32} {wy2 : Int32} {se2 : Int32} {to2 : Int32} {lf2 : Int32} {ta2 : Int32} {q : Nat → Int64} {q2 : Nat → Int64} (h_r : f r = some (oO 4 [.ref k, .ref w, .int pl, .int wy, .int se, .int to, .int lf, .int ta])) (h_u : f u = some (oO 4 [.ref k2, .ref w2, .int pl2, .int wy2, .int se2, .int to2, .int lf2, .int ta2])) (h_k : f k = some (oJ 13 q)) (h_k2 : f k2 = some (oJ 13 q2)) (hne_0 : r ≠ u) (hne_1 : k ≠ k2) : fx_M G base l yX4_become cX4_become 2 none rm_X4_become [.ref r, .ref u] f sz none (fx_up (fx_up f r (oO 4 [.ref k, .ref w2, .int pl2, .int wy2, .int se2, .int to2, .int lf2, .int ta2])) k (oJ 13 (cpJ q2 q))) sz := by
  refine fx_of (by decide +kernel) (Nat.le_of_ble_eq_true rfl) ?_
  intro p e s m args below meth c C hr hk hnm hH ls hl
  obtain ⟨locs, hlocs⟩ : ∃ L : List Loc, L = [] := ⟨_, rfl⟩
  rw [← hlocs] at hH ⊢
  generalize s.heap = H at hH ⊢
  have hx := C.1
  have hb := C.2.1
  have hl : lv_has ls 2 [(0, .ref r), (1, .ref u)] := hl
  refine lv_aload_n hx hb dX4_become_0 rfl (lv_at hl 0 rfl) ?_
  refine lv_aload_n hx hb dX4_become_1 rfl (lv_at hl 1 rfl) ?_
  refine fx_get C hH (k := 1) (v := .ref w2) h_u ff_X4_23_4 rfl dX4_become_2 ?_
  refine fx_putT C hH (k := 1) h_r ff_X4_23_4 fL_4 fT_4_1 rfl rfl (Nat.le_of_ble_eq_true rfl) dX4_become_5 (fun H locs hH => ?_)
  have hH : fx_H G base s (fx_up f r (oO 4 [.ref k, .ref w2, .int pl, .int wy, .int se, .int to, .int lf, .int ta])) sz H locs := hH
  have h1_u : (fx_up f r (oO 4 [.ref k, .ref w2, .int pl, .int wy, .int se, .int to, .int lf, .int ta])) u = some (oO 4 [.ref k2, .ref w2, .int pl2, .int wy2, .int se2, .int to2, .int lf2, .int ta2]) := (fx_up_n _ _ (Ne.symm hne_0)).trans h_u
  have h1_k : (fx_up f r (oO 4 [.ref k, .ref w2, .int pl, .int wy, .int se, .int to, .int lf, .int ta])) k = some (oJ 13 q) := (fx_up_n _ _ (fx_ne h_k h_r rfl)).trans h_k
  have h1_k2 : (fx_up f r (oO 4 [.ref k, .ref w2, .int pl, .int wy, .int se, .int to, .int lf, .int ta])) k2 = some (oJ 13 q2) := (fx_up_n _ _ (fx_ne h_k2 h_r rfl)).trans h_k2
  have h1_r : (fx_up f r (oO 4 [.ref k, .ref w2, .int pl, .int wy, .int se, .int to, .int lf, .int ta])) r = some (oO 4 [.ref k, .ref w2, .int pl, .int wy, .int se, .int to, .int lf, .int ta]) := fx_up_s _ _ _
  refine lv_aload_n hx hb dX4_become_8 rfl (lv_at hl 0 rfl) ?_
  refine lv_aload_n hx hb dX4_become_9 rfl (lv_at hl 1 rfl) ?_
  refine fx_get C hH (k := 2) (v := .int pl2) h1_u ff_X4_27_4 rfl dX4_become_10 ?_
  refine fx_putT C hH (k := 2) h1_r ff_X4_27_4 fL_4 fT_4_2 rfl rfl (Nat.le_of_ble_eq_true rfl) dX4_become_13 (fun H locs hH => ?_)
  have hH : fx_H G base s (fx_up (fx_up f r (oO 4 [.ref k, .ref w2, .int pl, .int wy, .int se, .int to, .int lf, .int ta])) r (oO 4 [.ref k, .ref w2, .int pl2, .int wy, .int se, .int to, .int lf, .int ta])) sz H locs := hH
  rw [fx_up_up] at hH
  have hH : fx_H G base s (fx_up f r (oO 4 [.ref k, .ref w2, .int pl2, .int wy, .int se, .int to, .int lf, .int ta])) sz H locs := hH
  have heq2 : fx_up (fx_up f r (oO 4 [.ref k, .ref w2, .int pl, .int wy, .int se, .int to, .int lf, .int ta])) r (oO 4 [.ref k, .ref w2, .int pl2, .int wy, .int se, .int to, .int lf, .int ta]) = fx_up f r (oO 4 [.ref k, .ref w2, .int pl2, .int wy, .int se, .int to, .int lf, .int ta]) := by rw [fx_up_up]
  have h2_u : (fx_up f r (oO 4 [.ref k, .ref w2, .int pl2, .int wy, .int se, .int to, .int lf, .int ta])) u = some (oO 4 [.ref k2, .ref w2, .int pl2, .int wy2, .int se2, .int to2, .int lf2, .int ta2]) := (congrFun heq2 u).symm.trans ((fx_up_n _ _ (Ne.symm hne_0)).trans h1_u)
  have h2_k : (fx_up f r (oO 4 [.ref k, .ref w2, .int pl2, .int wy, .int se, .int to, .int lf, .int ta])) k = some (oJ 13 q) := (congrFun heq2 k).symm.trans ((fx_up_n _ _ (fx_ne h1_k h1_r rfl)).trans h1_k)
  have h2_k2 : (fx_up f r (oO 4 [.ref k, .ref w2, .int pl2, .int wy, .int se, .int to, .int lf, .int ta])) k2 = some (oJ 13 q2) := (congrFun heq2 k2).symm.trans ((fx_up_n _ _ (fx_ne h1_k2 h1_r rfl)).trans h1_k2)
  have h2_r : (fx_up f r (oO 4 [.ref k, .ref w2, .int pl2, .int wy, .int se, .int to, .int lf, .int ta])) r = some (oO 4 [.ref k, .ref w2, .int pl2, .int wy, .int se, .int to, .int lf, .int ta]) := (congrFun heq2 r).symm.trans (fx_up_s _ _ _)
  refine lv_aload_n hx hb dX4_become_16 rfl (lv_at hl 0 rfl) ?_
  refine lv_aload_n hx hb dX4_become_17 rfl (lv_at hl 1 rfl) ?_
  refine fx_get C hH (k := 3) (v := .int wy2) h2_u ff_X4_15_4 rfl dX4_become_18 ?_
  refine fx_putT C hH (k := 3) h2_r ff_X4_15_4 fL_4 fT_4_3 rfl rfl (Nat.le_of_ble_eq_true rfl) dX4_become_21 (fun H locs hH => ?_)
  have hH : fx_H G base s (fx_up (fx_up f r (oO 4 [.ref k, .ref w2, .int pl2, .int wy, .int se, .int to, .int lf, .int ta])) r (oO 4 [.ref k, .ref w2, .int pl2, .int wy2, .int se, .int to, .int lf, .int ta])) sz H locs := hH
  rw [fx_up_up] at hH
  have hH : fx_H G base s (fx_up f r (oO 4 [.ref k, .ref w2, .int pl2, .int wy2, .int se, .int to, .int lf, .int ta])) sz H locs := hH
  have heq3 : fx_up (fx_up f r (oO 4 [.ref k, .ref w2, .int pl2, .int wy, .int se, .int to, .int lf, .int ta])) r (oO 4 [.ref k, .ref w2, .int pl2, .int wy2, .int se, .int to, .int lf, .int ta]) = fx_up f r (oO 4 [.ref k, .ref w2, .int pl2, .int wy2, .int se, .int to, .int lf, .int ta]) := by rw [fx_up_up]
  have h3_u : (fx_up f r (oO 4 [.ref k, .ref w2, .int pl2, .int wy2, .int se, .int to, .int lf, .int ta])) u = some (oO 4 [.ref k2, .ref w2, .int pl2, .int wy2, .int se2, .int to2, .int lf2, .int ta2]) := (congrFun heq3 u).symm.trans ((fx_up_n _ _ (Ne.symm hne_0)).trans h2_u)
  have h3_k : (fx_up f r (oO 4 [.ref k, .ref w2, .int pl2, .int wy2, .int se, .int to, .int lf, .int ta])) k = some (oJ 13 q) := (congrFun heq3 k).symm.trans ((fx_up_n _ _ (fx_ne h2_k h2_r rfl)).trans h2_k)
  have h3_k2 : (fx_up f r (oO 4 [.ref k, .ref w2, .int pl2, .int wy2, .int se, .int to, .int lf, .int ta])) k2 = some (oJ 13 q2) := (congrFun heq3 k2).symm.trans ((fx_up_n _ _ (fx_ne h2_k2 h2_r rfl)).trans h2_k2)
  have h3_r : (fx_up f r (oO 4 [.ref k, .ref w2, .int pl2, .int wy2, .int se, .int to, .int lf, .int ta])) r = some (oO 4 [.ref k, .ref w2, .int pl2, .int wy2, .int se, .int to, .int lf, .int ta]) := (congrFun heq3 r).symm.trans (fx_up_s _ _ _)
  refine lv_aload_n hx hb dX4_become_24 rfl (lv_at hl 0 rfl) ?_
  refine lv_aload_n hx hb dX4_become_25 rfl (lv_at hl 1 rfl) ?_
  refine fx_get C hH (k := 4) (v := .int se2) h3_u ff_X4_30_4 rfl dX4_become_26 ?_
  refine fx_putT C hH (k := 4) h3_r ff_X4_30_4 fL_4 fT_4_4 rfl rfl (Nat.le_of_ble_eq_true rfl) dX4_become_29 (fun H locs hH => ?_)
  have hH : fx_H G base s (fx_up (fx_up f r (oO 4 [.ref k, .ref w2, .int pl2, .int wy2, .int se, .int to, .int lf, .int ta])) r (oO 4 [.ref k, .ref w2, .int pl2, .int wy2, .int se2, .int to, .int lf, .int ta])) sz H locs := hH
  rw [fx_up_up] at hH
  have hH : fx_H G base s (fx_up f r (oO 4 [.ref k, .ref w2, .int pl2, .int wy2, .int se2, .int to, .int lf, .int ta])) sz H locs := hH
  have heq4 : fx_up (fx_up f r (oO 4 [.ref k, .ref w2, .int pl2, .int wy2, .int se, .int to, .int lf, .int ta])) r (oO 4 [.ref k, .ref w2, .int pl2, .int wy2, .int se2, .int to, .int lf, .int ta]) = fx_up f r (oO 4 [.ref k, .ref w2, .int pl2, .int wy2, .int se2, .int to, .int lf, .int ta]) := by rw [fx_up_up]
  have h4_u : (fx_up f r (oO 4 [.ref k, .ref w2, .int pl2, .int wy2, .int se2, .int to, .int lf, .int ta])) u = some (oO 4 [.ref k2, .ref w2, .int pl2, .int wy2, .int se2, .int to2, .int lf2, .int ta2]) := (congrFun heq4 u).symm.trans ((fx_up_n _ _ (Ne.symm hne_0)).trans h3_u)
  have h4_k : (fx_up f r (oO 4 [.ref k, .ref w2, .int pl2, .int wy2, .int se2, .int to, .int lf, .int ta])) k = some (oJ 13 q) := (congrFun heq4 k).symm.trans ((fx_up_n _ _ (fx_ne h3_k h3_r rfl)).trans h3_k)
  have h4_k2 : (fx_up f r (oO 4 [.ref k, .ref w2, .int pl2, .int wy2, .int se2, .int to, .int lf, .int ta])) k2 = some (oJ 13 q2) := (congrFun heq4 k2).symm.trans ((fx_up_n _ _ (fx_ne h3_k2 h3_r rfl)).trans h3_k2)
  have h4_r : (fx_up f r (oO 4 [.ref k, .ref w2, .int pl2, .int wy2, .int se2, .int to, .int lf, .int ta])) r = some (oO 4 [.ref k, .ref w2, .int pl2, .int wy2, .int se2, .int to, .int lf, .int ta]) := (congrFun heq4 r).symm.trans (fx_up_s _ _ _)
  refine lv_aload_n hx hb dX4_become_32 rfl (lv_at hl 0 rfl) ?_
  refine lv_aload_n hx hb dX4_become_33 rfl (lv_at hl 1 rfl) ?_
  refine fx_get C hH (k := 5) (v := .int to2) h4_u ff_X4_33_4 rfl dX4_become_34 ?_
  refine fx_putT C hH (k := 5) h4_r ff_X4_33_4 fL_4 fT_4_5 rfl rfl (Nat.le_of_ble_eq_true rfl) dX4_become_37 (fun H locs hH => ?_)
  have hH : fx_H G base s (fx_up (fx_up f r (oO 4 [.ref k, .ref w2, .int pl2, .int wy2, .int se2, .int to, .int lf, .int ta])) r (oO 4 [.ref k, .ref w2, .int pl2, .int wy2, .int se2, .int to2, .int lf, .int ta])) sz H locs := hH
  rw [fx_up_up] at hH
  have hH : fx_H G base s (fx_up f r (oO 4 [.ref k, .ref w2, .int pl2, .int wy2, .int se2, .int to2, .int lf, .int ta])) sz H locs := hH
  have heq5 : fx_up (fx_up f r (oO 4 [.ref k, .ref w2, .int pl2, .int wy2, .int se2, .int to, .int lf, .int ta])) r (oO 4 [.ref k, .ref w2, .int pl2, .int wy2, .int se2, .int to2, .int lf, .int ta]) = fx_up f r (oO 4 [.ref k, .ref w2, .int pl2, .int wy2, .int se2, .int to2, .int lf, .int ta]) := by rw [fx_up_up]
  have h5_u : (fx_up f r (oO 4 [.ref k, .ref w2, .int pl2, .int wy2, .int se2, .int to2, .int lf, .int ta])) u = some (oO 4 [.ref k2, .ref w2, .int pl2, .int wy2, .int se2, .int to2, .int lf2, .int ta2]) := (congrFun heq5 u).symm.trans ((fx_up_n _ _ (Ne.symm hne_0)).trans h4_u)
  have h5_k : (fx_up f r (oO 4 [.ref k, .ref w2, .int pl2, .int wy2, .int se2, .int to2, .int lf, .int ta])) k = some (oJ 13 q) := (congrFun heq5 k).symm.trans ((fx_up_n _ _ (fx_ne h4_k h4_r rfl)).trans h4_k)
  have h5_k2 : (fx_up f r (oO 4 [.ref k, .ref w2, .int pl2, .int wy2, .int se2, .int to2, .int lf, .int ta])) k2 = some (oJ 13 q2) := (congrFun heq5 k2).symm.trans ((fx_up_n _ _ (fx_ne h4_k2 h4_r rfl)).trans h4_k2)
  have h5_r : (fx_up f r (oO 4 [.ref k, .ref w2, .int pl2, .int wy2, .int se2, .int to2, .int lf, .int ta])) r = some (oO 4 [.ref k, .ref w2, .int pl2, .int wy2, .int se2, .int to2, .int lf, .int ta]) := (congrFun heq5 r).symm.trans (fx_up_s _ _ _)
  refine lv_aload_n hx hb dX4_become_40 rfl (lv_at hl 0 rfl) ?_
  refine lv_aload_n hx hb dX4_become_41 rfl (lv_at hl 1 rfl) ?_
  refine fx_get C hH (k := 6) (v := .int lf2) h5_u ff_X4_36_4 rfl dX4_become_42 ?_
  refine fx_putT C hH (k := 6) h5_r ff_X4_36_4 fL_4 fT_4_6 rfl rfl (Nat.le_of_ble_eq_true rfl) dX4_become_45 (fun H locs hH => ?_)
  have hH : fx_H G base s (fx_up (fx_up f r (oO 4 [.ref k, .ref w2, .int pl2, .int wy2, .int se2, .int to2, .int lf, .int ta])) r (oO 4 [.ref k, .ref w2, .int pl2, .int wy2, .int se2, .int to2, .int lf2, .int ta])) sz H locs := hH
  rw [fx_up_up] at hH
  have hH : fx_H G base s (fx_up f r (oO 4 [.ref k, .ref w2, .int pl2, .int wy2, .int se2, .int to2, .int lf2, .int ta])) sz H locs := hH
  have heq6 : fx_up (fx_up f r (oO 4 [.ref k, .ref w2, .int pl2, .int wy2, .int se2, .int to2, .int lf, .int ta])) r (oO 4 [.ref k, .ref w2, .int pl2, .int wy2, .int se2, .int to2, .int lf2, .int ta]) = fx_up f r (oO 4 [.ref k, .ref w2, .int pl2, .int wy2, .int se2, .int to2, .int lf2, .int ta]) := by rw [fx_up_up]
  have h6_u : (fx_up f r (oO 4 [.ref k, .ref w2, .int pl2, .int wy2, .int se2, .int to2, .int lf2, .int ta])) u = some (oO 4 [.ref k2, .ref w2, .int pl2, .int wy2, .int se2, .int to2, .int lf2, .int ta2]) := (congrFun heq6 u).symm.trans ((fx_up_n _ _ (Ne.symm hne_0)).trans h5_u)
  have h6_k : (fx_up f r (oO 4 [.ref k, .ref w2, .int pl2, .int wy2, .int se2, .int to2, .int lf2, .int ta])) k = some (oJ 13 q) := (congrFun heq6 k).symm.trans ((fx_up_n _ _ (fx_ne h5_k h5_r rfl)).trans h5_k)
  have h6_k2 : (fx_up f r (oO 4 [.ref k, .ref w2, .int pl2, .int wy2, .int se2, .int to2, .int lf2, .int ta])) k2 = some (oJ 13 q2) := (congrFun heq6 k2).symm.trans ((fx_up_n _ _ (fx_ne h5_k2 h5_r rfl)).trans h5_k2)
  have h6_r : (fx_up f r (oO 4 [.ref k, .ref w2, .int pl2, .int wy2, .int se2, .int to2, .int lf2, .int ta])) r = some (oO 4 [.ref k, .ref w2, .int pl2, .int wy2, .int se2, .int to2, .int lf2, .int ta]) := (congrFun heq6 r).symm.trans (fx_up_s _ _ _)
  refine lv_aload_n hx hb dX4_become_48 rfl (lv_at hl 0 rfl) ?_
  refine lv_aload_n hx hb dX4_become_49 rfl (lv_at hl 1 rfl) ?_
  refine fx_get C hH (k := 7) (v := .int ta2) h6_u ff_X4_20_4 rfl dX4_become_50 ?_
  refine fx_putT C hH (k := 7) h6_r ff_X4_20_4 fL_4 fT_4_7 rfl rfl (Nat.le_of_ble_eq_true rfl) dX4_become_53 (fun H locs hH => ?_)
  have hH : fx_H G base s (fx_up (fx_up f r (oO 4 [.ref k, .ref w2, .int pl2, .int wy2, .int se2, .int to2, .int lf2, .int ta])) r (oO 4 [.ref k, .ref w2, .int pl2, .int wy2, .int se2, .int to2, .int lf2, .int ta2])) sz H locs := hH
  rw [fx_up_up] at hH
  have hH : fx_H G base s (fx_up f r (oO 4 [.ref k, .ref w2, .int pl2, .int wy2, .int se2, .int to2, .int lf2, .int ta2])) sz H locs := hH
  have heq7 : fx_up (fx_up f r (oO 4 [.ref k, .ref w2, .int pl2, .int wy2, .int se2, .int to2, .int lf2, .int ta])) r (oO 4 [.ref k, .ref w2, .int pl2, .int wy2, .int se2, .int to2, .int lf2, .int ta2]) = fx_up f r (oO 4 [.ref k, .ref w2, .int pl2, .int wy2, .int se2, .int to2, .int lf2, .int ta2]) := by rw [fx_up_up]
  have h7_u : (fx_up f r (oO 4 [.ref k, .ref w2, .int pl2, .int wy2, .int se2, .int to2, .int lf2, .int ta2])) u = some (oO 4 [.ref k2, .ref w2, .int pl2, .int wy2, .int se2, .int to2, .int lf2, .int ta2]) := (congrFun heq7 u).symm.trans ((fx_up_n _ _ (Ne.symm hne_0)).trans h6_u)
  have h7_k : (fx_up f r (oO 4 [.ref k, .ref w2, .int pl2, .int wy2, .int se2, .int to2, .int lf2, .int ta2])) k = some (oJ 13 q) := (congrFun heq7 k).symm.trans ((fx_up_n _ _ (fx_ne h6_k h6_r rfl)).trans h6_k)
  have h7_k2 : (fx_up f r (oO 4 [.ref k, .ref w2, .int pl2, .int wy2, .int se2, .int to2, .int lf2, .int ta2])) k2 = some (oJ 13 q2) := (congrFun heq7 k2).symm.trans ((fx_up_n _ _ (fx_ne h6_k2 h6_r rfl)).trans h6_k2)
  have h7_r : (fx_up f r (oO 4 [.ref k, .ref w2, .int pl2, .int wy2, .int se2, .int to2, .int lf2, .int ta2])) r = some (oO 4 [.ref k, .ref w2, .int pl2, .int wy2, .int se2, .int to2, .int lf2, .int ta2]) := (congrFun heq7 r).symm.trans (fx_up_s _ _ _)
  refine lv_aload_n hx hb dX4_become_56 rfl (lv_at hl 1 rfl) ?_
  refine fx_get C hH (k := 0) (v := .ref k2) h7_u ff_X4_9_4 rfl dX4_become_57 ?_
  refine lv_iconst (v := nI 0) hx hb dX4_become_60 (by decide) ?_
  refine lv_aload_n hx hb dX4_become_61 rfl (lv_at hl 0 rfl) ?_
  refine fx_get C hH (k := 0) (v := .ref k) h7_r ff_X4_9_4 rfl dX4_become_62 ?_
  refine lv_iconst (v := nI 0) hx hb dX4_become_65 (by decide) ?_
  refine lv_bipush (v := nI 13) hx hb dX4_become_66 (by decide) ?_
  refine fx_copyl C hH hl.1 ml_X4_51 nt_acp st_acp ni_J10 h7_k2 h7_k (by decide) (by decide) (by decide) (by decide) (by decide) (Nat.le_of_ble_eq_true rfl) (Nat.le_of_ble_eq_true rfl) dX4_become_68 (fun H locs hH => ?_)
  have hH : fx_H G base s (fx_up (fx_up f r (oO 4 [.ref k, .ref w2, .int pl2, .int wy2, .int se2, .int to2, .int lf2, .int ta2])) k (oJ 13 (va_cpy q2 q (nI 0).toNatClampNeg (nI 0).toNatClampNeg (nI 13).toNatClampNeg))) sz H locs := hH
  have h8_u : (fx_up (fx_up f r (oO 4 [.ref k, .ref w2, .int pl2, .int wy2, .int se2, .int to2, .int lf2, .int ta2])) k (oJ 13 (va_cpy q2 q (nI 0).toNatClampNeg (nI 0).toNatClampNeg (nI 13).toNatClampNeg))) u = some (oO 4 [.ref k2, .ref w2, .int pl2, .int wy2, .int se2, .int to2, .int lf2, .int ta2]) := (fx_up_n _ _ (fx_ne h7_u h7_k rfl)).trans h7_u
  have h8_k2 : (fx_up (fx_up f r (oO 4 [.ref k, .ref w2, .int pl2, .int wy2, .int se2, .int to2, .int lf2, .int ta2])) k (oJ 13 (va_cpy q2 q (nI 0).toNatClampNeg (nI 0).toNatClampNeg (nI 13).toNatClampNeg))) k2 = some (oJ 13 q2) := (fx_up_n _ _ (Ne.symm hne_1)).trans h7_k2
  have h8_r : (fx_up (fx_up f r (oO 4 [.ref k, .ref w2, .int pl2, .int wy2, .int se2, .int to2, .int lf2, .int ta2])) k (oJ 13 (va_cpy q2 q (nI 0).toNatClampNeg (nI 0).toNatClampNeg (nI 13).toNatClampNeg))) r = some (oO 4 [.ref k, .ref w2, .int pl2, .int wy2, .int se2, .int to2, .int lf2, .int ta2]) := (fx_up_n _ _ (fx_ne h7_r h7_k rfl)).trans h7_r
  have h8_k : (fx_up (fx_up f r (oO 4 [.ref k, .ref w2, .int pl2, .int wy2, .int se2, .int to2, .int lf2, .int ta2])) k (oJ 13 (va_cpy q2 q (nI 0).toNatClampNeg (nI 0).toNatClampNeg (nI 13).toNatClampNeg))) k = some (oJ 13 (va_cpy q2 q (nI 0).toNatClampNeg (nI 0).toNatClampNeg (nI 13).toNatClampNeg)) := fx_up_s _ _ _
  have hg9 : (va_cpy q2 q (nI 0).toNatClampNeg (nI 0).toNatClampNeg (nI 13).toNatClampNeg) = (cpJ q2 q) := cpJ_eq q2 q
  rw [hg9] at hH
  have hH : fx_H G base s (fx_up (fx_up f r (oO 4 [.ref k, .ref w2, .int pl2, .int wy2, .int se2, .int to2, .int lf2, .int ta2])) k (oJ 13 (cpJ q2 q))) sz H locs := hH
  have h9_u : (fx_up (fx_up f r (oO 4 [.ref k, .ref w2, .int pl2, .int wy2, .int se2, .int to2, .int lf2, .int ta2])) k (oJ 13 (cpJ q2 q))) u = some (oO 4 [.ref k2, .ref w2, .int pl2, .int wy2, .int se2, .int to2, .int lf2, .int ta2]) := by rw [← hg9]; exact h8_u
  have h9_k2 : (fx_up (fx_up f r (oO 4 [.ref k, .ref w2, .int pl2, .int wy2, .int se2, .int to2, .int lf2, .int ta2])) k (oJ 13 (cpJ q2 q))) k2 = some (oJ 13 q2) := by rw [← hg9]; exact h8_k2
  have h9_r : (fx_up (fx_up f r (oO 4 [.ref k, .ref w2, .int pl2, .int wy2, .int se2, .int to2, .int lf2, .int ta2])) k (oJ 13 (cpJ q2 q))) r = some (oO 4 [.ref k, .ref w2, .int pl2, .int wy2, .int se2, .int to2, .int lf2, .int ta2]) := by rw [← hg9]; exact h8_r
  have h9_k : (fx_up (fx_up f r (oO 4 [.ref k, .ref w2, .int pl2, .int wy2, .int se2, .int to2, .int lf2, .int ta2])) k (oJ 13 (cpJ q2 q))) k = some (oJ 13 (cpJ q2 q)) := by rw [← hg9]; exact h8_k
  exact fx_vret C hr hk hH rfl rfl (Nat.zero_le _) (Nat.zero_le _) dX4_become_71
abbrev rm_X4_unwind : Room := { frames := 0, cells := 0, slots := 0, locals := 0 }
set_option maxHeartbeats 4000000 in
set_option maxRecDepth 100000 in
theorem c_X4_unwind {G : GG} {base : Nat} {l : Launch} {f : Hp} {sz : Nat} {r : Nat} {w : Nat} {k : Nat} {w0 : Nat} {pl : Int32} {wy : Int32} {se : Int32} {to : Int32} {lf : Int32} {ta : Int32} {q : Nat → Int64} {wt : Nat} {ch : Nat} {sk : Nat} {P : Nat} {st : Int32} {ov : Int32} {mi : Int32} {ri : Int32} {tl : Int32} {g : Nat → Int32} (h_r : f r = some (oO 4 [.ref k, .ref w0, .int pl, .int wy, .int se, .int to, .int lf, .int ta])) (h_k : f k = some (oJ 13 q)) (h_w : f w = some (oO 2 [.ref wt, .ref ch, .ref sk, .int (nI P), .int st, .int ov, .int mi, .int ri, .int tl])) (h_wt : f wt = some (oI 12 g)) (hP : P ≤ 12) : fx_M G base l yX4_unwind cX4_unwind 3 none rm_X4_unwind [.ref r, .ref w] f sz none (fx_up (fx_up f r (oO 4 [.ref k, .ref w, .int (nI 0), .int (nI 1), .int (nI 0), .int (nI 0), .int (nI 0), .int (-1000000)])) k (oJ 13 (vp_updL (fJ q 0 (fun z => (g z).toInt64) P) P mi.toInt64))) sz := by
  refine fx_of (by decide +kernel) (Nat.le_of_ble_eq_true rfl) ?_
  intro p e s m args below meth c C hr hk hnm hH ls hl
  obtain ⟨locs, hlocs⟩ : ∃ L : List Loc, L = [] := ⟨_, rfl⟩
  rw [← hlocs] at hH ⊢
  generalize s.heap = H at hH ⊢
  have hx := C.1
  have hb := C.2.1
  have hl : lv_has ls 3 [(0, .ref r), (1, .ref w)] := hl
  refine lv_aload_n hx hb dX4_unwind_0 rfl (lv_at hl 0 rfl) ?_
  refine lv_aload_n hx hb dX4_unwind_1 rfl (lv_at hl 1 rfl) ?_
  refine fx_putT C hH (k := 1) h_r ff_X4_23_4 fL_4 fT_4_1 rfl rfl (Nat.le_of_ble_eq_true rfl) dX4_unwind_2 (fun H locs hH => ?_)
  have hH : fx_H G base s (fx_up f r (oO 4 [.ref k, .ref w, .int pl, .int wy, .int se, .int to, .int lf, .int ta])) sz H locs := hH
  have h1_k : (fx_up f r (oO 4 [.ref k, .ref w, .int pl, .int wy, .int se, .int to, .int lf, .int ta])) k = some (oJ 13 q) := (fx_up_n _ _ (fx_ne h_k h_r rfl)).trans h_k
  have h1_w : (fx_up f r (oO 4 [.ref k, .ref w, .int pl, .int wy, .int se, .int to, .int lf, .int ta])) w = some (oO 2 [.ref wt, .ref ch, .ref sk, .int (nI P), .int st, .int ov, .int mi, .int ri, .int tl]) := (fx_up_n _ _ (fx_ne h_w h_r rfl)).trans h_w
  have h1_wt : (fx_up f r (oO 4 [.ref k, .ref w, .int pl, .int wy, .int se, .int to, .int lf, .int ta])) wt = some (oI 12 g) := (fx_up_n _ _ (fx_ne h_wt h_r rfl)).trans h_wt
  have h1_r : (fx_up f r (oO 4 [.ref k, .ref w, .int pl, .int wy, .int se, .int to, .int lf, .int ta])) r = some (oO 4 [.ref k, .ref w, .int pl, .int wy, .int se, .int to, .int lf, .int ta]) := fx_up_s _ _ _
  refine lv_aload_n hx hb dX4_unwind_5 rfl (lv_at hl 0 rfl) ?_
  refine lv_iconst (v := nI 0) hx hb dX4_unwind_6 (by decide) ?_
  refine fx_putT C hH (k := 2) h1_r ff_X4_27_4 fL_4 fT_4_2 rfl rfl (Nat.le_of_ble_eq_true rfl) dX4_unwind_7 (fun H locs hH => ?_)
  have hH : fx_H G base s (fx_up (fx_up f r (oO 4 [.ref k, .ref w, .int pl, .int wy, .int se, .int to, .int lf, .int ta])) r (oO 4 [.ref k, .ref w, .int (nI 0), .int wy, .int se, .int to, .int lf, .int ta])) sz H locs := hH
  rw [fx_up_up] at hH
  have hH : fx_H G base s (fx_up f r (oO 4 [.ref k, .ref w, .int (nI 0), .int wy, .int se, .int to, .int lf, .int ta])) sz H locs := hH
  have heq2 : fx_up (fx_up f r (oO 4 [.ref k, .ref w, .int pl, .int wy, .int se, .int to, .int lf, .int ta])) r (oO 4 [.ref k, .ref w, .int (nI 0), .int wy, .int se, .int to, .int lf, .int ta]) = fx_up f r (oO 4 [.ref k, .ref w, .int (nI 0), .int wy, .int se, .int to, .int lf, .int ta]) := by rw [fx_up_up]
  have h2_k : (fx_up f r (oO 4 [.ref k, .ref w, .int (nI 0), .int wy, .int se, .int to, .int lf, .int ta])) k = some (oJ 13 q) := (congrFun heq2 k).symm.trans ((fx_up_n _ _ (fx_ne h1_k h1_r rfl)).trans h1_k)
  have h2_w : (fx_up f r (oO 4 [.ref k, .ref w, .int (nI 0), .int wy, .int se, .int to, .int lf, .int ta])) w = some (oO 2 [.ref wt, .ref ch, .ref sk, .int (nI P), .int st, .int ov, .int mi, .int ri, .int tl]) := (congrFun heq2 w).symm.trans ((fx_up_n _ _ (fx_ne h1_w h1_r rfl)).trans h1_w)
  have h2_wt : (fx_up f r (oO 4 [.ref k, .ref w, .int (nI 0), .int wy, .int se, .int to, .int lf, .int ta])) wt = some (oI 12 g) := (congrFun heq2 wt).symm.trans ((fx_up_n _ _ (fx_ne h1_wt h1_r rfl)).trans h1_wt)
  have h2_r : (fx_up f r (oO 4 [.ref k, .ref w, .int (nI 0), .int wy, .int se, .int to, .int lf, .int ta])) r = some (oO 4 [.ref k, .ref w, .int (nI 0), .int wy, .int se, .int to, .int lf, .int ta]) := (congrFun heq2 r).symm.trans (fx_up_s _ _ _)
  refine lv_aload_n hx hb dX4_unwind_10 rfl (lv_at hl 0 rfl) ?_
  refine lv_iconst (v := nI 1) hx hb dX4_unwind_11 (by decide) ?_
  refine fx_putT C hH (k := 3) h2_r ff_X4_15_4 fL_4 fT_4_3 rfl rfl (Nat.le_of_ble_eq_true rfl) dX4_unwind_12 (fun H locs hH => ?_)
  have hH : fx_H G base s (fx_up (fx_up f r (oO 4 [.ref k, .ref w, .int (nI 0), .int wy, .int se, .int to, .int lf, .int ta])) r (oO 4 [.ref k, .ref w, .int (nI 0), .int (nI 1), .int se, .int to, .int lf, .int ta])) sz H locs := hH
  rw [fx_up_up] at hH
  have hH : fx_H G base s (fx_up f r (oO 4 [.ref k, .ref w, .int (nI 0), .int (nI 1), .int se, .int to, .int lf, .int ta])) sz H locs := hH
  have heq3 : fx_up (fx_up f r (oO 4 [.ref k, .ref w, .int (nI 0), .int wy, .int se, .int to, .int lf, .int ta])) r (oO 4 [.ref k, .ref w, .int (nI 0), .int (nI 1), .int se, .int to, .int lf, .int ta]) = fx_up f r (oO 4 [.ref k, .ref w, .int (nI 0), .int (nI 1), .int se, .int to, .int lf, .int ta]) := by rw [fx_up_up]
  have h3_k : (fx_up f r (oO 4 [.ref k, .ref w, .int (nI 0), .int (nI 1), .int se, .int to, .int lf, .int ta])) k = some (oJ 13 q) := (congrFun heq3 k).symm.trans ((fx_up_n _ _ (fx_ne h2_k h2_r rfl)).trans h2_k)
  have h3_w : (fx_up f r (oO 4 [.ref k, .ref w, .int (nI 0), .int (nI 1), .int se, .int to, .int lf, .int ta])) w = some (oO 2 [.ref wt, .ref ch, .ref sk, .int (nI P), .int st, .int ov, .int mi, .int ri, .int tl]) := (congrFun heq3 w).symm.trans ((fx_up_n _ _ (fx_ne h2_w h2_r rfl)).trans h2_w)
  have h3_wt : (fx_up f r (oO 4 [.ref k, .ref w, .int (nI 0), .int (nI 1), .int se, .int to, .int lf, .int ta])) wt = some (oI 12 g) := (congrFun heq3 wt).symm.trans ((fx_up_n _ _ (fx_ne h2_wt h2_r rfl)).trans h2_wt)
  have h3_r : (fx_up f r (oO 4 [.ref k, .ref w, .int (nI 0), .int (nI 1), .int se, .int to, .int lf, .int ta])) r = some (oO 4 [.ref k, .ref w, .int (nI 0), .int (nI 1), .int se, .int to, .int lf, .int ta]) := (congrFun heq3 r).symm.trans (fx_up_s _ _ _)
  refine lv_aload_n hx hb dX4_unwind_15 rfl (lv_at hl 0 rfl) ?_
  refine lv_iconst (v := nI 0) hx hb dX4_unwind_16 (by decide) ?_
  refine fx_putT C hH (k := 4) h3_r ff_X4_30_4 fL_4 fT_4_4 rfl rfl (Nat.le_of_ble_eq_true rfl) dX4_unwind_17 (fun H locs hH => ?_)
  have hH : fx_H G base s (fx_up (fx_up f r (oO 4 [.ref k, .ref w, .int (nI 0), .int (nI 1), .int se, .int to, .int lf, .int ta])) r (oO 4 [.ref k, .ref w, .int (nI 0), .int (nI 1), .int (nI 0), .int to, .int lf, .int ta])) sz H locs := hH
  rw [fx_up_up] at hH
  have hH : fx_H G base s (fx_up f r (oO 4 [.ref k, .ref w, .int (nI 0), .int (nI 1), .int (nI 0), .int to, .int lf, .int ta])) sz H locs := hH
  have heq4 : fx_up (fx_up f r (oO 4 [.ref k, .ref w, .int (nI 0), .int (nI 1), .int se, .int to, .int lf, .int ta])) r (oO 4 [.ref k, .ref w, .int (nI 0), .int (nI 1), .int (nI 0), .int to, .int lf, .int ta]) = fx_up f r (oO 4 [.ref k, .ref w, .int (nI 0), .int (nI 1), .int (nI 0), .int to, .int lf, .int ta]) := by rw [fx_up_up]
  have h4_k : (fx_up f r (oO 4 [.ref k, .ref w, .int (nI 0), .int (nI 1), .int (nI 0), .int to, .int lf, .int ta])) k = some (oJ 13 q) := (congrFun heq4 k).symm.trans ((fx_up_n _ _ (fx_ne h3_k h3_r rfl)).trans h3_k)
  have h4_w : (fx_up f r (oO 4 [.ref k, .ref w, .int (nI 0), .int (nI 1), .int (nI 0), .int to, .int lf, .int ta])) w = some (oO 2 [.ref wt, .ref ch, .ref sk, .int (nI P), .int st, .int ov, .int mi, .int ri, .int tl]) := (congrFun heq4 w).symm.trans ((fx_up_n _ _ (fx_ne h3_w h3_r rfl)).trans h3_w)
  have h4_wt : (fx_up f r (oO 4 [.ref k, .ref w, .int (nI 0), .int (nI 1), .int (nI 0), .int to, .int lf, .int ta])) wt = some (oI 12 g) := (congrFun heq4 wt).symm.trans ((fx_up_n _ _ (fx_ne h3_wt h3_r rfl)).trans h3_wt)
  have h4_r : (fx_up f r (oO 4 [.ref k, .ref w, .int (nI 0), .int (nI 1), .int (nI 0), .int to, .int lf, .int ta])) r = some (oO 4 [.ref k, .ref w, .int (nI 0), .int (nI 1), .int (nI 0), .int to, .int lf, .int ta]) := (congrFun heq4 r).symm.trans (fx_up_s _ _ _)
  refine lv_aload_n hx hb dX4_unwind_20 rfl (lv_at hl 0 rfl) ?_
  refine lv_iconst (v := nI 0) hx hb dX4_unwind_21 (by decide) ?_
  refine fx_putT C hH (k := 5) h4_r ff_X4_33_4 fL_4 fT_4_5 rfl rfl (Nat.le_of_ble_eq_true rfl) dX4_unwind_22 (fun H locs hH => ?_)
  have hH : fx_H G base s (fx_up (fx_up f r (oO 4 [.ref k, .ref w, .int (nI 0), .int (nI 1), .int (nI 0), .int to, .int lf, .int ta])) r (oO 4 [.ref k, .ref w, .int (nI 0), .int (nI 1), .int (nI 0), .int (nI 0), .int lf, .int ta])) sz H locs := hH
  rw [fx_up_up] at hH
  have hH : fx_H G base s (fx_up f r (oO 4 [.ref k, .ref w, .int (nI 0), .int (nI 1), .int (nI 0), .int (nI 0), .int lf, .int ta])) sz H locs := hH
  have heq5 : fx_up (fx_up f r (oO 4 [.ref k, .ref w, .int (nI 0), .int (nI 1), .int (nI 0), .int to, .int lf, .int ta])) r (oO 4 [.ref k, .ref w, .int (nI 0), .int (nI 1), .int (nI 0), .int (nI 0), .int lf, .int ta]) = fx_up f r (oO 4 [.ref k, .ref w, .int (nI 0), .int (nI 1), .int (nI 0), .int (nI 0), .int lf, .int ta]) := by rw [fx_up_up]
  have h5_k : (fx_up f r (oO 4 [.ref k, .ref w, .int (nI 0), .int (nI 1), .int (nI 0), .int (nI 0), .int lf, .int ta])) k = some (oJ 13 q) := (congrFun heq5 k).symm.trans ((fx_up_n _ _ (fx_ne h4_k h4_r rfl)).trans h4_k)
  have h5_w : (fx_up f r (oO 4 [.ref k, .ref w, .int (nI 0), .int (nI 1), .int (nI 0), .int (nI 0), .int lf, .int ta])) w = some (oO 2 [.ref wt, .ref ch, .ref sk, .int (nI P), .int st, .int ov, .int mi, .int ri, .int tl]) := (congrFun heq5 w).symm.trans ((fx_up_n _ _ (fx_ne h4_w h4_r rfl)).trans h4_w)
  have h5_wt : (fx_up f r (oO 4 [.ref k, .ref w, .int (nI 0), .int (nI 1), .int (nI 0), .int (nI 0), .int lf, .int ta])) wt = some (oI 12 g) := (congrFun heq5 wt).symm.trans ((fx_up_n _ _ (fx_ne h4_wt h4_r rfl)).trans h4_wt)
  have h5_r : (fx_up f r (oO 4 [.ref k, .ref w, .int (nI 0), .int (nI 1), .int (nI 0), .int (nI 0), .int lf, .int ta])) r = some (oO 4 [.ref k, .ref w, .int (nI 0), .int (nI 1), .int (nI 0), .int (nI 0), .int lf, .int ta]) := (congrFun heq5 r).symm.trans (fx_up_s _ _ _)
  refine lv_aload_n hx hb dX4_unwind_25 rfl (lv_at hl 0 rfl) ?_
  refine lv_iconst (v := nI 0) hx hb dX4_unwind_26 (by decide) ?_
  refine fx_putT C hH (k := 6) h5_r ff_X4_36_4 fL_4 fT_4_6 rfl rfl (Nat.le_of_ble_eq_true rfl) dX4_unwind_27 (fun H locs hH => ?_)
  have hH : fx_H G base s (fx_up (fx_up f r (oO 4 [.ref k, .ref w, .int (nI 0), .int (nI 1), .int (nI 0), .int (nI 0), .int lf, .int ta])) r (oO 4 [.ref k, .ref w, .int (nI 0), .int (nI 1), .int (nI 0), .int (nI 0), .int (nI 0), .int ta])) sz H locs := hH
  rw [fx_up_up] at hH
  have hH : fx_H G base s (fx_up f r (oO 4 [.ref k, .ref w, .int (nI 0), .int (nI 1), .int (nI 0), .int (nI 0), .int (nI 0), .int ta])) sz H locs := hH
  have heq6 : fx_up (fx_up f r (oO 4 [.ref k, .ref w, .int (nI 0), .int (nI 1), .int (nI 0), .int (nI 0), .int lf, .int ta])) r (oO 4 [.ref k, .ref w, .int (nI 0), .int (nI 1), .int (nI 0), .int (nI 0), .int (nI 0), .int ta]) = fx_up f r (oO 4 [.ref k, .ref w, .int (nI 0), .int (nI 1), .int (nI 0), .int (nI 0), .int (nI 0), .int ta]) := by rw [fx_up_up]
  have h6_k : (fx_up f r (oO 4 [.ref k, .ref w, .int (nI 0), .int (nI 1), .int (nI 0), .int (nI 0), .int (nI 0), .int ta])) k = some (oJ 13 q) := (congrFun heq6 k).symm.trans ((fx_up_n _ _ (fx_ne h5_k h5_r rfl)).trans h5_k)
  have h6_w : (fx_up f r (oO 4 [.ref k, .ref w, .int (nI 0), .int (nI 1), .int (nI 0), .int (nI 0), .int (nI 0), .int ta])) w = some (oO 2 [.ref wt, .ref ch, .ref sk, .int (nI P), .int st, .int ov, .int mi, .int ri, .int tl]) := (congrFun heq6 w).symm.trans ((fx_up_n _ _ (fx_ne h5_w h5_r rfl)).trans h5_w)
  have h6_wt : (fx_up f r (oO 4 [.ref k, .ref w, .int (nI 0), .int (nI 1), .int (nI 0), .int (nI 0), .int (nI 0), .int ta])) wt = some (oI 12 g) := (congrFun heq6 wt).symm.trans ((fx_up_n _ _ (fx_ne h5_wt h5_r rfl)).trans h5_wt)
  have h6_r : (fx_up f r (oO 4 [.ref k, .ref w, .int (nI 0), .int (nI 1), .int (nI 0), .int (nI 0), .int (nI 0), .int ta])) r = some (oO 4 [.ref k, .ref w, .int (nI 0), .int (nI 1), .int (nI 0), .int (nI 0), .int (nI 0), .int ta]) := (congrFun heq6 r).symm.trans (fx_up_s _ _ _)
  refine lv_aload_n hx hb dX4_unwind_30 rfl (lv_at hl 0 rfl) ?_
  refine lv_ldc (v := (-1000000)) hx hb C.2.2.2.1 (C.2.2.2.2.1 _ kI_X4_19 rfl args) dX4_unwind_31 ?_
  refine fx_putT C hH (k := 7) h6_r ff_X4_20_4 fL_4 fT_4_7 rfl rfl (Nat.le_of_ble_eq_true rfl) dX4_unwind_33 (fun H locs hH => ?_)
  have hH : fx_H G base s (fx_up (fx_up f r (oO 4 [.ref k, .ref w, .int (nI 0), .int (nI 1), .int (nI 0), .int (nI 0), .int (nI 0), .int ta])) r (oO 4 [.ref k, .ref w, .int (nI 0), .int (nI 1), .int (nI 0), .int (nI 0), .int (nI 0), .int (-1000000)])) sz H locs := hH
  rw [fx_up_up] at hH
  have hH : fx_H G base s (fx_up f r (oO 4 [.ref k, .ref w, .int (nI 0), .int (nI 1), .int (nI 0), .int (nI 0), .int (nI 0), .int (-1000000)])) sz H locs := hH
  have heq7 : fx_up (fx_up f r (oO 4 [.ref k, .ref w, .int (nI 0), .int (nI 1), .int (nI 0), .int (nI 0), .int (nI 0), .int ta])) r (oO 4 [.ref k, .ref w, .int (nI 0), .int (nI 1), .int (nI 0), .int (nI 0), .int (nI 0), .int (-1000000)]) = fx_up f r (oO 4 [.ref k, .ref w, .int (nI 0), .int (nI 1), .int (nI 0), .int (nI 0), .int (nI 0), .int (-1000000)]) := by rw [fx_up_up]
  have h7_k : (fx_up f r (oO 4 [.ref k, .ref w, .int (nI 0), .int (nI 1), .int (nI 0), .int (nI 0), .int (nI 0), .int (-1000000)])) k = some (oJ 13 q) := (congrFun heq7 k).symm.trans ((fx_up_n _ _ (fx_ne h6_k h6_r rfl)).trans h6_k)
  have h7_w : (fx_up f r (oO 4 [.ref k, .ref w, .int (nI 0), .int (nI 1), .int (nI 0), .int (nI 0), .int (nI 0), .int (-1000000)])) w = some (oO 2 [.ref wt, .ref ch, .ref sk, .int (nI P), .int st, .int ov, .int mi, .int ri, .int tl]) := (congrFun heq7 w).symm.trans ((fx_up_n _ _ (fx_ne h6_w h6_r rfl)).trans h6_w)
  have h7_wt : (fx_up f r (oO 4 [.ref k, .ref w, .int (nI 0), .int (nI 1), .int (nI 0), .int (nI 0), .int (nI 0), .int (-1000000)])) wt = some (oI 12 g) := (congrFun heq7 wt).symm.trans ((fx_up_n _ _ (fx_ne h6_wt h6_r rfl)).trans h6_wt)
  have h7_r : (fx_up f r (oO 4 [.ref k, .ref w, .int (nI 0), .int (nI 1), .int (nI 0), .int (nI 0), .int (nI 0), .int (-1000000)])) r = some (oO 4 [.ref k, .ref w, .int (nI 0), .int (nI 1), .int (nI 0), .int (nI 0), .int (nI 0), .int (-1000000)]) := (congrFun heq7 r).symm.trans (fx_up_s _ _ _)
  refine lv_iconst (v := nI 0) hx hb dX4_unwind_36 (by decide) ?_
  refine lv_istore_n (lv' := [(2, .int (nI 0)), (0, .ref r), (1, .ref w)]) hx hb dX4_unwind_37 rfl hl (by decide) rfl (fun ls hl => ?_)
  have loop_38 : ∀ (N_38 : Nat) (i : Nat) (hi : i ≤ P) (hm_38 : P - i < N_38) (H : Heap) (locs : List Loc) (hH : fx_H G base s (fx_up (fx_up f r (oO 4 [.ref k, .ref w, .int (nI 0), .int (nI 1), .int (nI 0), .int (nI 0), .int (nI 0), .int (-1000000)])) k (oJ 13 (fJ q 0 (fun z => (g z).toInt64) i))) sz H locs) (ls : Array Slot) (hl : lv_has ls 3 [(0, .ref r), (1, .ref w), (2, .int (nI i))]), W p l e rm_X4_unwind s m args below meth c H locs 0 0 (MQ below (fx_Q G base none (fx_up (fx_up f r (oO 4 [.ref k, .ref w, .int (nI 0), .int (nI 1), .int (nI 0), .int (nI 0), .int (nI 0), .int (-1000000)])) k (oJ 13 (vp_updL (fJ q 0 (fun z => (g z).toInt64) P) P mi.toInt64))) sz) args s rm_X4_unwind.cells rm_X4_unwind.slots (fun q => base ≤ q)) (F0 m 38 ls []) := by
    intro N_38
    induction N_38 with
    | zero => intro i hi hm_38; exact absurd hm_38 (Nat.not_lt_zero _)
    | succ N_38 ih_38 =>
      intro i hi hm_38 H locs hH ls hl
      have h8_k : (fx_up (fx_up f r (oO 4 [.ref k, .ref w, .int (nI 0), .int (nI 1), .int (nI 0), .int (nI 0), .int (nI 0), .int (-1000000)])) k (oJ 13 (fJ q 0 (fun z => (g z).toInt64) i))) k = some (oJ 13 (fJ q 0 (fun z => (g z).toInt64) i)) := fx_up_s _ _ _
      have h8_w : (fx_up (fx_up f r (oO 4 [.ref k, .ref w, .int (nI 0), .int (nI 1), .int (nI 0), .int (nI 0), .int (nI 0), .int (-1000000)])) k (oJ 13 (fJ q 0 (fun z => (g z).toInt64) i))) w = some (oO 2 [.ref wt, .ref ch, .ref sk, .int (nI P), .int st, .int ov, .int mi, .int ri, .int tl]) := (fx_up_n _ _ (fx_ne h7_w h7_k rfl)).trans ((fx_up_n _ _ (fx_ne h7_w h7_r rfl)).trans (h_w))
      have h8_wt : (fx_up (fx_up f r (oO 4 [.ref k, .ref w, .int (nI 0), .int (nI 1), .int (nI 0), .int (nI 0), .int (nI 0), .int (-1000000)])) k (oJ 13 (fJ q 0 (fun z => (g z).toInt64) i))) wt = some (oI 12 g) := (fx_up_n _ _ (fx_ne h7_wt h7_k rfl)).trans ((fx_up_n _ _ (fx_ne h7_wt h7_r rfl)).trans (h_wt))
      have h8_r : (fx_up (fx_up f r (oO 4 [.ref k, .ref w, .int (nI 0), .int (nI 1), .int (nI 0), .int (nI 0), .int (nI 0), .int (-1000000)])) k (oJ 13 (fJ q 0 (fun z => (g z).toInt64) i))) r = some (oO 4 [.ref k, .ref w, .int (nI 0), .int (nI 1), .int (nI 0), .int (nI 0), .int (nI 0), .int (-1000000)]) := (fx_up_n _ _ (fx_ne h7_r h7_k rfl)).trans (fx_up_s _ _ _)
      refine lv_iload_n hx hb dX4_unwind_38 rfl (lv_at hl 2 rfl) ?_
      refine lv_aload_n hx hb dX4_unwind_39 rfl (lv_at hl 1 rfl) ?_
      refine fx_get C hH (k := 3) (v := .int (nI P)) h8_w ff_X4_39_2 rfl dX4_unwind_40 ?_
      refine fx_N_ge (a := i) (b := P) hx hb (by omega) (by omega) (tgt := 65) dX4_unwind_43 (by decide) (fun c43 => ?_) (fun c43 => ?_)
      · refine lv_aload_n hx hb dX4_unwind_65 rfl (lv_at hl 0 rfl) ?_
        refine fx_get C hH (k := 0) (v := .ref k) h8_r ff_X4_9_4 rfl dX4_unwind_66 ?_
        refine lv_aload_n hx hb dX4_unwind_69 rfl (lv_at hl 1 rfl) ?_
        refine fx_get C hH (k := 3) (v := .int (nI P)) h8_w ff_X4_39_2 rfl dX4_unwind_70 ?_
        refine lv_aload_n hx hb dX4_unwind_73 rfl (lv_at hl 1 rfl) ?_
        refine fx_get C hH (k := 6) (v := .int mi) h8_w ff_X4_48_2 rfl dX4_unwind_74 ?_
        refine lv_i2l (v := mi.toInt64) hx hb dX4_unwind_77 rfl ?_
        refine fx_lastN C hH h8_k (by omega) (by omega) dX4_unwind_78 (fun H locs hH => ?_)
        have hH : fx_H G base s (fx_up (fx_up (fx_up f r (oO 4 [.ref k, .ref w, .int (nI 0), .int (nI 1), .int (nI 0), .int (nI 0), .int (nI 0), .int (-1000000)])) k (oJ 13 (fJ q 0 (fun z => (g z).toInt64) i))) k (oJ 13 (vp_updL (fJ q 0 (fun z => (g z).toInt64) i) P mi.toInt64))) sz H locs := hH
        rw [fx_up_up] at hH
        have hH : fx_H G base s (fx_up (fx_up f r (oO 4 [.ref k, .ref w, .int (nI 0), .int (nI 1), .int (nI 0), .int (nI 0), .int (nI 0), .int (-1000000)])) k (oJ 13 (vp_updL (fJ q 0 (fun z => (g z).toInt64) i) P mi.toInt64))) sz H locs := hH
        have heq9 : fx_up (fx_up (fx_up f r (oO 4 [.ref k, .ref w, .int (nI 0), .int (nI 1), .int (nI 0), .int (nI 0), .int (nI 0), .int (-1000000)])) k (oJ 13 (fJ q 0 (fun z => (g z).toInt64) i))) k (oJ 13 (vp_updL (fJ q 0 (fun z => (g z).toInt64) i) P mi.toInt64)) = fx_up (fx_up f r (oO 4 [.ref k, .ref w, .int (nI 0), .int (nI 1), .int (nI 0), .int (nI 0), .int (nI 0), .int (-1000000)])) k (oJ 13 (vp_updL (fJ q 0 (fun z => (g z).toInt64) i) P mi.toInt64)) := by rw [fx_up_up]
        have h9_w : (fx_up (fx_up f r (oO 4 [.ref k, .ref w, .int (nI 0), .int (nI 1), .int (nI 0), .int (nI 0), .int (nI 0), .int (-1000000)])) k (oJ 13 (vp_updL (fJ q 0 (fun z => (g z).toInt64) i) P mi.toInt64))) w = some (oO 2 [.ref wt, .ref ch, .ref sk, .int (nI P), .int st, .int ov, .int mi, .int ri, .int tl]) := (congrFun heq9 w).symm.trans ((fx_up_n _ _ (fx_ne h8_w h8_k rfl)).trans h8_w)
        have h9_wt : (fx_up (fx_up f r (oO 4 [.ref k, .ref w, .int (nI 0), .int (nI 1), .int (nI 0), .int (nI 0), .int (nI 0), .int (-1000000)])) k (oJ 13 (vp_updL (fJ q 0 (fun z => (g z).toInt64) i) P mi.toInt64))) wt = some (oI 12 g) := (congrFun heq9 wt).symm.trans ((fx_up_n _ _ (fx_ne h8_wt h8_k rfl)).trans h8_wt)
        have h9_r : (fx_up (fx_up f r (oO 4 [.ref k, .ref w, .int (nI 0), .int (nI 1), .int (nI 0), .int (nI 0), .int (nI 0), .int (-1000000)])) k (oJ 13 (vp_updL (fJ q 0 (fun z => (g z).toInt64) i) P mi.toInt64))) r = some (oO 4 [.ref k, .ref w, .int (nI 0), .int (nI 1), .int (nI 0), .int (nI 0), .int (nI 0), .int (-1000000)]) := (congrFun heq9 r).symm.trans ((fx_up_n _ _ (fx_ne h8_r h8_k rfl)).trans h8_r)
        have h9_k : (fx_up (fx_up f r (oO 4 [.ref k, .ref w, .int (nI 0), .int (nI 1), .int (nI 0), .int (nI 0), .int (nI 0), .int (-1000000)])) k (oJ 13 (vp_updL (fJ q 0 (fun z => (g z).toInt64) i) P mi.toInt64))) k = some (oJ 13 (vp_updL (fJ q 0 (fun z => (g z).toInt64) i) P mi.toInt64)) := (congrFun heq9 k).symm.trans (fx_up_s _ _ _)
        exact fx_vret C hr hk hH (by rw [show i = P from by omega]) rfl (Nat.zero_le _) (Nat.zero_le _) dX4_unwind_79
      · refine lv_aload_n hx hb dX4_unwind_46 rfl (lv_at hl 0 rfl) ?_
        refine fx_get C hH (k := 0) (v := .ref k) h8_r ff_X4_9_4 rfl dX4_unwind_47 ?_
        refine lv_iload_n hx hb dX4_unwind_50 rfl (lv_at hl 2 rfl) ?_
        refine lv_aload_n hx hb dX4_unwind_51 rfl (lv_at hl 1 rfl) ?_
        refine fx_get C hH (k := 0) (v := .ref wt) h8_w ff_X4_44_2 rfl dX4_unwind_52 ?_
        refine lv_iload_n hx hb dX4_unwind_55 rfl (lv_at hl 2 rfl) ?_
        refine fx_ialdN C hH h8_wt (by omega) (by omega) dX4_unwind_56 ?_
        refine lv_i2l (v := (g i).toInt64) hx hb dX4_unwind_57 rfl ?_
        refine fx_lastN C hH h8_k (by omega) (by omega) dX4_unwind_58 (fun H locs hH => ?_)
        have hH : fx_H G base s (fx_up (fx_up (fx_up f r (oO 4 [.ref k, .ref w, .int (nI 0), .int (nI 1), .int (nI 0), .int (nI 0), .int (nI 0), .int (-1000000)])) k (oJ 13 (fJ q 0 (fun z => (g z).toInt64) i))) k (oJ 13 (vp_updL (fJ q 0 (fun z => (g z).toInt64) i) i ((g i).toInt64)))) sz H locs := hH
        rw [fx_up_up] at hH
        have hH : fx_H G base s (fx_up (fx_up f r (oO 4 [.ref k, .ref w, .int (nI 0), .int (nI 1), .int (nI 0), .int (nI 0), .int (nI 0), .int (-1000000)])) k (oJ 13 (vp_updL (fJ q 0 (fun z => (g z).toInt64) i) i ((g i).toInt64)))) sz H locs := hH
        have heq10 : fx_up (fx_up (fx_up f r (oO 4 [.ref k, .ref w, .int (nI 0), .int (nI 1), .int (nI 0), .int (nI 0), .int (nI 0), .int (-1000000)])) k (oJ 13 (fJ q 0 (fun z => (g z).toInt64) i))) k (oJ 13 (vp_updL (fJ q 0 (fun z => (g z).toInt64) i) i ((g i).toInt64))) = fx_up (fx_up f r (oO 4 [.ref k, .ref w, .int (nI 0), .int (nI 1), .int (nI 0), .int (nI 0), .int (nI 0), .int (-1000000)])) k (oJ 13 (vp_updL (fJ q 0 (fun z => (g z).toInt64) i) i ((g i).toInt64))) := by rw [fx_up_up]
        have h10_w : (fx_up (fx_up f r (oO 4 [.ref k, .ref w, .int (nI 0), .int (nI 1), .int (nI 0), .int (nI 0), .int (nI 0), .int (-1000000)])) k (oJ 13 (vp_updL (fJ q 0 (fun z => (g z).toInt64) i) i ((g i).toInt64)))) w = some (oO 2 [.ref wt, .ref ch, .ref sk, .int (nI P), .int st, .int ov, .int mi, .int ri, .int tl]) := (congrFun heq10 w).symm.trans ((fx_up_n _ _ (fx_ne h8_w h8_k rfl)).trans h8_w)
        have h10_wt : (fx_up (fx_up f r (oO 4 [.ref k, .ref w, .int (nI 0), .int (nI 1), .int (nI 0), .int (nI 0), .int (nI 0), .int (-1000000)])) k (oJ 13 (vp_updL (fJ q 0 (fun z => (g z).toInt64) i) i ((g i).toInt64)))) wt = some (oI 12 g) := (congrFun heq10 wt).symm.trans ((fx_up_n _ _ (fx_ne h8_wt h8_k rfl)).trans h8_wt)
        have h10_r : (fx_up (fx_up f r (oO 4 [.ref k, .ref w, .int (nI 0), .int (nI 1), .int (nI 0), .int (nI 0), .int (nI 0), .int (-1000000)])) k (oJ 13 (vp_updL (fJ q 0 (fun z => (g z).toInt64) i) i ((g i).toInt64)))) r = some (oO 4 [.ref k, .ref w, .int (nI 0), .int (nI 1), .int (nI 0), .int (nI 0), .int (nI 0), .int (-1000000)]) := (congrFun heq10 r).symm.trans ((fx_up_n _ _ (fx_ne h8_r h8_k rfl)).trans h8_r)
        have h10_k : (fx_up (fx_up f r (oO 4 [.ref k, .ref w, .int (nI 0), .int (nI 1), .int (nI 0), .int (nI 0), .int (nI 0), .int (-1000000)])) k (oJ 13 (vp_updL (fJ q 0 (fun z => (g z).toInt64) i) i ((g i).toInt64)))) k = some (oJ 13 (vp_updL (fJ q 0 (fun z => (g z).toInt64) i) i ((g i).toInt64))) := (congrFun heq10 k).symm.trans (fx_up_s _ _ _)
        refine lv_iinc (v := nI (i + 1)) (lv' := [(2, .int (nI (i + 1))), (0, .ref r), (1, .ref w)]) hx hb dX4_unwind_59 hl (k := 2) rfl (nI_1 _) (by decide) rfl (fun ls hl => ?_)
        refine lv_goto (tgt := 38) hx hb dX4_unwind_62 (by decide) ?_
        have hl : lv_has ls 3 [(0, .ref r), (1, .ref w), (2, .int (nI (i + 1)))] := lv_sub hl [1, 2, 0] rfl
        have hH : fx_H G base s (fx_up (fx_up f r (oO 4 [.ref k, .ref w, .int (nI 0), .int (nI 1), .int (nI 0), .int (nI 0), .int (nI 0), .int (-1000000)])) k (oJ 13 (fJ q 0 (fun z => (g z).toInt64) (i + 1)))) sz H locs := (by rw [fJ, Nat.zero_add]; exact hH)
        exact ih_38 (i + 1) (by omega) (by omega) _ _ hH _ hl
  have hl : lv_has ls 3 [(0, .ref r), (1, .ref w), (2, .int (nI 0))] := lv_sub hl [1, 2, 0] rfl
  have hH : fx_H G base s (fx_up (fx_up f r (oO 4 [.ref k, .ref w, .int (nI 0), .int (nI 1), .int (nI 0), .int (nI 0), .int (nI 0), .int (-1000000)])) k (oJ 13 (fJ q 0 (fun z => (g z).toInt64) 0))) sz H locs := (by rw [fx_up_id (show (fx_up f r (oO 4 [.ref k, .ref w, .int (nI 0), .int (nI 1), .int (nI 0), .int (nI 0), .int (nI 0), .int (-1000000)])) k = some (oJ 13 (fJ q 0 (fun z => (g z).toInt64) 0)) from h7_k)]; exact hH)
  exact loop_38 _ 0 (by omega) (Nat.lt_succ_self _) _ _ hH _ hl
abbrev rm_X4_follow : Room := { frames := 3, cells := 0, slots := 0, locals := 64 }
set_option maxHeartbeats 4000000 in
set_option maxRecDepth 100000 in
theorem c_X4_follow_0 {G : GG} {base : Nat} {l : Launch} {f : Hp} {sz : Nat} {r : Nat} {k : Nat} {w : Nat} {pl : Nat} {wy : Int32} {se : Int32} {to : Int32} {lf : Int32} {ta : Int32} {wt : Nat} {ch : Nat} {sk : Nat} {P : Nat} {st : Nat} {ov : Int32} {mi : Int32} {ri : Int32} {tl : Int32} (h_r : f r = some (oO 4 [.ref k, .ref w, .int (nI pl), .int wy, .int se, .int to, .int lf, .int ta])) (h_w : f w = some (oO 2 [.ref wt, .ref ch, .ref sk, .int (nI P), .int (nI st), .int ov, .int mi, .int ri, .int tl])) (hP : 1 ≤ P ∧ P ≤ 12) : fx_M G base l yX4_follow cX4_follow 2 none rm_X4_follow [.ref r, .int (nI 0)] f sz none (fx_up f r (oO 4 [.ref k, .ref w, .int (fmI (nI pl + wy * nI 1) (nI P)), .int wy, .int (se + nI 1 * nI st), .int to, .int lf, .int ta])) sz := by
  refine fx_of (by decide +kernel) (Nat.le_of_ble_eq_true rfl) ?_
  intro p e s m args below meth c C hr hk hnm hH ls hl
  obtain ⟨locs, hlocs⟩ : ∃ L : List Loc, L = [] := ⟨_, rfl⟩
  rw [← hlocs] at hH ⊢
  generalize s.heap = H at hH ⊢
  have hx := C.1
  have hb := C.2.1
  have hl : lv_has ls 2 [(0, .ref r), (1, .int (nI 0))] := hl
  refine lv_iload_n hx hb dX4_follow_0 rfl (lv_at hl 1 rfl) ?_
  refine lv_tableIn (off := 27) (tgt := 28) hx hb dX4_follow_1 (by decide) (by decide) (by decide) (by decide) ?_
  refine lv_aload_n hx hb dX4_follow_28 rfl (lv_at hl 0 rfl) ?_
  refine lv_iconst (v := nI 1) hx hb dX4_follow_29 (by decide) ?_
  refine fx_go0 hH (fx_runV C hH hl.1 (As := [.int (nI 1)]) (rest := []) (c_X4_advance (G := G) (base := base) (l := l) (f := f) (sz := sz) (r := r) (n := nI 1) (k := k) (w := w) (pl := pl) (wy := wy) (se := se) (to := to) (lf := lf) (ta := ta) (wt := wt) (ch := ch) (sk := sk) (P := P) (st := st) (ov := ov) (mi := mi) (ri := ri) (tl := tl) h_r h_w (by omega)) mY_X4_advance ml_X4_88 im_X4_advance se_X4_X4_advance h_r rfl rfl ⟨(Nat.le_of_ble_eq_true rfl), (Nat.le_of_ble_eq_true rfl)⟩ rfl (Nat.le_of_ble_eq_true rfl) ⟨(Nat.le_of_ble_eq_true rfl), (Nat.le_of_ble_eq_true rfl)⟩ dX4_follow_30) (fun H locs hH => ?_)
  have hH : fx_H G base s (fx_up f r (oO 4 [.ref k, .ref w, .int (fmI (nI pl + wy * (nI 1)) (nI P)), .int wy, .int (se + (nI 1) * nI st), .int to, .int lf, .int ta])) sz H locs := hH
  have h1_w : (fx_up f r (oO 4 [.ref k, .ref w, .int (fmI (nI pl + wy * (nI 1)) (nI P)), .int wy, .int (se + (nI 1) * nI st), .int to, .int lf, .int ta])) w = some (oO 2 [.ref wt, .ref ch, .ref sk, .int (nI P), .int (nI st), .int ov, .int mi, .int ri, .int tl]) := (fx_up_n _ _ (fx_ne h_w h_r rfl)).trans h_w
  have h1_r : (fx_up f r (oO 4 [.ref k, .ref w, .int (fmI (nI pl + wy * (nI 1)) (nI P)), .int wy, .int (se + (nI 1) * nI st), .int to, .int lf, .int ta])) r = some (oO 4 [.ref k, .ref w, .int (fmI (nI pl + wy * (nI 1)) (nI P)), .int wy, .int (se + (nI 1) * nI st), .int to, .int lf, .int ta]) := fx_up_s _ _ _
  have hH : fx_H G base s (fx_up f r (oO 4 [.ref k, .ref w, .int (fmI (nI pl + wy * (nI 1)) (nI P)), .int wy, .int (se + (nI 1) * nI st), .int to, .int lf, .int ta])) sz H locs := hH
  refine lv_goto (tgt := 51) hx hb dX4_follow_33 (by decide) ?_
  exact fx_vret C hr hk hH (by rfl) rfl (Nat.zero_le _) (Nat.zero_le _) dX4_follow_51
set_option maxHeartbeats 4000000 in
set_option maxRecDepth 100000 in
theorem c_X4_follow_1 {G : GG} {base : Nat} {l : Launch} {f : Hp} {sz : Nat} {r : Nat} {k : Nat} {w : Nat} {pl : Nat} {wy : Int32} {se : Int32} {to : Int32} {lf : Int32} {ta : Int32} {wt : Nat} {ch : Nat} {sk : Nat} {P : Nat} {st : Nat} {ov : Int32} {mi : Int32} {ri : Int32} {tl : Int32} (h_r : f r = some (oO 4 [.ref k, .ref w, .int (nI pl), .int wy, .int se, .int to, .int lf, .int ta])) (h_w : f w = some (oO 2 [.ref wt, .ref ch, .ref sk, .int (nI P), .int (nI st), .int ov, .int mi, .int ri, .int tl])) (hP : 1 ≤ P ∧ P ≤ 12) : fx_M G base l yX4_follow cX4_follow 2 none rm_X4_follow [.ref r, .int (nI 1)] f sz none (fx_up f r (oO 4 [.ref k, .ref w, .int (nI pl), .int (-wy), .int (se + ov), .int to, .int lf, .int ta])) sz := by
  refine fx_of (by decide +kernel) (Nat.le_of_ble_eq_true rfl) ?_
  intro p e s m args below meth c C hr hk hnm hH ls hl
  obtain ⟨locs, hlocs⟩ : ∃ L : List Loc, L = [] := ⟨_, rfl⟩
  rw [← hlocs] at hH ⊢
  generalize s.heap = H at hH ⊢
  have hx := C.1
  have hb := C.2.1
  have hl : lv_has ls 2 [(0, .ref r), (1, .int (nI 1))] := hl
  refine lv_iload_n hx hb dX4_follow_0 rfl (lv_at hl 1 rfl) ?_
  refine lv_tableIn (off := 35) (tgt := 36) hx hb dX4_follow_1 (by decide) (by decide) (by decide) (by decide) ?_
  refine lv_aload_n hx hb dX4_follow_36 rfl (lv_at hl 0 rfl) ?_
  refine fx_go0 hH (fx_runV C hH hl.1 (As := []) (rest := []) (c_X4_turn (G := G) (base := base) (l := l) (f := f) (sz := sz) (r := r) (k := k) (w := w) (pl := nI pl) (wy := wy) (se := se) (to := to) (lf := lf) (ta := ta) (wt := wt) (ch := ch) (sk := sk) (P := nI P) (st := nI st) (ov := ov) (mi := mi) (ri := ri) (tl := tl) h_r h_w) mY_X4_turn ml_X4_92 im_X4_turn se_X4_X4_turn h_r rfl rfl ⟨(Nat.le_of_ble_eq_true rfl), (Nat.le_of_ble_eq_true rfl)⟩ rfl (Nat.le_of_ble_eq_true rfl) ⟨(Nat.le_of_ble_eq_true rfl), (Nat.le_of_ble_eq_true rfl)⟩ dX4_follow_37) (fun H locs hH => ?_)
  have hH : fx_H G base s (fx_up f r (oO 4 [.ref k, .ref w, .int (nI pl), .int (-wy), .int (se + ov), .int to, .int lf, .int ta])) sz H locs := hH
  have h1_w : (fx_up f r (oO 4 [.ref k, .ref w, .int (nI pl), .int (-wy), .int (se + ov), .int to, .int lf, .int ta])) w = some (oO 2 [.ref wt, .ref ch, .ref sk, .int (nI P), .int (nI st), .int ov, .int mi, .int ri, .int tl]) := (fx_up_n _ _ (fx_ne h_w h_r rfl)).trans h_w
  have h1_r : (fx_up f r (oO 4 [.ref k, .ref w, .int (nI pl), .int (-wy), .int (se + ov), .int to, .int lf, .int ta])) r = some (oO 4 [.ref k, .ref w, .int (nI pl), .int (-wy), .int (se + ov), .int to, .int lf, .int ta]) := fx_up_s _ _ _
  have hH : fx_H G base s (fx_up f r (oO 4 [.ref k, .ref w, .int (nI pl), .int (-wy), .int (se + ov), .int to, .int lf, .int ta])) sz H locs := hH
  refine lv_goto (tgt := 51) hx hb dX4_follow_40 (by decide) ?_
  exact fx_vret C hr hk hH rfl rfl (Nat.zero_le _) (Nat.zero_le _) dX4_follow_51
set_option maxHeartbeats 4000000 in
set_option maxRecDepth 100000 in
theorem c_X4_follow_2 {G : GG} {base : Nat} {l : Launch} {f : Hp} {sz : Nat} {r : Nat} {k : Nat} {w : Nat} {pl : Nat} {wy : Int32} {se : Int32} {to : Int32} {lf : Int32} {ta : Int32} {wt : Nat} {ch : Nat} {sk : Nat} {P : Nat} {st : Nat} {ov : Int32} {mi : Int32} {ri : Int32} {tl : Int32} (h_r : f r = some (oO 4 [.ref k, .ref w, .int (nI pl), .int wy, .int se, .int to, .int lf, .int ta])) (h_w : f w = some (oO 2 [.ref wt, .ref ch, .ref sk, .int (nI P), .int (nI st), .int ov, .int mi, .int ri, .int tl])) (hP : 1 ≤ P ∧ P ≤ 12) : fx_M G base l yX4_follow cX4_follow 2 none rm_X4_follow [.ref r, .int (nI 2)] f sz none (fx_up f r (oO 4 [.ref k, .ref w, .int (fmI (nI pl + wy * nI 2) (nI P)), .int wy, .int (se + nI 2 * nI st), .int to, .int lf, .int ta])) sz := by
  refine fx_of (by decide +kernel) (Nat.le_of_ble_eq_true rfl) ?_
  intro p e s m args below meth c C hr hk hnm hH ls hl
  obtain ⟨locs, hlocs⟩ : ∃ L : List Loc, L = [] := ⟨_, rfl⟩
  rw [← hlocs] at hH ⊢
  generalize s.heap = H at hH ⊢
  have hx := C.1
  have hb := C.2.1
  have hl : lv_has ls 2 [(0, .ref r), (1, .int (nI 2))] := hl
  refine lv_iload_n hx hb dX4_follow_0 rfl (lv_at hl 1 rfl) ?_
  refine lv_tableIn (off := 42) (tgt := 43) hx hb dX4_follow_1 (by decide) (by decide) (by decide) (by decide) ?_
  refine lv_aload_n hx hb dX4_follow_43 rfl (lv_at hl 0 rfl) ?_
  refine lv_iconst (v := nI 2) hx hb dX4_follow_44 (by decide) ?_
  refine fx_go0 hH (fx_runV C hH hl.1 (As := [.int (nI 2)]) (rest := []) (c_X4_advance (G := G) (base := base) (l := l) (f := f) (sz := sz) (r := r) (n := nI 2) (k := k) (w := w) (pl := pl) (wy := wy) (se := se) (to := to) (lf := lf) (ta := ta) (wt := wt) (ch := ch) (sk := sk) (P := P) (st := st) (ov := ov) (mi := mi) (ri := ri) (tl := tl) h_r h_w (by omega)) mY_X4_advance ml_X4_88 im_X4_advance se_X4_X4_advance h_r rfl rfl ⟨(Nat.le_of_ble_eq_true rfl), (Nat.le_of_ble_eq_true rfl)⟩ rfl (Nat.le_of_ble_eq_true rfl) ⟨(Nat.le_of_ble_eq_true rfl), (Nat.le_of_ble_eq_true rfl)⟩ dX4_follow_45) (fun H locs hH => ?_)
  have hH : fx_H G base s (fx_up f r (oO 4 [.ref k, .ref w, .int (fmI (nI pl + wy * (nI 2)) (nI P)), .int wy, .int (se + (nI 2) * nI st), .int to, .int lf, .int ta])) sz H locs := hH
  have h1_w : (fx_up f r (oO 4 [.ref k, .ref w, .int (fmI (nI pl + wy * (nI 2)) (nI P)), .int wy, .int (se + (nI 2) * nI st), .int to, .int lf, .int ta])) w = some (oO 2 [.ref wt, .ref ch, .ref sk, .int (nI P), .int (nI st), .int ov, .int mi, .int ri, .int tl]) := (fx_up_n _ _ (fx_ne h_w h_r rfl)).trans h_w
  have h1_r : (fx_up f r (oO 4 [.ref k, .ref w, .int (fmI (nI pl + wy * (nI 2)) (nI P)), .int wy, .int (se + (nI 2) * nI st), .int to, .int lf, .int ta])) r = some (oO 4 [.ref k, .ref w, .int (fmI (nI pl + wy * (nI 2)) (nI P)), .int wy, .int (se + (nI 2) * nI st), .int to, .int lf, .int ta]) := fx_up_s _ _ _
  have hH : fx_H G base s (fx_up f r (oO 4 [.ref k, .ref w, .int (fmI (nI pl + wy * (nI 2)) (nI P)), .int wy, .int (se + (nI 2) * nI st), .int to, .int lf, .int ta])) sz H locs := hH
  refine lv_goto (tgt := 51) hx hb dX4_follow_48 (by decide) ?_
  exact fx_vret C hr hk hH (by rfl) rfl (Nat.zero_le _) (Nat.zero_le _) dX4_follow_51
set_option maxHeartbeats 4000000 in
set_option maxRecDepth 100000 in
theorem c_X4_follow_3 {G : GG} {base : Nat} {l : Launch} {f : Hp} {sz : Nat} {r : Nat} {k : Nat} {w : Nat} {pl : Nat} {wy : Int32} {se : Int32} {to : Int32} {lf : Int32} {ta : Int32} {wt : Nat} {ch : Nat} {sk : Nat} {P : Nat} {st : Nat} {ov : Int32} {mi : Int32} {ri : Int32} {tl : Int32} (h_r : f r = some (oO 4 [.ref k, .ref w, .int (nI pl), .int wy, .int se, .int to, .int lf, .int ta])) (h_w : f w = some (oO 2 [.ref wt, .ref ch, .ref sk, .int (nI P), .int (nI st), .int ov, .int mi, .int ri, .int tl])) (hP : 1 ≤ P ∧ P ≤ 12) : fx_M G base l yX4_follow cX4_follow 2 none rm_X4_follow [.ref r, .int (nI 3)] f sz none f sz := by
  refine fx_of (by decide +kernel) (Nat.le_of_ble_eq_true rfl) ?_
  intro p e s m args below meth c C hr hk hnm hH ls hl
  obtain ⟨locs, hlocs⟩ : ∃ L : List Loc, L = [] := ⟨_, rfl⟩
  rw [← hlocs] at hH ⊢
  generalize s.heap = H at hH ⊢
  have hx := C.1
  have hb := C.2.1
  have hl : lv_has ls 2 [(0, .ref r), (1, .int (nI 3))] := hl
  refine lv_iload_n hx hb dX4_follow_0 rfl (lv_at hl 1 rfl) ?_
  refine lv_tableOut (tgt := 51) hx hb dX4_follow_1 (by decide) (by decide) ?_
  exact fx_vret C hr hk hH rfl rfl (Nat.zero_le _) (Nat.zero_le _) dX4_follow_51
abbrev rm_X4_secondsIfAt : Room := { frames := 1, cells := 0, slots := 0, locals := 23 }
set_option maxHeartbeats 4000000 in
set_option maxRecDepth 100000 in
theorem c_X4_secondsIfAt {G : GG} {base : Nat} {l : Launch} {f : Hp} {sz : Nat} {r : Nat} {kk : Nat} {fe : Nat} {n : Nat} {k : Nat} {w : Nat} {pl : Nat} {wy : Int32} {se : Int32} {to : Int32} {lf : Int32} {ta : Int32} {wt : Nat} {ch : Nat} {sk : Nat} {P : Nat} {st : Nat} {ov : Int32} {mi : Int32} {ri : Int32} {tl : Int32} (h_r : f r = some (oO 4 [.ref k, .ref w, .int (nI pl), .int wy, .int se, .int to, .int lf, .int ta])) (h_w : f w = some (oO 2 [.ref wt, .ref ch, .ref sk, .int (nI P), .int (nI st), .int ov, .int mi, .int ri, .int tl])) (hP : 1 ≤ P ∧ P ≤ 12) (hst : st ≤ 9) (hk0 : kk < P) (hfe : fe ≤ 10) (hn : 1 ≤ n ∧ n ≤ 3) : fx_M G base l yX4_secondsIfAt cX4_secondsIfAt 9 (some .long) rm_X4_secondsIfAt [.ref r, .int (nI kk), .int (nI fe), .int (nI n)] f sz (some (.long (lN (sIA st P kk fe n)))) f sz := by
  refine fx_of (by decide +kernel) (Nat.le_of_ble_eq_true rfl) ?_
  intro p e s m args below meth c C hr hk hnm hH ls hl
  obtain ⟨locs, hlocs⟩ : ∃ L : List Loc, L = [] := ⟨_, rfl⟩
  rw [← hlocs] at hH ⊢
  generalize s.heap = H at hH ⊢
  have hx := C.1
  have hb := C.2.1
  have hl : lv_has ls 9 [(0, .ref r), (1, .int (nI kk)), (2, .int (nI fe)), (3, .int (nI n))] := hl
  have b1 : sT st (n * P - 1) < 2 ^ 31 := sT_lt hst (by have : n * P ≤ 3 * 12 := Nat.mul_le_mul (by omega) (by omega); omega)
  have b2 : 1 ≤ n * P := Nat.mul_pos (by omega) (by omega)
  have b3 : n * P ≤ 3 * 12 := Nat.mul_le_mul (by omega) (by omega)
  refine lv_lconst (v := lN 1) hx hb dX4_secondsIfAt_0 (by decide) ?_
  refine lv_lstore (lv' := [(4, .long (lN 1)), (0, .ref r), (1, .int (nI kk)), (2, .int (nI fe)), (3, .int (nI n))]) hx hb dX4_secondsIfAt_1 hl (by decide) rfl (fun ls hl => ?_)
  refine lv_lconst (v := lN 0) hx hb dX4_secondsIfAt_3 (by decide) ?_
  refine lv_lstore (lv' := [(6, .long (lN 0)), (4, .long (lN 1)), (0, .ref r), (1, .int (nI kk)), (2, .int (nI fe)), (3, .int (nI n))]) hx hb dX4_secondsIfAt_4 hl (by decide) rfl (fun ls hl => ?_)
  refine lv_iconst (v := nI 0) hx hb dX4_secondsIfAt_6 (by decide) ?_
  refine lv_istore (lv' := [(8, .int (nI 0)), (6, .long (lN 0)), (4, .long (lN 1)), (0, .ref r), (1, .int (nI kk)), (2, .int (nI fe)), (3, .int (nI n))]) hx hb dX4_secondsIfAt_7 hl (by decide) rfl (fun ls hl => ?_)
  have loop_9 : ∀ (N_9 : Nat) (r_ : Nat) (hr0 : r_ ≤ n) (hm_9 : n - r_ < N_9) (H : Heap) (locs : List Loc) (hH : fx_H G base s f sz H locs) (ls : Array Slot) (hl : lv_has ls 9 [(0, .ref r), (1, .int (nI kk)), (2, .int (nI fe)), (3, .int (nI n)), (4, .long (lN ((sA st P kk fe n r_).1))), (6, .long (lN ((sA st P kk fe n r_).2))), (8, .int (nI r_))]), W p l e rm_X4_secondsIfAt s m args below meth c H locs 0 0 (MQ below (fx_Q G base (some (.long (lN (sIA st P kk fe n)))) f sz) args s rm_X4_secondsIfAt.cells rm_X4_secondsIfAt.slots (fun q => base ≤ q)) (F0 m 9 ls []) := by
    intro N_9
    induction N_9 with
    | zero => intro r_ hr0 hm_9; exact absurd hm_9 (Nat.not_lt_zero _)
    | succ N_9 ih_9 =>
      intro r_ hr0 hm_9 H locs hH ls hl
      have b4 : r_ * P ≤ 3 * 12 := Nat.mul_le_mul (by omega) (by omega)
      have b5 : sT st (r_ * P + kk) < 2 ^ 31 := sT_lt hst (by omega)
      refine lv_iload hx hb dX4_secondsIfAt_9 (lv_at hl 6 rfl) ?_
      refine lv_iload_n hx hb dX4_secondsIfAt_11 rfl (lv_at hl 3 rfl) ?_
      refine fx_N_ge (a := r_) (b := n) hx hb (by omega) (by omega) (tgt := 69) dX4_secondsIfAt_12 (by decide) (fun c12 => ?_) (fun c12 => ?_)
      · refine lv_lload hx hb dX4_secondsIfAt_69 (lv_at hl 5 rfl) ?_
        refine lv_lload hx hb dX4_secondsIfAt_71 (lv_at hl 4 rfl) ?_
        refine lv_aload_n hx hb dX4_secondsIfAt_73 rfl (lv_at hl 0 rfl) ?_
        refine lv_iload_n hx hb dX4_secondsIfAt_74 rfl (lv_at hl 3 rfl) ?_
        refine lv_aload_n hx hb dX4_secondsIfAt_75 rfl (lv_at hl 0 rfl) ?_
        refine fx_get C hH (k := 1) (v := .ref w) h_r ff_X4_23_4 rfl dX4_secondsIfAt_76 ?_
        refine fx_get C hH (k := 3) (v := .int (nI P)) h_w ff_X4_39_2 rfl dX4_secondsIfAt_79 ?_
        refine lv_imul hx hb dX4_secondsIfAt_82 ?_
        refine fx_ti (y := nI (n * P)) (pk_mul _ _) ?_
        refine lv_iconst (v := nI 1) hx hb dX4_secondsIfAt_83 (by decide) ?_
        refine lv_isub hx hb dX4_secondsIfAt_84 ?_
        refine fx_ti (y := nI ((n * P) - 1)) (pk_sub (by omega)) ?_
        refine fx_go1 hH (fx_runV C hH hl.1 (As := [.int (nI ((n * P) - 1))]) (rest := [.long (lN ((sA st P kk fe n r_).1)), .long (lN ((sA st P kk fe n r_).2))]) (c_X4_secondsTill (G := G) (base := base) (l := l) (f := f) (sz := sz) (r := r) (t := (n * P) - 1) (k := k) (w := w) (pl := pl) (wy := wy) (se := se) (to := to) (lf := lf) (ta := ta) (wt := wt) (ch := ch) (sk := sk) (P := P) (st := st) (ov := ov) (mi := mi) (ri := ri) (tl := tl) h_r h_w) mY_X4_secondsTill ml_X4_101 im_X4_secondsTill se_X4_X4_secondsTill h_r rfl rfl ⟨(Nat.le_of_ble_eq_true rfl), (Nat.le_of_ble_eq_true rfl)⟩ rfl (Nat.le_of_ble_eq_true rfl) ⟨(Nat.le_of_ble_eq_true rfl), (Nat.le_of_ble_eq_true rfl)⟩ dX4_secondsIfAt_85) (fun H locs hH => ?_)
        refine lv_i2l (v := lN (sT st ((n * P) - 1))) hx hb dX4_secondsIfAt_88 (nI_l (by omega)) ?_
        refine lv_lmul hx hb dX4_secondsIfAt_89 ?_
        refine fx_tl (y := lN (((sA st P kk fe n r_).1) * (sT st ((n * P) - 1)))) (lN_mul _ _) ?_
        refine lv_ladd hx hb dX4_secondsIfAt_90 ?_
        refine fx_tl (y := lN ((sA st P kk fe n r_).2 + (((sA st P kk fe n r_).1) * (sT st ((n * P) - 1))))) (lN_add _ _) ?_
        exact fx_lret C hr hk hH (by rw [show r_ = n from by omega, sIA]) rfl rfl (Nat.zero_le _) (Nat.zero_le _) dX4_secondsIfAt_91
      · refine lv_lload hx hb dX4_secondsIfAt_15 (lv_at hl 5 rfl) ?_
        refine lv_lload hx hb dX4_secondsIfAt_17 (lv_at hl 4 rfl) ?_
        refine lv_iload_n hx hb dX4_secondsIfAt_19 rfl (lv_at hl 2 rfl) ?_
        refine lv_i2l (v := lN fe) hx hb dX4_secondsIfAt_20 (nI_l (by omega)) ?_
        refine lv_lmul hx hb dX4_secondsIfAt_21 ?_
        refine fx_tl (y := lN (((sA st P kk fe n r_).1) * fe)) (lN_mul _ _) ?_
        refine lv_iload_n hx hb dX4_secondsIfAt_22 rfl (lv_at hl 3 rfl) ?_
        refine lv_iconst (v := nI 1) hx hb dX4_secondsIfAt_23 (by decide) ?_
        refine lv_isub hx hb dX4_secondsIfAt_24 ?_
        refine fx_ti (y := nI (n - 1)) (pk_sub (by omega)) ?_
        refine lv_iload hx hb dX4_secondsIfAt_25 (lv_at hl 6 rfl) ?_
        refine lv_isub hx hb dX4_secondsIfAt_27 ?_
        refine fx_ti (y := nI ((n - 1) - r_)) (pk_sub (by omega)) ?_
        refine fx_go1 hH (fx_runSN C hH hl.1 (As := [.int (nI ((n - 1) - r_))]) (rest := [.long (lN (((sA st P kk fe n r_).1) * fe)), .long (lN ((sA st P kk fe n r_).2))]) (c_X11_tens (G := G) (base := base) (l := l) (f := f) (sz := sz) (n := (n - 1) - r_) (by omega)) mY_X11_tens mn_X4_97 st_X11_tens rfl ⟨(Nat.le_of_ble_eq_true rfl), (Nat.le_of_ble_eq_true rfl)⟩ rfl (Nat.le_of_ble_eq_true rfl) ⟨(Nat.le_of_ble_eq_true rfl), (Nat.le_of_ble_eq_true rfl)⟩ dX4_secondsIfAt_28) (fun H locs hH => ?_)
        refine lv_lmul hx hb dX4_secondsIfAt_31 ?_
        refine fx_tl (y := lN ((((sA st P kk fe n r_).1) * fe) * (10 ^ ((n - 1) - r_)))) (lN_mul _ _) ?_
        refine lv_aload_n hx hb dX4_secondsIfAt_32 rfl (lv_at hl 0 rfl) ?_
        refine lv_iload hx hb dX4_secondsIfAt_33 (lv_at hl 6 rfl) ?_
        refine lv_aload_n hx hb dX4_secondsIfAt_35 rfl (lv_at hl 0 rfl) ?_
        refine fx_get C hH (k := 1) (v := .ref w) h_r ff_X4_23_4 rfl dX4_secondsIfAt_36 ?_
        refine fx_get C hH (k := 3) (v := .int (nI P)) h_w ff_X4_39_2 rfl dX4_secondsIfAt_39 ?_
        refine lv_imul hx hb dX4_secondsIfAt_42 ?_
        refine fx_ti (y := nI (r_ * P)) (pk_mul _ _) ?_
        refine lv_iload_n hx hb dX4_secondsIfAt_43 rfl (lv_at hl 1 rfl) ?_
        refine lv_iadd hx hb dX4_secondsIfAt_44 ?_
        refine fx_ti (y := nI (r_ * P + kk)) (nI_add _ _) ?_
        refine fx_go1 hH (fx_runV C hH hl.1 (As := [.int (nI (r_ * P + kk))]) (rest := [.long (lN ((((sA st P kk fe n r_).1) * fe) * (10 ^ ((n - 1) - r_)))), .long (lN ((sA st P kk fe n r_).2))]) (c_X4_secondsTill (G := G) (base := base) (l := l) (f := f) (sz := sz) (r := r) (t := r_ * P + kk) (k := k) (w := w) (pl := pl) (wy := wy) (se := se) (to := to) (lf := lf) (ta := ta) (wt := wt) (ch := ch) (sk := sk) (P := P) (st := st) (ov := ov) (mi := mi) (ri := ri) (tl := tl) h_r h_w) mY_X4_secondsTill ml_X4_101 im_X4_secondsTill se_X4_X4_secondsTill h_r rfl rfl ⟨(Nat.le_of_ble_eq_true rfl), (Nat.le_of_ble_eq_true rfl)⟩ rfl (Nat.le_of_ble_eq_true rfl) ⟨(Nat.le_of_ble_eq_true rfl), (Nat.le_of_ble_eq_true rfl)⟩ dX4_secondsIfAt_45) (fun H locs hH => ?_)
        refine lv_i2l (v := lN (sT st (r_ * P + kk))) hx hb dX4_secondsIfAt_48 (nI_l (by omega)) ?_
        refine lv_lmul hx hb dX4_secondsIfAt_49 ?_
        refine fx_tl (y := lN (((((sA st P kk fe n r_).1) * fe) * (10 ^ ((n - 1) - r_))) * (sT st (r_ * P + kk)))) (lN_mul _ _) ?_
        refine lv_ladd hx hb dX4_secondsIfAt_50 ?_
        refine fx_tl (y := lN ((sA st P kk fe n r_).2 + (((((sA st P kk fe n r_).1) * fe) * (10 ^ ((n - 1) - r_))) * (sT st (r_ * P + kk))))) (lN_add _ _) ?_
        refine lv_lstore (lv' := [(6, .long (lN ((sA st P kk fe n r_).2 + (((((sA st P kk fe n r_).1) * fe) * (10 ^ ((n - 1) - r_))) * (sT st (r_ * P + kk)))))), (0, .ref r), (1, .int (nI kk)), (2, .int (nI fe)), (3, .int (nI n)), (4, .long (lN ((sA st P kk fe n r_).1))), (8, .int (nI r_))]) hx hb dX4_secondsIfAt_51 hl (by decide) rfl (fun ls hl => ?_)
        refine lv_lload hx hb dX4_secondsIfAt_53 (lv_at hl 5 rfl) ?_
        refine lv_bipush (v := nI 10) hx hb dX4_secondsIfAt_55 (by decide) ?_
        refine lv_iload_n hx hb dX4_secondsIfAt_57 rfl (lv_at hl 3 rfl) ?_
        refine lv_isub hx hb dX4_secondsIfAt_58 ?_
        refine fx_ti (y := nI (10 - fe)) (pk_sub (by omega)) ?_
        refine lv_i2l (v := lN (10 - fe)) hx hb dX4_secondsIfAt_59 (nI_l (by omega)) ?_
        refine lv_lmul hx hb dX4_secondsIfAt_60 ?_
        refine fx_tl (y := lN (((sA st P kk fe n r_).1) * (10 - fe))) (lN_mul _ _) ?_
        refine lv_lstore (lv' := [(4, .long (lN (((sA st P kk fe n r_).1) * (10 - fe)))), (6, .long (lN ((sA st P kk fe n r_).2 + (((((sA st P kk fe n r_).1) * fe) * (10 ^ ((n - 1) - r_))) * (sT st (r_ * P + kk)))))), (0, .ref r), (1, .int (nI kk)), (2, .int (nI fe)), (3, .int (nI n)), (8, .int (nI r_))]) hx hb dX4_secondsIfAt_61 hl (by decide) rfl (fun ls hl => ?_)
        refine lv_iinc (v := nI (r_ + 1)) (lv' := [(8, .int (nI (r_ + 1))), (4, .long (lN (((sA st P kk fe n r_).1) * (10 - fe)))), (6, .long (lN ((sA st P kk fe n r_).2 + (((((sA st P kk fe n r_).1) * fe) * (10 ^ ((n - 1) - r_))) * (sT st (r_ * P + kk)))))), (0, .ref r), (1, .int (nI kk)), (2, .int (nI fe)), (3, .int (nI n))]) hx hb dX4_secondsIfAt_63 hl (k := 6) rfl (nI_1 _) (by decide) rfl (fun ls hl => ?_)
        refine lv_goto (tgt := 9) hx hb dX4_secondsIfAt_66 (by decide) ?_
        have hl : lv_has ls 9 [(0, .ref r), (1, .int (nI kk)), (2, .int (nI fe)), (3, .int (nI n)), (4, .long (lN (((sA st P kk fe n r_).1) * (10 - fe)))), (6, .long (lN ((sA st P kk fe n r_).2 + (((((sA st P kk fe n r_).1) * fe) * (10 ^ ((n - 1) - r_))) * (sT st (r_ * P + kk)))))), (8, .int (nI (r_ + 1)))] := lv_sub hl [3, 4, 5, 6, 1, 2, 0] rfl
        have hl : lv_has ls 9 [(0, .ref r), (1, .int (nI kk)), (2, .int (nI fe)), (3, .int (nI n)), (4, .long (lN ((sA st P kk fe n (r_ + 1)).1))), (6, .long (lN ((sA st P kk fe n (r_ + 1)).2))), (8, .int (nI (r_ + 1)))] := hl
        exact ih_9 (r_ + 1) (by omega) (by omega) _ _ hH _ hl
  have hl : lv_has ls 9 [(0, .ref r), (1, .int (nI kk)), (2, .int (nI fe)), (3, .int (nI n)), (4, .long (lN 1)), (6, .long (lN 0)), (8, .int (nI 0))] := lv_sub hl [3, 4, 5, 6, 2, 1, 0] rfl
  have hl : lv_has ls 9 [(0, .ref r), (1, .int (nI kk)), (2, .int (nI fe)), (3, .int (nI n)), (4, .long (lN ((sA st P kk fe n 0).1))), (6, .long (lN ((sA st P kk fe n 0).2))), (8, .int (nI 0))] := hl
  exact loop_9 _ 0 (by omega) (Nat.lt_succ_self _) _ _ hH _ hl
abbrev rm_X5_nextPlace : Room := { frames := 2, cells := 0, slots := 0, locals := 43 }
set_option maxHeartbeats 4000000 in
set_option maxRecDepth 100000 in
theorem c_X5_nextPlace_Back {G : GG} {base : Nat} {l : Launch} {f : Hp} {sz : Nat} {o : Nat} {r : Nat} {nn : Int32} {wi : Int32} {ag : Int32} {k : Nat} {w : Nat} {pl : Nat} {wy : Int32} {se : Int32} {to : Int32} {lf : Int32} {ta : Int32} {wt : Nat} {ch : Nat} {sk : Nat} {P : Nat} {st : Nat} {ov : Int32} {mi : Int32} {ri : Int32} {tl : Int32} (h_o : f o = some (oO 0 [.int nn, .int wi, .int ag])) (h_r : f r = some (oO 4 [.ref k, .ref w, .int (nI pl), .int wy, .int se, .int to, .int lf, .int ta])) (h_w : f w = some (oO 2 [.ref wt, .ref ch, .ref sk, .int (nI P), .int (nI st), .int ov, .int mi, .int ri, .int tl])) (hP : 1 ≤ P ∧ P ≤ 12) : fx_M G base l yX5_nextPlace cX5_nextPlace 2 (some .int) rm_X5_nextPlace [.ref o, .ref r] f sz (some (.int (fmI (nI pl + wy) (nI P)))) f sz := by
  refine fx_of (by decide +kernel) (Nat.le_of_ble_eq_true rfl) ?_
  intro p e s m args below meth c C hr hk hnm hH ls hl
  obtain ⟨locs, hlocs⟩ : ∃ L : List Loc, L = [] := ⟨_, rfl⟩
  rw [← hlocs] at hH ⊢
  generalize s.heap = H at hH ⊢
  have hx := C.1
  have hb := C.2.1
  have hl : lv_has ls 2 [(0, .ref o), (1, .ref r)] := hl
  refine lv_aload_n hx hb dX5_nextPlace_0 rfl (lv_at hl 1 rfl) ?_
  refine fx_get C hH (k := 1) (v := .ref w) h_r ff_X5_7_4 rfl dX5_nextPlace_1 ?_
  refine lv_aload_n hx hb dX5_nextPlace_4 rfl (lv_at hl 1 rfl) ?_
  refine fx_get C hH (k := 2) (v := .int (nI pl)) h_r ff_X5_13_4 rfl dX5_nextPlace_5 ?_
  refine lv_aload_n hx hb dX5_nextPlace_8 rfl (lv_at hl 1 rfl) ?_
  refine fx_get C hH (k := 3) (v := .int wy) h_r ff_X5_17_4 rfl dX5_nextPlace_9 ?_
  refine lv_iadd hx hb dX5_nextPlace_12 ?_
  refine fx_go1 hH (fx_runV C hH hl.1 (As := [.int ((nI pl) + wy)]) (rest := []) (c_X2_around (G := G) (base := base) (l := l) (f := f) (sz := sz) (w := w) (x := (nI pl) + wy) (wt := wt) (ch := ch) (sk := sk) (P := P) (st := st) (ov := ov) (mi := mi) (ri := ri) (tl := tl) h_w (by omega)) mY_X2_around ml_X5_20 im_X2_around se_X2_X2_around h_w rfl rfl ⟨(Nat.le_of_ble_eq_true rfl), (Nat.le_of_ble_eq_true rfl)⟩ rfl (Nat.le_of_ble_eq_true rfl) ⟨(Nat.le_of_ble_eq_true rfl), (Nat.le_of_ble_eq_true rfl)⟩ dX5_nextPlace_13) (fun H locs hH => ?_)
  exact fx_iret C hr hk hH (by first | rfl | (simp [bI, *]; done) | ((repeat (first | rw [if_pos (by assumption)] | rw [if_neg (by assumption)])); done) | (unfold bI; grind)) rfl rfl (Nat.zero_le _) (Nat.zero_le _) dX5_nextPlace_16
set_option maxHeartbeats 4000000 in
set_option maxRecDepth 100000 in
theorem c_X5_nextPlace_Lamp {G : GG} {base : Nat} {l : Launch} {f : Hp} {sz : Nat} {o : Nat} {r : Nat} {nn : Int32} {wi : Int32} {ag : Int32} {k : Nat} {w : Nat} {pl : Nat} {wy : Int32} {se : Int32} {to : Int32} {lf : Int32} {ta : Int32} {wt : Nat} {ch : Nat} {sk : Nat} {P : Nat} {st : Nat} {ov : Int32} {mi : Int32} {ri : Int32} {tl : Int32} (h_o : f o = some (oO 1 [.int nn, .int wi, .int ag])) (h_r : f r = some (oO 4 [.ref k, .ref w, .int (nI pl), .int wy, .int se, .int to, .int lf, .int ta])) (h_w : f w = some (oO 2 [.ref wt, .ref ch, .ref sk, .int (nI P), .int (nI st), .int ov, .int mi, .int ri, .int tl])) (hP : 1 ≤ P ∧ P ≤ 12) : fx_M G base l yX5_nextPlace cX5_nextPlace 2 (some .int) rm_X5_nextPlace [.ref o, .ref r] f sz (some (.int (fmI (nI pl + wy) (nI P)))) f sz := by
  refine fx_of (by decide +kernel) (Nat.le_of_ble_eq_true rfl) ?_
  intro p e s m args below meth c C hr hk hnm hH ls hl
  obtain ⟨locs, hlocs⟩ : ∃ L : List Loc, L = [] := ⟨_, rfl⟩
  rw [← hlocs] at hH ⊢
  generalize s.heap = H at hH ⊢
  have hx := C.1
  have hb := C.2.1
  have hl : lv_has ls 2 [(0, .ref o), (1, .ref r)] := hl
  refine lv_aload_n hx hb dX5_nextPlace_0 rfl (lv_at hl 1 rfl) ?_
  refine fx_get C hH (k := 1) (v := .ref w) h_r ff_X5_7_4 rfl dX5_nextPlace_1 ?_
  refine lv_aload_n hx hb dX5_nextPlace_4 rfl (lv_at hl 1 rfl) ?_
  refine fx_get C hH (k := 2) (v := .int (nI pl)) h_r ff_X5_13_4 rfl dX5_nextPlace_5 ?_
  refine lv_aload_n hx hb dX5_nextPlace_8 rfl (lv_at hl 1 rfl) ?_
  refine fx_get C hH (k := 3) (v := .int wy) h_r ff_X5_17_4 rfl dX5_nextPlace_9 ?_
  refine lv_iadd hx hb dX5_nextPlace_12 ?_
  refine fx_go1 hH (fx_runV C hH hl.1 (As := [.int ((nI pl) + wy)]) (rest := []) (c_X2_around (G := G) (base := base) (l := l) (f := f) (sz := sz) (w := w) (x := (nI pl) + wy) (wt := wt) (ch := ch) (sk := sk) (P := P) (st := st) (ov := ov) (mi := mi) (ri := ri) (tl := tl) h_w (by omega)) mY_X2_around ml_X5_20 im_X2_around se_X2_X2_around h_w rfl rfl ⟨(Nat.le_of_ble_eq_true rfl), (Nat.le_of_ble_eq_true rfl)⟩ rfl (Nat.le_of_ble_eq_true rfl) ⟨(Nat.le_of_ble_eq_true rfl), (Nat.le_of_ble_eq_true rfl)⟩ dX5_nextPlace_13) (fun H locs hH => ?_)
  exact fx_iret C hr hk hH (by first | rfl | (simp [bI, *]; done) | ((repeat (first | rw [if_pos (by assumption)] | rw [if_neg (by assumption)])); done) | (unfold bI; grind)) rfl rfl (Nat.zero_le _) (Nat.zero_le _) dX5_nextPlace_16
set_option maxHeartbeats 4000000 in
set_option maxRecDepth 100000 in
theorem c_X5_nextPlace_Round {G : GG} {base : Nat} {l : Launch} {f : Hp} {sz : Nat} {o : Nat} {r : Nat} {nn : Int32} {wi : Int32} {ag : Int32} {k : Nat} {w : Nat} {pl : Nat} {wy : Int32} {se : Int32} {to : Int32} {lf : Int32} {ta : Int32} {wt : Nat} {ch : Nat} {sk : Nat} {P : Nat} {st : Nat} {ov : Int32} {mi : Int32} {ri : Int32} {tl : Int32} (h_o : f o = some (oO 5 [.int nn, .int wi, .int ag])) (h_r : f r = some (oO 4 [.ref k, .ref w, .int (nI pl), .int wy, .int se, .int to, .int lf, .int ta])) (h_w : f w = some (oO 2 [.ref wt, .ref ch, .ref sk, .int (nI P), .int (nI st), .int ov, .int mi, .int ri, .int tl])) (hP : 1 ≤ P ∧ P ≤ 12) : fx_M G base l yX5_nextPlace cX5_nextPlace 2 (some .int) rm_X5_nextPlace [.ref o, .ref r] f sz (some (.int (fmI (nI pl + wy) (nI P)))) f sz := by
  refine fx_of (by decide +kernel) (Nat.le_of_ble_eq_true rfl) ?_
  intro p e s m args below meth c C hr hk hnm hH ls hl
  obtain ⟨locs, hlocs⟩ : ∃ L : List Loc, L = [] := ⟨_, rfl⟩
  rw [← hlocs] at hH ⊢
  generalize s.heap = H at hH ⊢
  have hx := C.1
  have hb := C.2.1
  have hl : lv_has ls 2 [(0, .ref o), (1, .ref r)] := hl
  refine lv_aload_n hx hb dX5_nextPlace_0 rfl (lv_at hl 1 rfl) ?_
  refine fx_get C hH (k := 1) (v := .ref w) h_r ff_X5_7_4 rfl dX5_nextPlace_1 ?_
  refine lv_aload_n hx hb dX5_nextPlace_4 rfl (lv_at hl 1 rfl) ?_
  refine fx_get C hH (k := 2) (v := .int (nI pl)) h_r ff_X5_13_4 rfl dX5_nextPlace_5 ?_
  refine lv_aload_n hx hb dX5_nextPlace_8 rfl (lv_at hl 1 rfl) ?_
  refine fx_get C hH (k := 3) (v := .int wy) h_r ff_X5_17_4 rfl dX5_nextPlace_9 ?_
  refine lv_iadd hx hb dX5_nextPlace_12 ?_
  refine fx_go1 hH (fx_runV C hH hl.1 (As := [.int ((nI pl) + wy)]) (rest := []) (c_X2_around (G := G) (base := base) (l := l) (f := f) (sz := sz) (w := w) (x := (nI pl) + wy) (wt := wt) (ch := ch) (sk := sk) (P := P) (st := st) (ov := ov) (mi := mi) (ri := ri) (tl := tl) h_w (by omega)) mY_X2_around ml_X5_20 im_X2_around se_X2_X2_around h_w rfl rfl ⟨(Nat.le_of_ble_eq_true rfl), (Nat.le_of_ble_eq_true rfl)⟩ rfl (Nat.le_of_ble_eq_true rfl) ⟨(Nat.le_of_ble_eq_true rfl), (Nat.le_of_ble_eq_true rfl)⟩ dX5_nextPlace_13) (fun H locs hH => ?_)
  exact fx_iret C hr hk hH (by first | rfl | (simp [bI, *]; done) | ((repeat (first | rw [if_pos (by assumption)] | rw [if_neg (by assumption)])); done) | (unfold bI; grind)) rfl rfl (Nat.zero_le _) (Nat.zero_le _) dX5_nextPlace_16
abbrev rm_X0_nextPlace : Room := { frames := 3, cells := 0, slots := 0, locals := 64 }
set_option maxHeartbeats 4000000 in
set_option maxRecDepth 100000 in
theorem c_X0_nextPlace {G : GG} {base : Nat} {l : Launch} {f : Hp} {sz : Nat} {o : Nat} {r : Nat} {nn : Int32} {wi : Int32} {ag : Int32} {k : Nat} {w : Nat} {pl : Nat} {wy : Int32} {se : Int32} {to : Int32} {lf : Nat} {ta : Int32} {wt : Nat} {ch : Nat} {sk : Nat} {P : Nat} {st : Nat} {ov : Int32} {mi : Int32} {ri : Int32} {tl : Int32} (h_o : f o = some (oO 0 [.int nn, .int wi, .int ag])) (h_r : f r = some (oO 4 [.ref k, .ref w, .int (nI pl), .int wy, .int se, .int to, .int (nI lf), .int ta])) (h_w : f w = some (oO 2 [.ref wt, .ref ch, .ref sk, .int (nI P), .int (nI st), .int ov, .int mi, .int ri, .int tl])) (hP : 1 ≤ P ∧ P ≤ 12) (hlf : lf ≤ 1) : fx_M G base l yX0_nextPlace cX0_nextPlace 2 (some .int) rm_X0_nextPlace [.ref o, .ref r] f sz (some (.int (if lf = 1 then fmI (nI pl - wy) (nI P) else fmI (nI pl + wy) (nI P)))) f sz := by
  refine fx_of (by decide +kernel) (Nat.le_of_ble_eq_true rfl) ?_
  intro p e s m args below meth c C hr hk hnm hH ls hl
  obtain ⟨locs, hlocs⟩ : ∃ L : List Loc, L = [] := ⟨_, rfl⟩
  rw [← hlocs] at hH ⊢
  generalize s.heap = H at hH ⊢
  have hx := C.1
  have hb := C.2.1
  have hl : lv_has ls 2 [(0, .ref o), (1, .ref r)] := hl
  refine lv_aload_n hx hb dX0_nextPlace_0 rfl (lv_at hl 1 rfl) ?_
  refine fx_get C hH (k := 6) (v := .int (nI lf)) h_r ff_X0_7_4 rfl dX0_nextPlace_1 ?_
  refine lv_iconst (v := nI 1) hx hb dX0_nextPlace_4 (by decide) ?_
  refine fx_N_ne (a := lf) (b := 1) hx hb (by omega) (by omega) (tgt := 27) dX0_nextPlace_5 (by decide) (fun c5 => ?_) (fun c5 => ?_)
  · refine lv_aload_n hx hb dX0_nextPlace_27 rfl (lv_at hl 0 rfl) ?_
    refine lv_aload_n hx hb dX0_nextPlace_28 rfl (lv_at hl 1 rfl) ?_
    refine fx_go1 hH (fx_runSU C hH hl.1 (As := [.ref r]) (rest := []) (c_X5_nextPlace_Back (G := G) (base := base) (l := l) (f := f) (sz := sz) (o := o) (r := r) (nn := nn) (wi := wi) (ag := ag) (k := k) (w := w) (pl := pl) (wy := wy) (se := se) (to := to) (lf := nI lf) (ta := ta) (wt := wt) (ch := ch) (sk := sk) (P := P) (st := st) (ov := ov) (mi := mi) (ri := ri) (tl := tl) h_o h_r h_w (by omega)) mY_X5_nextPlace ml_X0_29 sm_X5_nextPlace_X5 su_X0_X5 im_X5_nextPlace (by decide +kernel) h_o rfl rfl ⟨(Nat.le_of_ble_eq_true rfl), (Nat.le_of_ble_eq_true rfl)⟩ rfl (Nat.le_of_ble_eq_true rfl) ⟨(Nat.le_of_ble_eq_true rfl), (Nat.le_of_ble_eq_true rfl)⟩ dX0_nextPlace_29) (fun H locs hH => ?_)
    exact fx_iret C hr hk hH (by first | rfl | (simp [bI, *]; done) | ((repeat (first | rw [if_pos (by assumption)] | rw [if_neg (by assumption)])); done) | (unfold bI; grind)) rfl rfl (Nat.zero_le _) (Nat.zero_le _) dX0_nextPlace_32
  · refine lv_aload_n hx hb dX0_nextPlace_8 rfl (lv_at hl 1 rfl) ?_
    refine fx_get C hH (k := 1) (v := .ref w) h_r ff_X0_13_4 rfl dX0_nextPlace_9 ?_
    refine lv_aload_n hx hb dX0_nextPlace_12 rfl (lv_at hl 1 rfl) ?_
    refine fx_get C hH (k := 2) (v := .int (nI pl)) h_r ff_X0_17_4 rfl dX0_nextPlace_13 ?_
    refine lv_aload_n hx hb dX0_nextPlace_16 rfl (lv_at hl 1 rfl) ?_
    refine fx_get C hH (k := 3) (v := .int wy) h_r ff_X0_20_4 rfl dX0_nextPlace_17 ?_
    refine lv_isub hx hb dX0_nextPlace_20 ?_
    refine fx_go1 hH (fx_runV C hH hl.1 (As := [.int ((nI pl) - wy)]) (rest := []) (c_X2_around (G := G) (base := base) (l := l) (f := f) (sz := sz) (w := w) (x := (nI pl) - wy) (wt := wt) (ch := ch) (sk := sk) (P := P) (st := st) (ov := ov) (mi := mi) (ri := ri) (tl := tl) h_w (by omega)) mY_X2_around ml_X0_23 im_X2_around se_X2_X2_around h_w rfl rfl ⟨(Nat.le_of_ble_eq_true rfl), (Nat.le_of_ble_eq_true rfl)⟩ rfl (Nat.le_of_ble_eq_true rfl) ⟨(Nat.le_of_ble_eq_true rfl), (Nat.le_of_ble_eq_true rfl)⟩ dX0_nextPlace_21) (fun H locs hH => ?_)
    refine lv_goto (tgt := 32) hx hb dX0_nextPlace_24 (by decide) ?_
    exact fx_iret C hr hk hH (by first | rfl | (simp [bI, *]; done) | ((repeat (first | rw [if_pos (by assumption)] | rw [if_neg (by assumption)])); done) | (unfold bI; grind)) rfl rfl (Nat.zero_le _) (Nat.zero_le _) dX0_nextPlace_32
abbrev rm_X3_nextPlace : Room := { frames := 1, cells := 0, slots := 0, locals := 25 }
set_option maxHeartbeats 4000000 in
set_option maxRecDepth 100000 in
theorem c_X3_nextPlace_Likeliest {G : GG} {base : Nat} {l : Launch} {f : Hp} {sz : Nat} {o : Nat} {r : Nat} {nn : Int32} {wi : Int32} {ag : Int32} {k : Nat} {w : Nat} {pl : Nat} {wy : Int32} {se : Int32} {to : Int32} {lf : Int32} {ta : Int32} {q : Nat → Int64} {wt : Nat} {ch : Nat} {sk : Nat} {P : Nat} {st : Nat} {ov : Int32} {mi : Int32} {ri : Int32} {tl : Int32} (h_o : f o = some (oO 3 [.int nn, .int wi, .int ag])) (h_r : f r = some (oO 4 [.ref k, .ref w, .int (nI pl), .int wy, .int se, .int to, .int lf, .int ta])) (h_k : f k = some (oJ 13 q)) (h_w : f w = some (oO 2 [.ref wt, .ref ch, .ref sk, .int (nI P), .int (nI st), .int ov, .int mi, .int ri, .int tl])) (hP : 1 ≤ P ∧ P ≤ 12) : fx_M G base l yX3_nextPlace cX3_nextPlace 2 (some .int) rm_X3_nextPlace [.ref o, .ref r] f sz (some (.int (nI ((lb q (nI pl) P).1)))) f sz := by
  refine fx_of (by decide +kernel) (Nat.le_of_ble_eq_true rfl) ?_
  intro p e s m args below meth c C hr hk hnm hH ls hl
  obtain ⟨locs, hlocs⟩ : ∃ L : List Loc, L = [] := ⟨_, rfl⟩
  rw [← hlocs] at hH ⊢
  generalize s.heap = H at hH ⊢
  have hx := C.1
  have hb := C.2.1
  have hl : lv_has ls 2 [(0, .ref o), (1, .ref r)] := hl
  refine lv_aload_n hx hb dX3_nextPlace_0 rfl (lv_at hl 1 rfl) ?_
  refine lv_aload_n hx hb dX3_nextPlace_1 rfl (lv_at hl 1 rfl) ?_
  refine fx_get C hH (k := 2) (v := .int (nI pl)) h_r ff_X3_7_4 rfl dX3_nextPlace_2 ?_
  refine fx_go1 hH (fx_runV C hH hl.1 (As := [.int (nI pl)]) (rest := []) (c_X4_likeliestBut (G := G) (base := base) (l := l) (f := f) (sz := sz) (r := r) (x := nI pl) (k := k) (w := w) (pl := pl) (wy := wy) (se := se) (to := to) (lf := lf) (ta := ta) (q := q) (wt := wt) (ch := ch) (sk := sk) (P := P) (st := st) (ov := ov) (mi := mi) (ri := ri) (tl := tl) h_r h_k h_w (by omega)) mY_X4_likeliestBut ml_X3_13 im_X4_likeliestBut se_X4_X4_likeliestBut h_r rfl rfl ⟨(Nat.le_of_ble_eq_true rfl), (Nat.le_of_ble_eq_true rfl)⟩ rfl (Nat.le_of_ble_eq_true rfl) ⟨(Nat.le_of_ble_eq_true rfl), (Nat.le_of_ble_eq_true rfl)⟩ dX3_nextPlace_5) (fun H locs hH => ?_)
  exact fx_iret C hr hk hH rfl rfl rfl (Nat.zero_le _) (Nat.zero_le _) dX3_nextPlace_8
set_option maxHeartbeats 4000000 in
set_option maxRecDepth 100000 in
theorem c_X3_nextPlace_Tabs {G : GG} {base : Nat} {l : Launch} {f : Hp} {sz : Nat} {o : Nat} {r : Nat} {nn : Int32} {wi : Int32} {ag : Int32} {k : Nat} {w : Nat} {pl : Nat} {wy : Int32} {se : Int32} {to : Int32} {lf : Int32} {ta : Int32} {q : Nat → Int64} {wt : Nat} {ch : Nat} {sk : Nat} {P : Nat} {st : Nat} {ov : Int32} {mi : Int32} {ri : Int32} {tl : Int32} (h_o : f o = some (oO 7 [.int nn, .int wi, .int ag])) (h_r : f r = some (oO 4 [.ref k, .ref w, .int (nI pl), .int wy, .int se, .int to, .int lf, .int ta])) (h_k : f k = some (oJ 13 q)) (h_w : f w = some (oO 2 [.ref wt, .ref ch, .ref sk, .int (nI P), .int (nI st), .int ov, .int mi, .int ri, .int tl])) (hP : 1 ≤ P ∧ P ≤ 12) : fx_M G base l yX3_nextPlace cX3_nextPlace 2 (some .int) rm_X3_nextPlace [.ref o, .ref r] f sz (some (.int (nI ((lb q (nI pl) P).1)))) f sz := by
  refine fx_of (by decide +kernel) (Nat.le_of_ble_eq_true rfl) ?_
  intro p e s m args below meth c C hr hk hnm hH ls hl
  obtain ⟨locs, hlocs⟩ : ∃ L : List Loc, L = [] := ⟨_, rfl⟩
  rw [← hlocs] at hH ⊢
  generalize s.heap = H at hH ⊢
  have hx := C.1
  have hb := C.2.1
  have hl : lv_has ls 2 [(0, .ref o), (1, .ref r)] := hl
  refine lv_aload_n hx hb dX3_nextPlace_0 rfl (lv_at hl 1 rfl) ?_
  refine lv_aload_n hx hb dX3_nextPlace_1 rfl (lv_at hl 1 rfl) ?_
  refine fx_get C hH (k := 2) (v := .int (nI pl)) h_r ff_X3_7_4 rfl dX3_nextPlace_2 ?_
  refine fx_go1 hH (fx_runV C hH hl.1 (As := [.int (nI pl)]) (rest := []) (c_X4_likeliestBut (G := G) (base := base) (l := l) (f := f) (sz := sz) (r := r) (x := nI pl) (k := k) (w := w) (pl := pl) (wy := wy) (se := se) (to := to) (lf := lf) (ta := ta) (q := q) (wt := wt) (ch := ch) (sk := sk) (P := P) (st := st) (ov := ov) (mi := mi) (ri := ri) (tl := tl) h_r h_k h_w (by omega)) mY_X4_likeliestBut ml_X3_13 im_X4_likeliestBut se_X4_X4_likeliestBut h_r rfl rfl ⟨(Nat.le_of_ble_eq_true rfl), (Nat.le_of_ble_eq_true rfl)⟩ rfl (Nat.le_of_ble_eq_true rfl) ⟨(Nat.le_of_ble_eq_true rfl), (Nat.le_of_ble_eq_true rfl)⟩ dX3_nextPlace_5) (fun H locs hH => ?_)
  exact fx_iret C hr hk hH rfl rfl rfl (Nat.zero_le _) (Nat.zero_le _) dX3_nextPlace_8
abbrev rm_X8_nextPlace : Room := { frames := 2, cells := 0, slots := 0, locals := 46 }
set_option maxHeartbeats 4000000 in
set_option maxRecDepth 100000 in
theorem c_X8_nextPlace {G : GG} {base : Nat} {l : Launch} {f : Hp} {sz : Nat} {o : Nat} {r : Nat} {nn : Int32} {wi : Int32} {ag : Int32} {k : Nat} {w : Nat} {pl : Nat} {wy : Int32} {se : Int32} {to : Int32} {lf : Int32} {ta : Int32} {q : Nat → Int64} {wt : Nat} {ch : Nat} {sk : Nat} {P : Nat} {st : Nat} {ov : Int32} {mi : Int32} {ri : Int32} {tl : Int32} (h_o : f o = some (oO 7 [.int nn, .int wi, .int ag])) (h_r : f r = some (oO 4 [.ref k, .ref w, .int (nI pl), .int wy, .int se, .int to, .int lf, .int ta])) (h_k : f k = some (oJ 13 q)) (h_w : f w = some (oO 2 [.ref wt, .ref ch, .ref sk, .int (nI P), .int (nI st), .int ov, .int mi, .int ri, .int tl])) (hP : 1 ≤ P ∧ P ≤ 12) : fx_M G base l yX8_nextPlace cX8_nextPlace 2 (some .int) rm_X8_nextPlace [.ref o, .ref r] f sz (some (.int (if ta = (-1000000) then nI (lb q (nI pl) P).1 else if ta = nI pl then nI (lb q (nI pl) P).1 else ta))) f sz := by
  refine fx_of (by decide +kernel) (Nat.le_of_ble_eq_true rfl) ?_
  intro p e s m args below meth c C hr hk hnm hH ls hl
  obtain ⟨locs, hlocs⟩ : ∃ L : List Loc, L = [] := ⟨_, rfl⟩
  rw [← hlocs] at hH ⊢
  generalize s.heap = H at hH ⊢
  have hx := C.1
  have hb := C.2.1
  have hl : lv_has ls 2 [(0, .ref o), (1, .ref r)] := hl
  refine lv_aload_n hx hb dX8_nextPlace_0 rfl (lv_at hl 1 rfl) ?_
  refine fx_get C hH (k := 7) (v := .int ta) h_r ff_X8_9_4 rfl dX8_nextPlace_1 ?_
  refine lv_ldc (v := (-1000000)) hx hb C.2.2.2.1 (C.2.2.2.2.1 _ kI_X8_15 rfl args) dX8_nextPlace_4 ?_
  refine lv_icmp_eq hx hb (tgt := 27) dX8_nextPlace_6 (by decide) (fun c6 => ?_) (fun c6 => ?_)
  · refine lv_aload_n hx hb dX8_nextPlace_27 rfl (lv_at hl 0 rfl) ?_
    refine lv_aload_n hx hb dX8_nextPlace_28 rfl (lv_at hl 1 rfl) ?_
    refine fx_go1 hH (fx_runSU C hH hl.1 (As := [.ref r]) (rest := []) (c_X3_nextPlace_Tabs (G := G) (base := base) (l := l) (f := f) (sz := sz) (o := o) (r := r) (nn := nn) (wi := wi) (ag := ag) (k := k) (w := w) (pl := pl) (wy := wy) (se := se) (to := to) (lf := lf) (ta := ta) (q := q) (wt := wt) (ch := ch) (sk := sk) (P := P) (st := st) (ov := ov) (mi := mi) (ri := ri) (tl := tl) h_o h_r h_k h_w (by omega)) mY_X3_nextPlace ml_X8_19 sm_X3_nextPlace_X3 su_X8_X3 im_X3_nextPlace (by decide +kernel) h_o rfl rfl ⟨(Nat.le_of_ble_eq_true rfl), (Nat.le_of_ble_eq_true rfl)⟩ rfl (Nat.le_of_ble_eq_true rfl) ⟨(Nat.le_of_ble_eq_true rfl), (Nat.le_of_ble_eq_true rfl)⟩ dX8_nextPlace_29) (fun H locs hH => ?_)
    exact fx_iret C hr hk hH (by first | rfl | (simp [bI, *]; done) | ((repeat (first | rw [if_pos (by assumption)] | rw [if_neg (by assumption)])); done) | (unfold bI; grind)) rfl rfl (Nat.zero_le _) (Nat.zero_le _) dX8_nextPlace_32
  · refine lv_aload_n hx hb dX8_nextPlace_9 rfl (lv_at hl 1 rfl) ?_
    refine fx_get C hH (k := 7) (v := .int ta) h_r ff_X8_9_4 rfl dX8_nextPlace_10 ?_
    refine lv_aload_n hx hb dX8_nextPlace_13 rfl (lv_at hl 1 rfl) ?_
    refine fx_get C hH (k := 2) (v := .int (nI pl)) h_r ff_X8_16_4 rfl dX8_nextPlace_14 ?_
    refine lv_icmp_eq hx hb (tgt := 27) dX8_nextPlace_17 (by decide) (fun c17 => ?_) (fun c17 => ?_)
    · refine lv_aload_n hx hb dX8_nextPlace_27 rfl (lv_at hl 0 rfl) ?_
      refine lv_aload_n hx hb dX8_nextPlace_28 rfl (lv_at hl 1 rfl) ?_
      refine fx_go1 hH (fx_runSU C hH hl.1 (As := [.ref r]) (rest := []) (c_X3_nextPlace_Tabs (G := G) (base := base) (l := l) (f := f) (sz := sz) (o := o) (r := r) (nn := nn) (wi := wi) (ag := ag) (k := k) (w := w) (pl := pl) (wy := wy) (se := se) (to := to) (lf := lf) (ta := ta) (q := q) (wt := wt) (ch := ch) (sk := sk) (P := P) (st := st) (ov := ov) (mi := mi) (ri := ri) (tl := tl) h_o h_r h_k h_w (by omega)) mY_X3_nextPlace ml_X8_19 sm_X3_nextPlace_X3 su_X8_X3 im_X3_nextPlace (by decide +kernel) h_o rfl rfl ⟨(Nat.le_of_ble_eq_true rfl), (Nat.le_of_ble_eq_true rfl)⟩ rfl (Nat.le_of_ble_eq_true rfl) ⟨(Nat.le_of_ble_eq_true rfl), (Nat.le_of_ble_eq_true rfl)⟩ dX8_nextPlace_29) (fun H locs hH => ?_)
      exact fx_iret C hr hk hH (by first | rfl | (simp [bI, *]; done) | ((repeat (first | rw [if_pos (by assumption)] | rw [if_neg (by assumption)])); done) | (unfold bI; grind)) rfl rfl (Nat.zero_le _) (Nat.zero_le _) dX8_nextPlace_32
    · refine lv_aload_n hx hb dX8_nextPlace_20 rfl (lv_at hl 1 rfl) ?_
      refine fx_get C hH (k := 7) (v := .int ta) h_r ff_X8_9_4 rfl dX8_nextPlace_21 ?_
      refine lv_goto (tgt := 32) hx hb dX8_nextPlace_24 (by decide) ?_
      exact fx_iret C hr hk hH (by first | rfl | (simp [bI, *]; done) | ((repeat (first | rw [if_pos (by assumption)] | rw [if_neg (by assumption)])); done) | (unfold bI; grind)) rfl rfl (Nat.zero_le _) (Nat.zero_le _) dX8_nextPlace_32
abbrev rm_X5_kindTold : Room := { frames := 0, cells := 0, slots := 0, locals := 0 }
set_option maxHeartbeats 4000000 in
set_option maxRecDepth 100000 in
theorem c_X5_kindTold {G : GG} {base : Nat} {l : Launch} {f : Hp} {sz : Nat} {o : Nat} {nn : Int32} {wi : Int32} {ag : Int32} (h_o : f o = some (oO 5 [.int nn, .int wi, .int ag])) : fx_M G base l yX5_kindTold cX5_kindTold 1 (some .int) rm_X5_kindTold [.ref o] f sz (some (.int (nI 1))) f sz := by
  refine fx_of (by decide +kernel) (Nat.le_of_ble_eq_true rfl) ?_
  intro p e s m args below meth c C hr hk hnm hH ls hl
  obtain ⟨locs, hlocs⟩ : ∃ L : List Loc, L = [] := ⟨_, rfl⟩
  rw [← hlocs] at hH ⊢
  generalize s.heap = H at hH ⊢
  have hx := C.1
  have hb := C.2.1
  have hl : lv_has ls 1 [(0, .ref o)] := hl
  refine lv_iconst (v := nI 1) hx hb dX5_kindTold_0 (by decide) ?_
  exact fx_iret C hr hk hH rfl rfl rfl (Nat.zero_le _) (Nat.zero_le _) dX5_kindTold_1
abbrev rm_X0_kindTold : Room := { frames := 0, cells := 0, slots := 0, locals := 0 }
set_option maxHeartbeats 4000000 in
set_option maxRecDepth 100000 in
theorem c_X0_kindTold {G : GG} {base : Nat} {l : Launch} {f : Hp} {sz : Nat} {o : Nat} {nn : Int32} {wi : Int32} {ag : Int32} (h_o : f o = some (oO 0 [.int nn, .int wi, .int ag])) : fx_M G base l yX0_kindTold cX0_kindTold 1 (some .int) rm_X0_kindTold [.ref o] f sz (some (.int (nI 2))) f sz := by
  refine fx_of (by decide +kernel) (Nat.le_of_ble_eq_true rfl) ?_
  intro p e s m args below meth c C hr hk hnm hH ls hl
  obtain ⟨locs, hlocs⟩ : ∃ L : List Loc, L = [] := ⟨_, rfl⟩
  rw [← hlocs] at hH ⊢
  generalize s.heap = H at hH ⊢
  have hx := C.1
  have hb := C.2.1
  have hl : lv_has ls 1 [(0, .ref o)] := hl
  refine lv_iconst (v := nI 2) hx hb dX0_kindTold_0 (by decide) ?_
  exact fx_iret C hr hk hH rfl rfl rfl (Nat.zero_le _) (Nat.zero_le _) dX0_kindTold_1
abbrev rm_X1_kindTold : Room := { frames := 0, cells := 0, slots := 0, locals := 0 }
set_option maxHeartbeats 4000000 in
set_option maxRecDepth 100000 in
theorem c_X1_kindTold {G : GG} {base : Nat} {l : Launch} {f : Hp} {sz : Nat} {o : Nat} {nn : Int32} {wi : Int32} {ag : Int32} (h_o : f o = some (oO 1 [.int nn, .int wi, .int ag])) : fx_M G base l yX1_kindTold cX1_kindTold 1 (some .int) rm_X1_kindTold [.ref o] f sz (some (.int (nI 3))) f sz := by
  refine fx_of (by decide +kernel) (Nat.le_of_ble_eq_true rfl) ?_
  intro p e s m args below meth c C hr hk hnm hH ls hl
  obtain ⟨locs, hlocs⟩ : ∃ L : List Loc, L = [] := ⟨_, rfl⟩
  rw [← hlocs] at hH ⊢
  generalize s.heap = H at hH ⊢
  have hx := C.1
  have hb := C.2.1
  have hl : lv_has ls 1 [(0, .ref o)] := hl
  refine lv_iconst (v := nI 3) hx hb dX1_kindTold_0 (by decide) ?_
  exact fx_iret C hr hk hH rfl rfl rfl (Nat.zero_le _) (Nat.zero_le _) dX1_kindTold_1
abbrev rm_X3_kindTold : Room := { frames := 0, cells := 0, slots := 0, locals := 0 }
set_option maxHeartbeats 4000000 in
set_option maxRecDepth 100000 in
theorem c_X3_kindTold {G : GG} {base : Nat} {l : Launch} {f : Hp} {sz : Nat} {o : Nat} {nn : Int32} {wi : Int32} {ag : Int32} (h_o : f o = some (oO 3 [.int nn, .int wi, .int ag])) : fx_M G base l yX3_kindTold cX3_kindTold 1 (some .int) rm_X3_kindTold [.ref o] f sz (some (.int (nI 4))) f sz := by
  refine fx_of (by decide +kernel) (Nat.le_of_ble_eq_true rfl) ?_
  intro p e s m args below meth c C hr hk hnm hH ls hl
  obtain ⟨locs, hlocs⟩ : ∃ L : List Loc, L = [] := ⟨_, rfl⟩
  rw [← hlocs] at hH ⊢
  generalize s.heap = H at hH ⊢
  have hx := C.1
  have hb := C.2.1
  have hl : lv_has ls 1 [(0, .ref o)] := hl
  refine lv_iconst (v := nI 4) hx hb dX3_kindTold_0 (by decide) ?_
  exact fx_iret C hr hk hH rfl rfl rfl (Nat.zero_le _) (Nat.zero_le _) dX3_kindTold_1
abbrev rm_X8_kindTold : Room := { frames := 0, cells := 0, slots := 0, locals := 0 }
set_option maxHeartbeats 4000000 in
set_option maxRecDepth 100000 in
theorem c_X8_kindTold {G : GG} {base : Nat} {l : Launch} {f : Hp} {sz : Nat} {o : Nat} {nn : Int32} {wi : Int32} {ag : Int32} (h_o : f o = some (oO 7 [.int nn, .int wi, .int ag])) : fx_M G base l yX8_kindTold cX8_kindTold 1 (some .int) rm_X8_kindTold [.ref o] f sz (some (.int (nI 5))) f sz := by
  refine fx_of (by decide +kernel) (Nat.le_of_ble_eq_true rfl) ?_
  intro p e s m args below meth c C hr hk hnm hH ls hl
  obtain ⟨locs, hlocs⟩ : ∃ L : List Loc, L = [] := ⟨_, rfl⟩
  rw [← hlocs] at hH ⊢
  generalize s.heap = H at hH ⊢
  have hx := C.1
  have hb := C.2.1
  have hl : lv_has ls 1 [(0, .ref o)] := hl
  refine lv_iconst (v := nI 5) hx hb dX8_kindTold_0 (by decide) ?_
  exact fx_iret C hr hk hH rfl rfl rfl (Nat.zero_le _) (Nat.zero_le _) dX8_kindTold_1
abbrev rm_X7_askSize : Room := { frames := 1, cells := 0, slots := 0, locals := 21 }
set_option maxHeartbeats 4000000 in
set_option maxRecDepth 100000 in
theorem c_X7_askSize_Back {G : GG} {base : Nat} {l : Launch} {f : Hp} {sz : Nat} {o : Nat} {t : Nat} {nn : Int32} {wi : Int32} {ag : Int32} {u : Nat} {tn : Nat} {g : Nat → Int32} (h_o : f o = some (oO 0 [.int nn, .int wi, .int ag])) (h_t : f t = some (oO 9 [.ref u, .int (nI tn)])) (h_u : f u = some (oI 16 g)) (ht : tn + 1 ≤ 16) : fx_M G base l yX7_askSize cX7_askSize 2 (some .int) rm_X7_askSize [.ref o, .ref t] f sz (some (.int wi)) (fx_up (fx_up f u (oI 16 (upd g tn (nI 10)))) t (oO 9 [.ref u, .int (nI (tn + 1))])) sz := by
  refine fx_of (by decide +kernel) (Nat.le_of_ble_eq_true rfl) ?_
  intro p e s m args below meth c C hr hk hnm hH ls hl
  obtain ⟨locs, hlocs⟩ : ∃ L : List Loc, L = [] := ⟨_, rfl⟩
  rw [← hlocs] at hH ⊢
  generalize s.heap = H at hH ⊢
  have hx := C.1
  have hb := C.2.1
  have hl : lv_has ls 2 [(0, .ref o), (1, .ref t)] := hl
  refine lv_aload_n hx hb dX7_askSize_0 rfl (lv_at hl 1 rfl) ?_
  refine lv_bipush (v := nI 10) hx hb dX7_askSize_1 (by decide) ?_
  refine fx_go0 hH (fx_runV C hH hl.1 (As := [.int (nI 10)]) (rest := []) (c_X10_leave (G := G) (base := base) (l := l) (f := f) (sz := sz) (t := t) (b := nI 10) (u := u) (n := tn) (g := g) h_t h_u (by omega)) mY_X10_leave ml_X7_19 im_X10_leave se_X10_X10_leave h_t rfl rfl ⟨(Nat.le_of_ble_eq_true rfl), (Nat.le_of_ble_eq_true rfl)⟩ rfl (Nat.le_of_ble_eq_true rfl) ⟨(Nat.le_of_ble_eq_true rfl), (Nat.le_of_ble_eq_true rfl)⟩ dX7_askSize_3) (fun H locs hH => ?_)
  have hH : fx_H G base s (fx_up (fx_up f u (oI 16 (upd g tn (nI 10)))) t (oO 9 [.ref u, .int (nI (tn + 1))])) sz H locs := hH
  have h1_o : (fx_up f u (oI 16 (upd g tn (nI 10)))) o = some (oO 0 [.int nn, .int wi, .int ag]) := (fx_up_n _ _ (fx_ne h_o h_u rfl)).trans h_o
  have h1_t : (fx_up f u (oI 16 (upd g tn (nI 10)))) t = some (oO 9 [.ref u, .int (nI tn)]) := (fx_up_n _ _ (fx_ne h_t h_u rfl)).trans h_t
  have h1_u : (fx_up f u (oI 16 (upd g tn (nI 10)))) u = some (oI 16 (upd g tn (nI 10))) := fx_up_s _ _ _
  have h2_o : (fx_up (fx_up f u (oI 16 (upd g tn (nI 10)))) t (oO 9 [.ref u, .int (nI (tn + 1))])) o = some (oO 0 [.int nn, .int wi, .int ag]) := (fx_up_n _ _ (fx_ne h1_o h1_t rfl)).trans h1_o
  have h2_u : (fx_up (fx_up f u (oI 16 (upd g tn (nI 10)))) t (oO 9 [.ref u, .int (nI (tn + 1))])) u = some (oI 16 (upd g tn (nI 10))) := (fx_up_n _ _ (fx_ne h1_u h1_t rfl)).trans h1_u
  have h2_t : (fx_up (fx_up f u (oI 16 (upd g tn (nI 10)))) t (oO 9 [.ref u, .int (nI (tn + 1))])) t = some (oO 9 [.ref u, .int (nI (tn + 1))]) := fx_up_s _ _ _
  have hH : fx_H G base s (fx_up (fx_up f u (oI 16 (upd g tn (nI 10)))) t (oO 9 [.ref u, .int (nI (tn + 1))])) sz H locs := hH
  refine lv_aload_n hx hb dX7_askSize_6 rfl (lv_at hl 0 rfl) ?_
  refine fx_get C hH (k := 1) (v := .int wi) h2_o ff_X7_13_0 rfl dX7_askSize_7 ?_
  exact fx_iret C hr hk hH rfl rfl rfl (Nat.zero_le _) (Nat.zero_le _) dX7_askSize_10
set_option maxHeartbeats 4000000 in
set_option maxRecDepth 100000 in
theorem c_X7_askSize_Lamp {G : GG} {base : Nat} {l : Launch} {f : Hp} {sz : Nat} {o : Nat} {t : Nat} {nn : Int32} {wi : Int32} {ag : Int32} {u : Nat} {tn : Nat} {g : Nat → Int32} (h_o : f o = some (oO 1 [.int nn, .int wi, .int ag])) (h_t : f t = some (oO 9 [.ref u, .int (nI tn)])) (h_u : f u = some (oI 16 g)) (ht : tn + 1 ≤ 16) : fx_M G base l yX7_askSize cX7_askSize 2 (some .int) rm_X7_askSize [.ref o, .ref t] f sz (some (.int wi)) (fx_up (fx_up f u (oI 16 (upd g tn (nI 10)))) t (oO 9 [.ref u, .int (nI (tn + 1))])) sz := by
  refine fx_of (by decide +kernel) (Nat.le_of_ble_eq_true rfl) ?_
  intro p e s m args below meth c C hr hk hnm hH ls hl
  obtain ⟨locs, hlocs⟩ : ∃ L : List Loc, L = [] := ⟨_, rfl⟩
  rw [← hlocs] at hH ⊢
  generalize s.heap = H at hH ⊢
  have hx := C.1
  have hb := C.2.1
  have hl : lv_has ls 2 [(0, .ref o), (1, .ref t)] := hl
  refine lv_aload_n hx hb dX7_askSize_0 rfl (lv_at hl 1 rfl) ?_
  refine lv_bipush (v := nI 10) hx hb dX7_askSize_1 (by decide) ?_
  refine fx_go0 hH (fx_runV C hH hl.1 (As := [.int (nI 10)]) (rest := []) (c_X10_leave (G := G) (base := base) (l := l) (f := f) (sz := sz) (t := t) (b := nI 10) (u := u) (n := tn) (g := g) h_t h_u (by omega)) mY_X10_leave ml_X7_19 im_X10_leave se_X10_X10_leave h_t rfl rfl ⟨(Nat.le_of_ble_eq_true rfl), (Nat.le_of_ble_eq_true rfl)⟩ rfl (Nat.le_of_ble_eq_true rfl) ⟨(Nat.le_of_ble_eq_true rfl), (Nat.le_of_ble_eq_true rfl)⟩ dX7_askSize_3) (fun H locs hH => ?_)
  have hH : fx_H G base s (fx_up (fx_up f u (oI 16 (upd g tn (nI 10)))) t (oO 9 [.ref u, .int (nI (tn + 1))])) sz H locs := hH
  have h1_o : (fx_up f u (oI 16 (upd g tn (nI 10)))) o = some (oO 1 [.int nn, .int wi, .int ag]) := (fx_up_n _ _ (fx_ne h_o h_u rfl)).trans h_o
  have h1_t : (fx_up f u (oI 16 (upd g tn (nI 10)))) t = some (oO 9 [.ref u, .int (nI tn)]) := (fx_up_n _ _ (fx_ne h_t h_u rfl)).trans h_t
  have h1_u : (fx_up f u (oI 16 (upd g tn (nI 10)))) u = some (oI 16 (upd g tn (nI 10))) := fx_up_s _ _ _
  have h2_o : (fx_up (fx_up f u (oI 16 (upd g tn (nI 10)))) t (oO 9 [.ref u, .int (nI (tn + 1))])) o = some (oO 1 [.int nn, .int wi, .int ag]) := (fx_up_n _ _ (fx_ne h1_o h1_t rfl)).trans h1_o
  have h2_u : (fx_up (fx_up f u (oI 16 (upd g tn (nI 10)))) t (oO 9 [.ref u, .int (nI (tn + 1))])) u = some (oI 16 (upd g tn (nI 10))) := (fx_up_n _ _ (fx_ne h1_u h1_t rfl)).trans h1_u
  have h2_t : (fx_up (fx_up f u (oI 16 (upd g tn (nI 10)))) t (oO 9 [.ref u, .int (nI (tn + 1))])) t = some (oO 9 [.ref u, .int (nI (tn + 1))]) := fx_up_s _ _ _
  have hH : fx_H G base s (fx_up (fx_up f u (oI 16 (upd g tn (nI 10)))) t (oO 9 [.ref u, .int (nI (tn + 1))])) sz H locs := hH
  refine lv_aload_n hx hb dX7_askSize_6 rfl (lv_at hl 0 rfl) ?_
  refine fx_get C hH (k := 1) (v := .int wi) h2_o ff_X7_13_1 rfl dX7_askSize_7 ?_
  exact fx_iret C hr hk hH rfl rfl rfl (Nat.zero_le _) (Nat.zero_le _) dX7_askSize_10
set_option maxHeartbeats 4000000 in
set_option maxRecDepth 100000 in
theorem c_X7_askSize_Likeliest {G : GG} {base : Nat} {l : Launch} {f : Hp} {sz : Nat} {o : Nat} {t : Nat} {nn : Int32} {wi : Int32} {ag : Int32} {u : Nat} {tn : Nat} {g : Nat → Int32} (h_o : f o = some (oO 3 [.int nn, .int wi, .int ag])) (h_t : f t = some (oO 9 [.ref u, .int (nI tn)])) (h_u : f u = some (oI 16 g)) (ht : tn + 1 ≤ 16) : fx_M G base l yX7_askSize cX7_askSize 2 (some .int) rm_X7_askSize [.ref o, .ref t] f sz (some (.int wi)) (fx_up (fx_up f u (oI 16 (upd g tn (nI 10)))) t (oO 9 [.ref u, .int (nI (tn + 1))])) sz := by
  refine fx_of (by decide +kernel) (Nat.le_of_ble_eq_true rfl) ?_
  intro p e s m args below meth c C hr hk hnm hH ls hl
  obtain ⟨locs, hlocs⟩ : ∃ L : List Loc, L = [] := ⟨_, rfl⟩
  rw [← hlocs] at hH ⊢
  generalize s.heap = H at hH ⊢
  have hx := C.1
  have hb := C.2.1
  have hl : lv_has ls 2 [(0, .ref o), (1, .ref t)] := hl
  refine lv_aload_n hx hb dX7_askSize_0 rfl (lv_at hl 1 rfl) ?_
  refine lv_bipush (v := nI 10) hx hb dX7_askSize_1 (by decide) ?_
  refine fx_go0 hH (fx_runV C hH hl.1 (As := [.int (nI 10)]) (rest := []) (c_X10_leave (G := G) (base := base) (l := l) (f := f) (sz := sz) (t := t) (b := nI 10) (u := u) (n := tn) (g := g) h_t h_u (by omega)) mY_X10_leave ml_X7_19 im_X10_leave se_X10_X10_leave h_t rfl rfl ⟨(Nat.le_of_ble_eq_true rfl), (Nat.le_of_ble_eq_true rfl)⟩ rfl (Nat.le_of_ble_eq_true rfl) ⟨(Nat.le_of_ble_eq_true rfl), (Nat.le_of_ble_eq_true rfl)⟩ dX7_askSize_3) (fun H locs hH => ?_)
  have hH : fx_H G base s (fx_up (fx_up f u (oI 16 (upd g tn (nI 10)))) t (oO 9 [.ref u, .int (nI (tn + 1))])) sz H locs := hH
  have h1_o : (fx_up f u (oI 16 (upd g tn (nI 10)))) o = some (oO 3 [.int nn, .int wi, .int ag]) := (fx_up_n _ _ (fx_ne h_o h_u rfl)).trans h_o
  have h1_t : (fx_up f u (oI 16 (upd g tn (nI 10)))) t = some (oO 9 [.ref u, .int (nI tn)]) := (fx_up_n _ _ (fx_ne h_t h_u rfl)).trans h_t
  have h1_u : (fx_up f u (oI 16 (upd g tn (nI 10)))) u = some (oI 16 (upd g tn (nI 10))) := fx_up_s _ _ _
  have h2_o : (fx_up (fx_up f u (oI 16 (upd g tn (nI 10)))) t (oO 9 [.ref u, .int (nI (tn + 1))])) o = some (oO 3 [.int nn, .int wi, .int ag]) := (fx_up_n _ _ (fx_ne h1_o h1_t rfl)).trans h1_o
  have h2_u : (fx_up (fx_up f u (oI 16 (upd g tn (nI 10)))) t (oO 9 [.ref u, .int (nI (tn + 1))])) u = some (oI 16 (upd g tn (nI 10))) := (fx_up_n _ _ (fx_ne h1_u h1_t rfl)).trans h1_u
  have h2_t : (fx_up (fx_up f u (oI 16 (upd g tn (nI 10)))) t (oO 9 [.ref u, .int (nI (tn + 1))])) t = some (oO 9 [.ref u, .int (nI (tn + 1))]) := fx_up_s _ _ _
  have hH : fx_H G base s (fx_up (fx_up f u (oI 16 (upd g tn (nI 10)))) t (oO 9 [.ref u, .int (nI (tn + 1))])) sz H locs := hH
  refine lv_aload_n hx hb dX7_askSize_6 rfl (lv_at hl 0 rfl) ?_
  refine fx_get C hH (k := 1) (v := .int wi) h2_o ff_X7_13_3 rfl dX7_askSize_7 ?_
  exact fx_iret C hr hk hH rfl rfl rfl (Nat.zero_le _) (Nat.zero_le _) dX7_askSize_10
set_option maxHeartbeats 4000000 in
set_option maxRecDepth 100000 in
theorem c_X7_askSize_Round {G : GG} {base : Nat} {l : Launch} {f : Hp} {sz : Nat} {o : Nat} {t : Nat} {nn : Int32} {wi : Int32} {ag : Int32} {u : Nat} {tn : Nat} {g : Nat → Int32} (h_o : f o = some (oO 5 [.int nn, .int wi, .int ag])) (h_t : f t = some (oO 9 [.ref u, .int (nI tn)])) (h_u : f u = some (oI 16 g)) (ht : tn + 1 ≤ 16) : fx_M G base l yX7_askSize cX7_askSize 2 (some .int) rm_X7_askSize [.ref o, .ref t] f sz (some (.int wi)) (fx_up (fx_up f u (oI 16 (upd g tn (nI 10)))) t (oO 9 [.ref u, .int (nI (tn + 1))])) sz := by
  refine fx_of (by decide +kernel) (Nat.le_of_ble_eq_true rfl) ?_
  intro p e s m args below meth c C hr hk hnm hH ls hl
  obtain ⟨locs, hlocs⟩ : ∃ L : List Loc, L = [] := ⟨_, rfl⟩
  rw [← hlocs] at hH ⊢
  generalize s.heap = H at hH ⊢
  have hx := C.1
  have hb := C.2.1
  have hl : lv_has ls 2 [(0, .ref o), (1, .ref t)] := hl
  refine lv_aload_n hx hb dX7_askSize_0 rfl (lv_at hl 1 rfl) ?_
  refine lv_bipush (v := nI 10) hx hb dX7_askSize_1 (by decide) ?_
  refine fx_go0 hH (fx_runV C hH hl.1 (As := [.int (nI 10)]) (rest := []) (c_X10_leave (G := G) (base := base) (l := l) (f := f) (sz := sz) (t := t) (b := nI 10) (u := u) (n := tn) (g := g) h_t h_u (by omega)) mY_X10_leave ml_X7_19 im_X10_leave se_X10_X10_leave h_t rfl rfl ⟨(Nat.le_of_ble_eq_true rfl), (Nat.le_of_ble_eq_true rfl)⟩ rfl (Nat.le_of_ble_eq_true rfl) ⟨(Nat.le_of_ble_eq_true rfl), (Nat.le_of_ble_eq_true rfl)⟩ dX7_askSize_3) (fun H locs hH => ?_)
  have hH : fx_H G base s (fx_up (fx_up f u (oI 16 (upd g tn (nI 10)))) t (oO 9 [.ref u, .int (nI (tn + 1))])) sz H locs := hH
  have h1_o : (fx_up f u (oI 16 (upd g tn (nI 10)))) o = some (oO 5 [.int nn, .int wi, .int ag]) := (fx_up_n _ _ (fx_ne h_o h_u rfl)).trans h_o
  have h1_t : (fx_up f u (oI 16 (upd g tn (nI 10)))) t = some (oO 9 [.ref u, .int (nI tn)]) := (fx_up_n _ _ (fx_ne h_t h_u rfl)).trans h_t
  have h1_u : (fx_up f u (oI 16 (upd g tn (nI 10)))) u = some (oI 16 (upd g tn (nI 10))) := fx_up_s _ _ _
  have h2_o : (fx_up (fx_up f u (oI 16 (upd g tn (nI 10)))) t (oO 9 [.ref u, .int (nI (tn + 1))])) o = some (oO 5 [.int nn, .int wi, .int ag]) := (fx_up_n _ _ (fx_ne h1_o h1_t rfl)).trans h1_o
  have h2_u : (fx_up (fx_up f u (oI 16 (upd g tn (nI 10)))) t (oO 9 [.ref u, .int (nI (tn + 1))])) u = some (oI 16 (upd g tn (nI 10))) := (fx_up_n _ _ (fx_ne h1_u h1_t rfl)).trans h1_u
  have h2_t : (fx_up (fx_up f u (oI 16 (upd g tn (nI 10)))) t (oO 9 [.ref u, .int (nI (tn + 1))])) t = some (oO 9 [.ref u, .int (nI (tn + 1))]) := fx_up_s _ _ _
  have hH : fx_H G base s (fx_up (fx_up f u (oI 16 (upd g tn (nI 10)))) t (oO 9 [.ref u, .int (nI (tn + 1))])) sz H locs := hH
  refine lv_aload_n hx hb dX7_askSize_6 rfl (lv_at hl 0 rfl) ?_
  refine fx_get C hH (k := 1) (v := .int wi) h2_o ff_X7_13_5 rfl dX7_askSize_7 ?_
  exact fx_iret C hr hk hH rfl rfl rfl (Nat.zero_le _) (Nat.zero_le _) dX7_askSize_10
set_option maxHeartbeats 4000000 in
set_option maxRecDepth 100000 in
theorem c_X7_askSize_Tabs {G : GG} {base : Nat} {l : Launch} {f : Hp} {sz : Nat} {o : Nat} {t : Nat} {nn : Int32} {wi : Int32} {ag : Int32} {u : Nat} {tn : Nat} {g : Nat → Int32} (h_o : f o = some (oO 7 [.int nn, .int wi, .int ag])) (h_t : f t = some (oO 9 [.ref u, .int (nI tn)])) (h_u : f u = some (oI 16 g)) (ht : tn + 1 ≤ 16) : fx_M G base l yX7_askSize cX7_askSize 2 (some .int) rm_X7_askSize [.ref o, .ref t] f sz (some (.int wi)) (fx_up (fx_up f u (oI 16 (upd g tn (nI 10)))) t (oO 9 [.ref u, .int (nI (tn + 1))])) sz := by
  refine fx_of (by decide +kernel) (Nat.le_of_ble_eq_true rfl) ?_
  intro p e s m args below meth c C hr hk hnm hH ls hl
  obtain ⟨locs, hlocs⟩ : ∃ L : List Loc, L = [] := ⟨_, rfl⟩
  rw [← hlocs] at hH ⊢
  generalize s.heap = H at hH ⊢
  have hx := C.1
  have hb := C.2.1
  have hl : lv_has ls 2 [(0, .ref o), (1, .ref t)] := hl
  refine lv_aload_n hx hb dX7_askSize_0 rfl (lv_at hl 1 rfl) ?_
  refine lv_bipush (v := nI 10) hx hb dX7_askSize_1 (by decide) ?_
  refine fx_go0 hH (fx_runV C hH hl.1 (As := [.int (nI 10)]) (rest := []) (c_X10_leave (G := G) (base := base) (l := l) (f := f) (sz := sz) (t := t) (b := nI 10) (u := u) (n := tn) (g := g) h_t h_u (by omega)) mY_X10_leave ml_X7_19 im_X10_leave se_X10_X10_leave h_t rfl rfl ⟨(Nat.le_of_ble_eq_true rfl), (Nat.le_of_ble_eq_true rfl)⟩ rfl (Nat.le_of_ble_eq_true rfl) ⟨(Nat.le_of_ble_eq_true rfl), (Nat.le_of_ble_eq_true rfl)⟩ dX7_askSize_3) (fun H locs hH => ?_)
  have hH : fx_H G base s (fx_up (fx_up f u (oI 16 (upd g tn (nI 10)))) t (oO 9 [.ref u, .int (nI (tn + 1))])) sz H locs := hH
  have h1_o : (fx_up f u (oI 16 (upd g tn (nI 10)))) o = some (oO 7 [.int nn, .int wi, .int ag]) := (fx_up_n _ _ (fx_ne h_o h_u rfl)).trans h_o
  have h1_t : (fx_up f u (oI 16 (upd g tn (nI 10)))) t = some (oO 9 [.ref u, .int (nI tn)]) := (fx_up_n _ _ (fx_ne h_t h_u rfl)).trans h_t
  have h1_u : (fx_up f u (oI 16 (upd g tn (nI 10)))) u = some (oI 16 (upd g tn (nI 10))) := fx_up_s _ _ _
  have h2_o : (fx_up (fx_up f u (oI 16 (upd g tn (nI 10)))) t (oO 9 [.ref u, .int (nI (tn + 1))])) o = some (oO 7 [.int nn, .int wi, .int ag]) := (fx_up_n _ _ (fx_ne h1_o h1_t rfl)).trans h1_o
  have h2_u : (fx_up (fx_up f u (oI 16 (upd g tn (nI 10)))) t (oO 9 [.ref u, .int (nI (tn + 1))])) u = some (oI 16 (upd g tn (nI 10))) := (fx_up_n _ _ (fx_ne h1_u h1_t rfl)).trans h1_u
  have h2_t : (fx_up (fx_up f u (oI 16 (upd g tn (nI 10)))) t (oO 9 [.ref u, .int (nI (tn + 1))])) t = some (oO 9 [.ref u, .int (nI (tn + 1))]) := fx_up_s _ _ _
  have hH : fx_H G base s (fx_up (fx_up f u (oI 16 (upd g tn (nI 10)))) t (oO 9 [.ref u, .int (nI (tn + 1))])) sz H locs := hH
  refine lv_aload_n hx hb dX7_askSize_6 rfl (lv_at hl 0 rfl) ?_
  refine fx_get C hH (k := 1) (v := .int wi) h2_o ff_X7_13_7 rfl dX7_askSize_7 ?_
  exact fx_iret C hr hk hH rfl rfl rfl (Nat.zero_le _) (Nat.zero_le _) dX7_askSize_10
abbrev rm_X7_askMark : Room := { frames := 1, cells := 0, slots := 0, locals := 21 }
set_option maxHeartbeats 4000000 in
set_option maxRecDepth 100000 in
theorem c_X7_askMark_Back {G : GG} {base : Nat} {l : Launch} {f : Hp} {sz : Nat} {o : Nat} {t : Nat} {nn : Int32} {wi : Int32} {ag : Int32} {u : Nat} {tn : Nat} {g : Nat → Int32} (h_o : f o = some (oO 0 [.int nn, .int wi, .int ag])) (h_t : f t = some (oO 9 [.ref u, .int (nI tn)])) (h_u : f u = some (oI 16 g)) (ht : tn + 1 ≤ 16) : fx_M G base l yX7_askMark cX7_askMark 2 (some .int) rm_X7_askMark [.ref o, .ref t] f sz (some (.int nn)) (fx_up (fx_up f u (oI 16 (upd g tn (nI 20)))) t (oO 9 [.ref u, .int (nI (tn + 1))])) sz := by
  refine fx_of (by decide +kernel) (Nat.le_of_ble_eq_true rfl) ?_
  intro p e s m args below meth c C hr hk hnm hH ls hl
  obtain ⟨locs, hlocs⟩ : ∃ L : List Loc, L = [] := ⟨_, rfl⟩
  rw [← hlocs] at hH ⊢
  generalize s.heap = H at hH ⊢
  have hx := C.1
  have hb := C.2.1
  have hl : lv_has ls 2 [(0, .ref o), (1, .ref t)] := hl
  refine lv_aload_n hx hb dX7_askMark_0 rfl (lv_at hl 1 rfl) ?_
  refine lv_bipush (v := nI 20) hx hb dX7_askMark_1 (by decide) ?_
  refine fx_go0 hH (fx_runV C hH hl.1 (As := [.int (nI 20)]) (rest := []) (c_X10_leave (G := G) (base := base) (l := l) (f := f) (sz := sz) (t := t) (b := nI 20) (u := u) (n := tn) (g := g) h_t h_u (by omega)) mY_X10_leave ml_X7_19 im_X10_leave se_X10_X10_leave h_t rfl rfl ⟨(Nat.le_of_ble_eq_true rfl), (Nat.le_of_ble_eq_true rfl)⟩ rfl (Nat.le_of_ble_eq_true rfl) ⟨(Nat.le_of_ble_eq_true rfl), (Nat.le_of_ble_eq_true rfl)⟩ dX7_askMark_3) (fun H locs hH => ?_)
  have hH : fx_H G base s (fx_up (fx_up f u (oI 16 (upd g tn (nI 20)))) t (oO 9 [.ref u, .int (nI (tn + 1))])) sz H locs := hH
  have h1_o : (fx_up f u (oI 16 (upd g tn (nI 20)))) o = some (oO 0 [.int nn, .int wi, .int ag]) := (fx_up_n _ _ (fx_ne h_o h_u rfl)).trans h_o
  have h1_t : (fx_up f u (oI 16 (upd g tn (nI 20)))) t = some (oO 9 [.ref u, .int (nI tn)]) := (fx_up_n _ _ (fx_ne h_t h_u rfl)).trans h_t
  have h1_u : (fx_up f u (oI 16 (upd g tn (nI 20)))) u = some (oI 16 (upd g tn (nI 20))) := fx_up_s _ _ _
  have h2_o : (fx_up (fx_up f u (oI 16 (upd g tn (nI 20)))) t (oO 9 [.ref u, .int (nI (tn + 1))])) o = some (oO 0 [.int nn, .int wi, .int ag]) := (fx_up_n _ _ (fx_ne h1_o h1_t rfl)).trans h1_o
  have h2_u : (fx_up (fx_up f u (oI 16 (upd g tn (nI 20)))) t (oO 9 [.ref u, .int (nI (tn + 1))])) u = some (oI 16 (upd g tn (nI 20))) := (fx_up_n _ _ (fx_ne h1_u h1_t rfl)).trans h1_u
  have h2_t : (fx_up (fx_up f u (oI 16 (upd g tn (nI 20)))) t (oO 9 [.ref u, .int (nI (tn + 1))])) t = some (oO 9 [.ref u, .int (nI (tn + 1))]) := fx_up_s _ _ _
  have hH : fx_H G base s (fx_up (fx_up f u (oI 16 (upd g tn (nI 20)))) t (oO 9 [.ref u, .int (nI (tn + 1))])) sz H locs := hH
  refine lv_aload_n hx hb dX7_askMark_6 rfl (lv_at hl 0 rfl) ?_
  refine fx_get C hH (k := 0) (v := .int nn) h2_o ff_X7_7_0 rfl dX7_askMark_7 ?_
  exact fx_iret C hr hk hH rfl rfl rfl (Nat.zero_le _) (Nat.zero_le _) dX7_askMark_10
set_option maxHeartbeats 4000000 in
set_option maxRecDepth 100000 in
theorem c_X7_askMark_Lamp {G : GG} {base : Nat} {l : Launch} {f : Hp} {sz : Nat} {o : Nat} {t : Nat} {nn : Int32} {wi : Int32} {ag : Int32} {u : Nat} {tn : Nat} {g : Nat → Int32} (h_o : f o = some (oO 1 [.int nn, .int wi, .int ag])) (h_t : f t = some (oO 9 [.ref u, .int (nI tn)])) (h_u : f u = some (oI 16 g)) (ht : tn + 1 ≤ 16) : fx_M G base l yX7_askMark cX7_askMark 2 (some .int) rm_X7_askMark [.ref o, .ref t] f sz (some (.int nn)) (fx_up (fx_up f u (oI 16 (upd g tn (nI 20)))) t (oO 9 [.ref u, .int (nI (tn + 1))])) sz := by
  refine fx_of (by decide +kernel) (Nat.le_of_ble_eq_true rfl) ?_
  intro p e s m args below meth c C hr hk hnm hH ls hl
  obtain ⟨locs, hlocs⟩ : ∃ L : List Loc, L = [] := ⟨_, rfl⟩
  rw [← hlocs] at hH ⊢
  generalize s.heap = H at hH ⊢
  have hx := C.1
  have hb := C.2.1
  have hl : lv_has ls 2 [(0, .ref o), (1, .ref t)] := hl
  refine lv_aload_n hx hb dX7_askMark_0 rfl (lv_at hl 1 rfl) ?_
  refine lv_bipush (v := nI 20) hx hb dX7_askMark_1 (by decide) ?_
  refine fx_go0 hH (fx_runV C hH hl.1 (As := [.int (nI 20)]) (rest := []) (c_X10_leave (G := G) (base := base) (l := l) (f := f) (sz := sz) (t := t) (b := nI 20) (u := u) (n := tn) (g := g) h_t h_u (by omega)) mY_X10_leave ml_X7_19 im_X10_leave se_X10_X10_leave h_t rfl rfl ⟨(Nat.le_of_ble_eq_true rfl), (Nat.le_of_ble_eq_true rfl)⟩ rfl (Nat.le_of_ble_eq_true rfl) ⟨(Nat.le_of_ble_eq_true rfl), (Nat.le_of_ble_eq_true rfl)⟩ dX7_askMark_3) (fun H locs hH => ?_)
  have hH : fx_H G base s (fx_up (fx_up f u (oI 16 (upd g tn (nI 20)))) t (oO 9 [.ref u, .int (nI (tn + 1))])) sz H locs := hH
  have h1_o : (fx_up f u (oI 16 (upd g tn (nI 20)))) o = some (oO 1 [.int nn, .int wi, .int ag]) := (fx_up_n _ _ (fx_ne h_o h_u rfl)).trans h_o
  have h1_t : (fx_up f u (oI 16 (upd g tn (nI 20)))) t = some (oO 9 [.ref u, .int (nI tn)]) := (fx_up_n _ _ (fx_ne h_t h_u rfl)).trans h_t
  have h1_u : (fx_up f u (oI 16 (upd g tn (nI 20)))) u = some (oI 16 (upd g tn (nI 20))) := fx_up_s _ _ _
  have h2_o : (fx_up (fx_up f u (oI 16 (upd g tn (nI 20)))) t (oO 9 [.ref u, .int (nI (tn + 1))])) o = some (oO 1 [.int nn, .int wi, .int ag]) := (fx_up_n _ _ (fx_ne h1_o h1_t rfl)).trans h1_o
  have h2_u : (fx_up (fx_up f u (oI 16 (upd g tn (nI 20)))) t (oO 9 [.ref u, .int (nI (tn + 1))])) u = some (oI 16 (upd g tn (nI 20))) := (fx_up_n _ _ (fx_ne h1_u h1_t rfl)).trans h1_u
  have h2_t : (fx_up (fx_up f u (oI 16 (upd g tn (nI 20)))) t (oO 9 [.ref u, .int (nI (tn + 1))])) t = some (oO 9 [.ref u, .int (nI (tn + 1))]) := fx_up_s _ _ _
  have hH : fx_H G base s (fx_up (fx_up f u (oI 16 (upd g tn (nI 20)))) t (oO 9 [.ref u, .int (nI (tn + 1))])) sz H locs := hH
  refine lv_aload_n hx hb dX7_askMark_6 rfl (lv_at hl 0 rfl) ?_
  refine fx_get C hH (k := 0) (v := .int nn) h2_o ff_X7_7_1 rfl dX7_askMark_7 ?_
  exact fx_iret C hr hk hH rfl rfl rfl (Nat.zero_le _) (Nat.zero_le _) dX7_askMark_10
set_option maxHeartbeats 4000000 in
set_option maxRecDepth 100000 in
theorem c_X7_askMark_Likeliest {G : GG} {base : Nat} {l : Launch} {f : Hp} {sz : Nat} {o : Nat} {t : Nat} {nn : Int32} {wi : Int32} {ag : Int32} {u : Nat} {tn : Nat} {g : Nat → Int32} (h_o : f o = some (oO 3 [.int nn, .int wi, .int ag])) (h_t : f t = some (oO 9 [.ref u, .int (nI tn)])) (h_u : f u = some (oI 16 g)) (ht : tn + 1 ≤ 16) : fx_M G base l yX7_askMark cX7_askMark 2 (some .int) rm_X7_askMark [.ref o, .ref t] f sz (some (.int nn)) (fx_up (fx_up f u (oI 16 (upd g tn (nI 20)))) t (oO 9 [.ref u, .int (nI (tn + 1))])) sz := by
  refine fx_of (by decide +kernel) (Nat.le_of_ble_eq_true rfl) ?_
  intro p e s m args below meth c C hr hk hnm hH ls hl
  obtain ⟨locs, hlocs⟩ : ∃ L : List Loc, L = [] := ⟨_, rfl⟩
  rw [← hlocs] at hH ⊢
  generalize s.heap = H at hH ⊢
  have hx := C.1
  have hb := C.2.1
  have hl : lv_has ls 2 [(0, .ref o), (1, .ref t)] := hl
  refine lv_aload_n hx hb dX7_askMark_0 rfl (lv_at hl 1 rfl) ?_
  refine lv_bipush (v := nI 20) hx hb dX7_askMark_1 (by decide) ?_
  refine fx_go0 hH (fx_runV C hH hl.1 (As := [.int (nI 20)]) (rest := []) (c_X10_leave (G := G) (base := base) (l := l) (f := f) (sz := sz) (t := t) (b := nI 20) (u := u) (n := tn) (g := g) h_t h_u (by omega)) mY_X10_leave ml_X7_19 im_X10_leave se_X10_X10_leave h_t rfl rfl ⟨(Nat.le_of_ble_eq_true rfl), (Nat.le_of_ble_eq_true rfl)⟩ rfl (Nat.le_of_ble_eq_true rfl) ⟨(Nat.le_of_ble_eq_true rfl), (Nat.le_of_ble_eq_true rfl)⟩ dX7_askMark_3) (fun H locs hH => ?_)
  have hH : fx_H G base s (fx_up (fx_up f u (oI 16 (upd g tn (nI 20)))) t (oO 9 [.ref u, .int (nI (tn + 1))])) sz H locs := hH
  have h1_o : (fx_up f u (oI 16 (upd g tn (nI 20)))) o = some (oO 3 [.int nn, .int wi, .int ag]) := (fx_up_n _ _ (fx_ne h_o h_u rfl)).trans h_o
  have h1_t : (fx_up f u (oI 16 (upd g tn (nI 20)))) t = some (oO 9 [.ref u, .int (nI tn)]) := (fx_up_n _ _ (fx_ne h_t h_u rfl)).trans h_t
  have h1_u : (fx_up f u (oI 16 (upd g tn (nI 20)))) u = some (oI 16 (upd g tn (nI 20))) := fx_up_s _ _ _
  have h2_o : (fx_up (fx_up f u (oI 16 (upd g tn (nI 20)))) t (oO 9 [.ref u, .int (nI (tn + 1))])) o = some (oO 3 [.int nn, .int wi, .int ag]) := (fx_up_n _ _ (fx_ne h1_o h1_t rfl)).trans h1_o
  have h2_u : (fx_up (fx_up f u (oI 16 (upd g tn (nI 20)))) t (oO 9 [.ref u, .int (nI (tn + 1))])) u = some (oI 16 (upd g tn (nI 20))) := (fx_up_n _ _ (fx_ne h1_u h1_t rfl)).trans h1_u
  have h2_t : (fx_up (fx_up f u (oI 16 (upd g tn (nI 20)))) t (oO 9 [.ref u, .int (nI (tn + 1))])) t = some (oO 9 [.ref u, .int (nI (tn + 1))]) := fx_up_s _ _ _
  have hH : fx_H G base s (fx_up (fx_up f u (oI 16 (upd g tn (nI 20)))) t (oO 9 [.ref u, .int (nI (tn + 1))])) sz H locs := hH
  refine lv_aload_n hx hb dX7_askMark_6 rfl (lv_at hl 0 rfl) ?_
  refine fx_get C hH (k := 0) (v := .int nn) h2_o ff_X7_7_3 rfl dX7_askMark_7 ?_
  exact fx_iret C hr hk hH rfl rfl rfl (Nat.zero_le _) (Nat.zero_le _) dX7_askMark_10
set_option maxHeartbeats 4000000 in
set_option maxRecDepth 100000 in
theorem c_X7_askMark_Round {G : GG} {base : Nat} {l : Launch} {f : Hp} {sz : Nat} {o : Nat} {t : Nat} {nn : Int32} {wi : Int32} {ag : Int32} {u : Nat} {tn : Nat} {g : Nat → Int32} (h_o : f o = some (oO 5 [.int nn, .int wi, .int ag])) (h_t : f t = some (oO 9 [.ref u, .int (nI tn)])) (h_u : f u = some (oI 16 g)) (ht : tn + 1 ≤ 16) : fx_M G base l yX7_askMark cX7_askMark 2 (some .int) rm_X7_askMark [.ref o, .ref t] f sz (some (.int nn)) (fx_up (fx_up f u (oI 16 (upd g tn (nI 20)))) t (oO 9 [.ref u, .int (nI (tn + 1))])) sz := by
  refine fx_of (by decide +kernel) (Nat.le_of_ble_eq_true rfl) ?_
  intro p e s m args below meth c C hr hk hnm hH ls hl
  obtain ⟨locs, hlocs⟩ : ∃ L : List Loc, L = [] := ⟨_, rfl⟩
  rw [← hlocs] at hH ⊢
  generalize s.heap = H at hH ⊢
  have hx := C.1
  have hb := C.2.1
  have hl : lv_has ls 2 [(0, .ref o), (1, .ref t)] := hl
  refine lv_aload_n hx hb dX7_askMark_0 rfl (lv_at hl 1 rfl) ?_
  refine lv_bipush (v := nI 20) hx hb dX7_askMark_1 (by decide) ?_
  refine fx_go0 hH (fx_runV C hH hl.1 (As := [.int (nI 20)]) (rest := []) (c_X10_leave (G := G) (base := base) (l := l) (f := f) (sz := sz) (t := t) (b := nI 20) (u := u) (n := tn) (g := g) h_t h_u (by omega)) mY_X10_leave ml_X7_19 im_X10_leave se_X10_X10_leave h_t rfl rfl ⟨(Nat.le_of_ble_eq_true rfl), (Nat.le_of_ble_eq_true rfl)⟩ rfl (Nat.le_of_ble_eq_true rfl) ⟨(Nat.le_of_ble_eq_true rfl), (Nat.le_of_ble_eq_true rfl)⟩ dX7_askMark_3) (fun H locs hH => ?_)
  have hH : fx_H G base s (fx_up (fx_up f u (oI 16 (upd g tn (nI 20)))) t (oO 9 [.ref u, .int (nI (tn + 1))])) sz H locs := hH
  have h1_o : (fx_up f u (oI 16 (upd g tn (nI 20)))) o = some (oO 5 [.int nn, .int wi, .int ag]) := (fx_up_n _ _ (fx_ne h_o h_u rfl)).trans h_o
  have h1_t : (fx_up f u (oI 16 (upd g tn (nI 20)))) t = some (oO 9 [.ref u, .int (nI tn)]) := (fx_up_n _ _ (fx_ne h_t h_u rfl)).trans h_t
  have h1_u : (fx_up f u (oI 16 (upd g tn (nI 20)))) u = some (oI 16 (upd g tn (nI 20))) := fx_up_s _ _ _
  have h2_o : (fx_up (fx_up f u (oI 16 (upd g tn (nI 20)))) t (oO 9 [.ref u, .int (nI (tn + 1))])) o = some (oO 5 [.int nn, .int wi, .int ag]) := (fx_up_n _ _ (fx_ne h1_o h1_t rfl)).trans h1_o
  have h2_u : (fx_up (fx_up f u (oI 16 (upd g tn (nI 20)))) t (oO 9 [.ref u, .int (nI (tn + 1))])) u = some (oI 16 (upd g tn (nI 20))) := (fx_up_n _ _ (fx_ne h1_u h1_t rfl)).trans h1_u
  have h2_t : (fx_up (fx_up f u (oI 16 (upd g tn (nI 20)))) t (oO 9 [.ref u, .int (nI (tn + 1))])) t = some (oO 9 [.ref u, .int (nI (tn + 1))]) := fx_up_s _ _ _
  have hH : fx_H G base s (fx_up (fx_up f u (oI 16 (upd g tn (nI 20)))) t (oO 9 [.ref u, .int (nI (tn + 1))])) sz H locs := hH
  refine lv_aload_n hx hb dX7_askMark_6 rfl (lv_at hl 0 rfl) ?_
  refine fx_get C hH (k := 0) (v := .int nn) h2_o ff_X7_7_5 rfl dX7_askMark_7 ?_
  exact fx_iret C hr hk hH rfl rfl rfl (Nat.zero_le _) (Nat.zero_le _) dX7_askMark_10
set_option maxHeartbeats 4000000 in
set_option maxRecDepth 100000 in
theorem c_X7_askMark_Tabs {G : GG} {base : Nat} {l : Launch} {f : Hp} {sz : Nat} {o : Nat} {t : Nat} {nn : Int32} {wi : Int32} {ag : Int32} {u : Nat} {tn : Nat} {g : Nat → Int32} (h_o : f o = some (oO 7 [.int nn, .int wi, .int ag])) (h_t : f t = some (oO 9 [.ref u, .int (nI tn)])) (h_u : f u = some (oI 16 g)) (ht : tn + 1 ≤ 16) : fx_M G base l yX7_askMark cX7_askMark 2 (some .int) rm_X7_askMark [.ref o, .ref t] f sz (some (.int nn)) (fx_up (fx_up f u (oI 16 (upd g tn (nI 20)))) t (oO 9 [.ref u, .int (nI (tn + 1))])) sz := by
  refine fx_of (by decide +kernel) (Nat.le_of_ble_eq_true rfl) ?_
  intro p e s m args below meth c C hr hk hnm hH ls hl
  obtain ⟨locs, hlocs⟩ : ∃ L : List Loc, L = [] := ⟨_, rfl⟩
  rw [← hlocs] at hH ⊢
  generalize s.heap = H at hH ⊢
  have hx := C.1
  have hb := C.2.1
  have hl : lv_has ls 2 [(0, .ref o), (1, .ref t)] := hl
  refine lv_aload_n hx hb dX7_askMark_0 rfl (lv_at hl 1 rfl) ?_
  refine lv_bipush (v := nI 20) hx hb dX7_askMark_1 (by decide) ?_
  refine fx_go0 hH (fx_runV C hH hl.1 (As := [.int (nI 20)]) (rest := []) (c_X10_leave (G := G) (base := base) (l := l) (f := f) (sz := sz) (t := t) (b := nI 20) (u := u) (n := tn) (g := g) h_t h_u (by omega)) mY_X10_leave ml_X7_19 im_X10_leave se_X10_X10_leave h_t rfl rfl ⟨(Nat.le_of_ble_eq_true rfl), (Nat.le_of_ble_eq_true rfl)⟩ rfl (Nat.le_of_ble_eq_true rfl) ⟨(Nat.le_of_ble_eq_true rfl), (Nat.le_of_ble_eq_true rfl)⟩ dX7_askMark_3) (fun H locs hH => ?_)
  have hH : fx_H G base s (fx_up (fx_up f u (oI 16 (upd g tn (nI 20)))) t (oO 9 [.ref u, .int (nI (tn + 1))])) sz H locs := hH
  have h1_o : (fx_up f u (oI 16 (upd g tn (nI 20)))) o = some (oO 7 [.int nn, .int wi, .int ag]) := (fx_up_n _ _ (fx_ne h_o h_u rfl)).trans h_o
  have h1_t : (fx_up f u (oI 16 (upd g tn (nI 20)))) t = some (oO 9 [.ref u, .int (nI tn)]) := (fx_up_n _ _ (fx_ne h_t h_u rfl)).trans h_t
  have h1_u : (fx_up f u (oI 16 (upd g tn (nI 20)))) u = some (oI 16 (upd g tn (nI 20))) := fx_up_s _ _ _
  have h2_o : (fx_up (fx_up f u (oI 16 (upd g tn (nI 20)))) t (oO 9 [.ref u, .int (nI (tn + 1))])) o = some (oO 7 [.int nn, .int wi, .int ag]) := (fx_up_n _ _ (fx_ne h1_o h1_t rfl)).trans h1_o
  have h2_u : (fx_up (fx_up f u (oI 16 (upd g tn (nI 20)))) t (oO 9 [.ref u, .int (nI (tn + 1))])) u = some (oI 16 (upd g tn (nI 20))) := (fx_up_n _ _ (fx_ne h1_u h1_t rfl)).trans h1_u
  have h2_t : (fx_up (fx_up f u (oI 16 (upd g tn (nI 20)))) t (oO 9 [.ref u, .int (nI (tn + 1))])) t = some (oO 9 [.ref u, .int (nI (tn + 1))]) := fx_up_s _ _ _
  have hH : fx_H G base s (fx_up (fx_up f u (oI 16 (upd g tn (nI 20)))) t (oO 9 [.ref u, .int (nI (tn + 1))])) sz H locs := hH
  refine lv_aload_n hx hb dX7_askMark_6 rfl (lv_at hl 0 rfl) ?_
  refine fx_get C hH (k := 0) (v := .int nn) h2_o ff_X7_7_7 rfl dX7_askMark_7 ?_
  exact fx_iret C hr hk hH rfl rfl rfl (Nat.zero_le _) (Nat.zero_le _) dX7_askMark_10
abbrev rm_X5_askMark : Room := { frames := 2, cells := 0, slots := 0, locals := 42 }
set_option maxHeartbeats 4000000 in
set_option maxRecDepth 100000 in
theorem c_X5_askMark_Back {G : GG} {base : Nat} {l : Launch} {f : Hp} {sz : Nat} {o : Nat} {t : Nat} {nn : Int32} {wi : Int32} {ag : Int32} {u : Nat} {tn : Nat} {g : Nat → Int32} (h_o : f o = some (oO 0 [.int nn, .int wi, .int ag])) (h_t : f t = some (oO 9 [.ref u, .int (nI tn)])) (h_u : f u = some (oI 16 g)) (ht : tn + 2 ≤ 16) : fx_M G base l yX5_askMark cX5_askMark 2 (some .int) rm_X5_askMark [.ref o, .ref t] f sz (some (.int (nn + ag))) (fx_up (fx_up f u (oI 16 (upd (upd g tn (nI 21)) (tn + 1) (nI 20)))) t (oO 9 [.ref u, .int (nI (tn + 2))])) sz := by
  refine fx_of (by decide +kernel) (Nat.le_of_ble_eq_true rfl) ?_
  intro p e s m args below meth c C hr hk hnm hH ls hl
  obtain ⟨locs, hlocs⟩ : ∃ L : List Loc, L = [] := ⟨_, rfl⟩
  rw [← hlocs] at hH ⊢
  generalize s.heap = H at hH ⊢
  have hx := C.1
  have hb := C.2.1
  have hl : lv_has ls 2 [(0, .ref o), (1, .ref t)] := hl
  refine lv_aload_n hx hb dX5_askMark_0 rfl (lv_at hl 1 rfl) ?_
  refine lv_bipush (v := nI 21) hx hb dX5_askMark_1 (by decide) ?_
  refine fx_go0 hH (fx_runV C hH hl.1 (As := [.int (nI 21)]) (rest := []) (c_X10_leave (G := G) (base := base) (l := l) (f := f) (sz := sz) (t := t) (b := nI 21) (u := u) (n := tn) (g := g) h_t h_u (by omega)) mY_X10_leave ml_X5_26 im_X10_leave se_X10_X10_leave h_t rfl rfl ⟨(Nat.le_of_ble_eq_true rfl), (Nat.le_of_ble_eq_true rfl)⟩ rfl (Nat.le_of_ble_eq_true rfl) ⟨(Nat.le_of_ble_eq_true rfl), (Nat.le_of_ble_eq_true rfl)⟩ dX5_askMark_3) (fun H locs hH => ?_)
  have hH : fx_H G base s (fx_up (fx_up f u (oI 16 (upd g tn (nI 21)))) t (oO 9 [.ref u, .int (nI (tn + 1))])) sz H locs := hH
  have h1_o : (fx_up f u (oI 16 (upd g tn (nI 21)))) o = some (oO 0 [.int nn, .int wi, .int ag]) := (fx_up_n _ _ (fx_ne h_o h_u rfl)).trans h_o
  have h1_t : (fx_up f u (oI 16 (upd g tn (nI 21)))) t = some (oO 9 [.ref u, .int (nI tn)]) := (fx_up_n _ _ (fx_ne h_t h_u rfl)).trans h_t
  have h1_u : (fx_up f u (oI 16 (upd g tn (nI 21)))) u = some (oI 16 (upd g tn (nI 21))) := fx_up_s _ _ _
  have h2_o : (fx_up (fx_up f u (oI 16 (upd g tn (nI 21)))) t (oO 9 [.ref u, .int (nI (tn + 1))])) o = some (oO 0 [.int nn, .int wi, .int ag]) := (fx_up_n _ _ (fx_ne h1_o h1_t rfl)).trans h1_o
  have h2_u : (fx_up (fx_up f u (oI 16 (upd g tn (nI 21)))) t (oO 9 [.ref u, .int (nI (tn + 1))])) u = some (oI 16 (upd g tn (nI 21))) := (fx_up_n _ _ (fx_ne h1_u h1_t rfl)).trans h1_u
  have h2_t : (fx_up (fx_up f u (oI 16 (upd g tn (nI 21)))) t (oO 9 [.ref u, .int (nI (tn + 1))])) t = some (oO 9 [.ref u, .int (nI (tn + 1))]) := fx_up_s _ _ _
  have hH : fx_H G base s (fx_up (fx_up f u (oI 16 (upd g tn (nI 21)))) t (oO 9 [.ref u, .int (nI (tn + 1))])) sz H locs := hH
  refine lv_aload_n hx hb dX5_askMark_6 rfl (lv_at hl 0 rfl) ?_
  refine lv_aload_n hx hb dX5_askMark_7 rfl (lv_at hl 1 rfl) ?_
  refine fx_go1 hH (fx_runSU C hH hl.1 (As := [.ref t]) (rest := []) (c_X7_askMark_Back (G := G) (base := base) (l := l) (f := fx_up (fx_up f u (oI 16 (upd g tn (nI 21)))) t (oO 9 [.ref u, .int (nI (tn + 1))])) (sz := sz) (o := o) (t := t) (nn := nn) (wi := wi) (ag := ag) (u := u) (tn := (tn + 1)) (g := (upd g tn (nI 21))) h2_o h2_t h2_u (by omega)) mY_X7_askMark ml_X5_41 sm_X7_askMark_X7 su_X5_X7 im_X7_askMark (by decide +kernel) h2_o rfl rfl ⟨(Nat.le_of_ble_eq_true rfl), (Nat.le_of_ble_eq_true rfl)⟩ rfl (Nat.le_of_ble_eq_true rfl) ⟨(Nat.le_of_ble_eq_true rfl), (Nat.le_of_ble_eq_true rfl)⟩ dX5_askMark_8) (fun H locs hH => ?_)
  have hH : fx_H G base s (fx_up (fx_up (fx_up (fx_up f u (oI 16 (upd g tn (nI 21)))) t (oO 9 [.ref u, .int (nI (tn + 1))])) u (oI 16 (upd (upd g tn (nI 21)) (tn + 1) (nI 20)))) t (oO 9 [.ref u, .int (nI ((tn + 1) + 1))])) sz H locs := hH
  have heq3 : fx_up (fx_up (fx_up f u (oI 16 (upd g tn (nI 21)))) t (oO 9 [.ref u, .int (nI (tn + 1))])) u (oI 16 (upd (upd g tn (nI 21)) (tn + 1) (nI 20))) = fx_up (fx_up f u (oI 16 (upd (upd g tn (nI 21)) (tn + 1) (nI 20)))) t (oO 9 [.ref u, .int (nI (tn + 1))]) := by rw [fx_up_c _ _ _ (fx_ne h2_t h2_u rfl), fx_up_up]
  rw [heq3] at hH
  have h3_o : (fx_up (fx_up f u (oI 16 (upd (upd g tn (nI 21)) (tn + 1) (nI 20)))) t (oO 9 [.ref u, .int (nI (tn + 1))])) o = some (oO 0 [.int nn, .int wi, .int ag]) := (congrFun heq3 o).symm.trans ((fx_up_n _ _ (fx_ne h2_o h2_u rfl)).trans h2_o)
  have h3_t : (fx_up (fx_up f u (oI 16 (upd (upd g tn (nI 21)) (tn + 1) (nI 20)))) t (oO 9 [.ref u, .int (nI (tn + 1))])) t = some (oO 9 [.ref u, .int (nI (tn + 1))]) := (congrFun heq3 t).symm.trans ((fx_up_n _ _ (fx_ne h2_t h2_u rfl)).trans h2_t)
  have h3_u : (fx_up (fx_up f u (oI 16 (upd (upd g tn (nI 21)) (tn + 1) (nI 20)))) t (oO 9 [.ref u, .int (nI (tn + 1))])) u = some (oI 16 (upd (upd g tn (nI 21)) (tn + 1) (nI 20))) := (congrFun heq3 u).symm.trans (fx_up_s _ _ _)
  have heq4 : fx_up (fx_up (fx_up f u (oI 16 (upd (upd g tn (nI 21)) (tn + 1) (nI 20)))) t (oO 9 [.ref u, .int (nI (tn + 1))])) t (oO 9 [.ref u, .int (nI ((tn + 1) + 1))]) = fx_up (fx_up f u (oI 16 (upd (upd g tn (nI 21)) (tn + 1) (nI 20)))) t (oO 9 [.ref u, .int (nI ((tn + 1) + 1))]) := by rw [fx_up_up]
  rw [heq4] at hH
  have h4_o : (fx_up (fx_up f u (oI 16 (upd (upd g tn (nI 21)) (tn + 1) (nI 20)))) t (oO 9 [.ref u, .int (nI ((tn + 1) + 1))])) o = some (oO 0 [.int nn, .int wi, .int ag]) := (congrFun heq4 o).symm.trans ((fx_up_n _ _ (fx_ne h3_o h3_t rfl)).trans h3_o)
  have h4_u : (fx_up (fx_up f u (oI 16 (upd (upd g tn (nI 21)) (tn + 1) (nI 20)))) t (oO 9 [.ref u, .int (nI ((tn + 1) + 1))])) u = some (oI 16 (upd (upd g tn (nI 21)) (tn + 1) (nI 20))) := (congrFun heq4 u).symm.trans ((fx_up_n _ _ (fx_ne h3_u h3_t rfl)).trans h3_u)
  have h4_t : (fx_up (fx_up f u (oI 16 (upd (upd g tn (nI 21)) (tn + 1) (nI 20)))) t (oO 9 [.ref u, .int (nI ((tn + 1) + 1))])) t = some (oO 9 [.ref u, .int (nI ((tn + 1) + 1))]) := (congrFun heq4 t).symm.trans (fx_up_s _ _ _)
  have hH : fx_H G base s (fx_up (fx_up f u (oI 16 (upd (upd g tn (nI 21)) (tn + 1) (nI 20)))) t (oO 9 [.ref u, .int (nI ((tn + 1) + 1))])) sz H locs := hH
  refine lv_aload_n hx hb dX5_askMark_11 rfl (lv_at hl 0 rfl) ?_
  refine fx_get C hH (k := 2) (v := .int ag) h4_o ff_X5_42_0 rfl dX5_askMark_12 ?_
  refine lv_iadd hx hb dX5_askMark_15 ?_
  exact fx_iret C hr hk hH rfl rfl rfl (Nat.zero_le _) (Nat.zero_le _) dX5_askMark_16
set_option maxHeartbeats 4000000 in
set_option maxRecDepth 100000 in
theorem c_X5_askMark_Lamp {G : GG} {base : Nat} {l : Launch} {f : Hp} {sz : Nat} {o : Nat} {t : Nat} {nn : Int32} {wi : Int32} {ag : Int32} {u : Nat} {tn : Nat} {g : Nat → Int32} (h_o : f o = some (oO 1 [.int nn, .int wi, .int ag])) (h_t : f t = some (oO 9 [.ref u, .int (nI tn)])) (h_u : f u = some (oI 16 g)) (ht : tn + 2 ≤ 16) : fx_M G base l yX5_askMark cX5_askMark 2 (some .int) rm_X5_askMark [.ref o, .ref t] f sz (some (.int (nn + ag))) (fx_up (fx_up f u (oI 16 (upd (upd g tn (nI 21)) (tn + 1) (nI 20)))) t (oO 9 [.ref u, .int (nI (tn + 2))])) sz := by
  refine fx_of (by decide +kernel) (Nat.le_of_ble_eq_true rfl) ?_
  intro p e s m args below meth c C hr hk hnm hH ls hl
  obtain ⟨locs, hlocs⟩ : ∃ L : List Loc, L = [] := ⟨_, rfl⟩
  rw [← hlocs] at hH ⊢
  generalize s.heap = H at hH ⊢
  have hx := C.1
  have hb := C.2.1
  have hl : lv_has ls 2 [(0, .ref o), (1, .ref t)] := hl
  refine lv_aload_n hx hb dX5_askMark_0 rfl (lv_at hl 1 rfl) ?_
  refine lv_bipush (v := nI 21) hx hb dX5_askMark_1 (by decide) ?_
  refine fx_go0 hH (fx_runV C hH hl.1 (As := [.int (nI 21)]) (rest := []) (c_X10_leave (G := G) (base := base) (l := l) (f := f) (sz := sz) (t := t) (b := nI 21) (u := u) (n := tn) (g := g) h_t h_u (by omega)) mY_X10_leave ml_X5_26 im_X10_leave se_X10_X10_leave h_t rfl rfl ⟨(Nat.le_of_ble_eq_true rfl), (Nat.le_of_ble_eq_true rfl)⟩ rfl (Nat.le_of_ble_eq_true rfl) ⟨(Nat.le_of_ble_eq_true rfl), (Nat.le_of_ble_eq_true rfl)⟩ dX5_askMark_3) (fun H locs hH => ?_)
  have hH : fx_H G base s (fx_up (fx_up f u (oI 16 (upd g tn (nI 21)))) t (oO 9 [.ref u, .int (nI (tn + 1))])) sz H locs := hH
  have h1_o : (fx_up f u (oI 16 (upd g tn (nI 21)))) o = some (oO 1 [.int nn, .int wi, .int ag]) := (fx_up_n _ _ (fx_ne h_o h_u rfl)).trans h_o
  have h1_t : (fx_up f u (oI 16 (upd g tn (nI 21)))) t = some (oO 9 [.ref u, .int (nI tn)]) := (fx_up_n _ _ (fx_ne h_t h_u rfl)).trans h_t
  have h1_u : (fx_up f u (oI 16 (upd g tn (nI 21)))) u = some (oI 16 (upd g tn (nI 21))) := fx_up_s _ _ _
  have h2_o : (fx_up (fx_up f u (oI 16 (upd g tn (nI 21)))) t (oO 9 [.ref u, .int (nI (tn + 1))])) o = some (oO 1 [.int nn, .int wi, .int ag]) := (fx_up_n _ _ (fx_ne h1_o h1_t rfl)).trans h1_o
  have h2_u : (fx_up (fx_up f u (oI 16 (upd g tn (nI 21)))) t (oO 9 [.ref u, .int (nI (tn + 1))])) u = some (oI 16 (upd g tn (nI 21))) := (fx_up_n _ _ (fx_ne h1_u h1_t rfl)).trans h1_u
  have h2_t : (fx_up (fx_up f u (oI 16 (upd g tn (nI 21)))) t (oO 9 [.ref u, .int (nI (tn + 1))])) t = some (oO 9 [.ref u, .int (nI (tn + 1))]) := fx_up_s _ _ _
  have hH : fx_H G base s (fx_up (fx_up f u (oI 16 (upd g tn (nI 21)))) t (oO 9 [.ref u, .int (nI (tn + 1))])) sz H locs := hH
  refine lv_aload_n hx hb dX5_askMark_6 rfl (lv_at hl 0 rfl) ?_
  refine lv_aload_n hx hb dX5_askMark_7 rfl (lv_at hl 1 rfl) ?_
  refine fx_go1 hH (fx_runSU C hH hl.1 (As := [.ref t]) (rest := []) (c_X7_askMark_Lamp (G := G) (base := base) (l := l) (f := fx_up (fx_up f u (oI 16 (upd g tn (nI 21)))) t (oO 9 [.ref u, .int (nI (tn + 1))])) (sz := sz) (o := o) (t := t) (nn := nn) (wi := wi) (ag := ag) (u := u) (tn := (tn + 1)) (g := (upd g tn (nI 21))) h2_o h2_t h2_u (by omega)) mY_X7_askMark ml_X5_41 sm_X7_askMark_X7 su_X5_X7 im_X7_askMark (by decide +kernel) h2_o rfl rfl ⟨(Nat.le_of_ble_eq_true rfl), (Nat.le_of_ble_eq_true rfl)⟩ rfl (Nat.le_of_ble_eq_true rfl) ⟨(Nat.le_of_ble_eq_true rfl), (Nat.le_of_ble_eq_true rfl)⟩ dX5_askMark_8) (fun H locs hH => ?_)
  have hH : fx_H G base s (fx_up (fx_up (fx_up (fx_up f u (oI 16 (upd g tn (nI 21)))) t (oO 9 [.ref u, .int (nI (tn + 1))])) u (oI 16 (upd (upd g tn (nI 21)) (tn + 1) (nI 20)))) t (oO 9 [.ref u, .int (nI ((tn + 1) + 1))])) sz H locs := hH
  have heq3 : fx_up (fx_up (fx_up f u (oI 16 (upd g tn (nI 21)))) t (oO 9 [.ref u, .int (nI (tn + 1))])) u (oI 16 (upd (upd g tn (nI 21)) (tn + 1) (nI 20))) = fx_up (fx_up f u (oI 16 (upd (upd g tn (nI 21)) (tn + 1) (nI 20)))) t (oO 9 [.ref u, .int (nI (tn + 1))]) := by rw [fx_up_c _ _ _ (fx_ne h2_t h2_u rfl), fx_up_up]
  rw [heq3] at hH
  have h3_o : (fx_up (fx_up f u (oI 16 (upd (upd g tn (nI 21)) (tn + 1) (nI 20)))) t (oO 9 [.ref u, .int (nI (tn + 1))])) o = some (oO 1 [.int nn, .int wi, .int ag]) := (congrFun heq3 o).symm.trans ((fx_up_n _ _ (fx_ne h2_o h2_u rfl)).trans h2_o)
  have h3_t : (fx_up (fx_up f u (oI 16 (upd (upd g tn (nI 21)) (tn + 1) (nI 20)))) t (oO 9 [.ref u, .int (nI (tn + 1))])) t = some (oO 9 [.ref u, .int (nI (tn + 1))]) := (congrFun heq3 t).symm.trans ((fx_up_n _ _ (fx_ne h2_t h2_u rfl)).trans h2_t)
  have h3_u : (fx_up (fx_up f u (oI 16 (upd (upd g tn (nI 21)) (tn + 1) (nI 20)))) t (oO 9 [.ref u, .int (nI (tn + 1))])) u = some (oI 16 (upd (upd g tn (nI 21)) (tn + 1) (nI 20))) := (congrFun heq3 u).symm.trans (fx_up_s _ _ _)
  have heq4 : fx_up (fx_up (fx_up f u (oI 16 (upd (upd g tn (nI 21)) (tn + 1) (nI 20)))) t (oO 9 [.ref u, .int (nI (tn + 1))])) t (oO 9 [.ref u, .int (nI ((tn + 1) + 1))]) = fx_up (fx_up f u (oI 16 (upd (upd g tn (nI 21)) (tn + 1) (nI 20)))) t (oO 9 [.ref u, .int (nI ((tn + 1) + 1))]) := by rw [fx_up_up]
  rw [heq4] at hH
  have h4_o : (fx_up (fx_up f u (oI 16 (upd (upd g tn (nI 21)) (tn + 1) (nI 20)))) t (oO 9 [.ref u, .int (nI ((tn + 1) + 1))])) o = some (oO 1 [.int nn, .int wi, .int ag]) := (congrFun heq4 o).symm.trans ((fx_up_n _ _ (fx_ne h3_o h3_t rfl)).trans h3_o)
  have h4_u : (fx_up (fx_up f u (oI 16 (upd (upd g tn (nI 21)) (tn + 1) (nI 20)))) t (oO 9 [.ref u, .int (nI ((tn + 1) + 1))])) u = some (oI 16 (upd (upd g tn (nI 21)) (tn + 1) (nI 20))) := (congrFun heq4 u).symm.trans ((fx_up_n _ _ (fx_ne h3_u h3_t rfl)).trans h3_u)
  have h4_t : (fx_up (fx_up f u (oI 16 (upd (upd g tn (nI 21)) (tn + 1) (nI 20)))) t (oO 9 [.ref u, .int (nI ((tn + 1) + 1))])) t = some (oO 9 [.ref u, .int (nI ((tn + 1) + 1))]) := (congrFun heq4 t).symm.trans (fx_up_s _ _ _)
  have hH : fx_H G base s (fx_up (fx_up f u (oI 16 (upd (upd g tn (nI 21)) (tn + 1) (nI 20)))) t (oO 9 [.ref u, .int (nI ((tn + 1) + 1))])) sz H locs := hH
  refine lv_aload_n hx hb dX5_askMark_11 rfl (lv_at hl 0 rfl) ?_
  refine fx_get C hH (k := 2) (v := .int ag) h4_o ff_X5_42_1 rfl dX5_askMark_12 ?_
  refine lv_iadd hx hb dX5_askMark_15 ?_
  exact fx_iret C hr hk hH rfl rfl rfl (Nat.zero_le _) (Nat.zero_le _) dX5_askMark_16
set_option maxHeartbeats 4000000 in
set_option maxRecDepth 100000 in
theorem c_X5_askMark_Round {G : GG} {base : Nat} {l : Launch} {f : Hp} {sz : Nat} {o : Nat} {t : Nat} {nn : Int32} {wi : Int32} {ag : Int32} {u : Nat} {tn : Nat} {g : Nat → Int32} (h_o : f o = some (oO 5 [.int nn, .int wi, .int ag])) (h_t : f t = some (oO 9 [.ref u, .int (nI tn)])) (h_u : f u = some (oI 16 g)) (ht : tn + 2 ≤ 16) : fx_M G base l yX5_askMark cX5_askMark 2 (some .int) rm_X5_askMark [.ref o, .ref t] f sz (some (.int (nn + ag))) (fx_up (fx_up f u (oI 16 (upd (upd g tn (nI 21)) (tn + 1) (nI 20)))) t (oO 9 [.ref u, .int (nI (tn + 2))])) sz := by
  refine fx_of (by decide +kernel) (Nat.le_of_ble_eq_true rfl) ?_
  intro p e s m args below meth c C hr hk hnm hH ls hl
  obtain ⟨locs, hlocs⟩ : ∃ L : List Loc, L = [] := ⟨_, rfl⟩
  rw [← hlocs] at hH ⊢
  generalize s.heap = H at hH ⊢
  have hx := C.1
  have hb := C.2.1
  have hl : lv_has ls 2 [(0, .ref o), (1, .ref t)] := hl
  refine lv_aload_n hx hb dX5_askMark_0 rfl (lv_at hl 1 rfl) ?_
  refine lv_bipush (v := nI 21) hx hb dX5_askMark_1 (by decide) ?_
  refine fx_go0 hH (fx_runV C hH hl.1 (As := [.int (nI 21)]) (rest := []) (c_X10_leave (G := G) (base := base) (l := l) (f := f) (sz := sz) (t := t) (b := nI 21) (u := u) (n := tn) (g := g) h_t h_u (by omega)) mY_X10_leave ml_X5_26 im_X10_leave se_X10_X10_leave h_t rfl rfl ⟨(Nat.le_of_ble_eq_true rfl), (Nat.le_of_ble_eq_true rfl)⟩ rfl (Nat.le_of_ble_eq_true rfl) ⟨(Nat.le_of_ble_eq_true rfl), (Nat.le_of_ble_eq_true rfl)⟩ dX5_askMark_3) (fun H locs hH => ?_)
  have hH : fx_H G base s (fx_up (fx_up f u (oI 16 (upd g tn (nI 21)))) t (oO 9 [.ref u, .int (nI (tn + 1))])) sz H locs := hH
  have h1_o : (fx_up f u (oI 16 (upd g tn (nI 21)))) o = some (oO 5 [.int nn, .int wi, .int ag]) := (fx_up_n _ _ (fx_ne h_o h_u rfl)).trans h_o
  have h1_t : (fx_up f u (oI 16 (upd g tn (nI 21)))) t = some (oO 9 [.ref u, .int (nI tn)]) := (fx_up_n _ _ (fx_ne h_t h_u rfl)).trans h_t
  have h1_u : (fx_up f u (oI 16 (upd g tn (nI 21)))) u = some (oI 16 (upd g tn (nI 21))) := fx_up_s _ _ _
  have h2_o : (fx_up (fx_up f u (oI 16 (upd g tn (nI 21)))) t (oO 9 [.ref u, .int (nI (tn + 1))])) o = some (oO 5 [.int nn, .int wi, .int ag]) := (fx_up_n _ _ (fx_ne h1_o h1_t rfl)).trans h1_o
  have h2_u : (fx_up (fx_up f u (oI 16 (upd g tn (nI 21)))) t (oO 9 [.ref u, .int (nI (tn + 1))])) u = some (oI 16 (upd g tn (nI 21))) := (fx_up_n _ _ (fx_ne h1_u h1_t rfl)).trans h1_u
  have h2_t : (fx_up (fx_up f u (oI 16 (upd g tn (nI 21)))) t (oO 9 [.ref u, .int (nI (tn + 1))])) t = some (oO 9 [.ref u, .int (nI (tn + 1))]) := fx_up_s _ _ _
  have hH : fx_H G base s (fx_up (fx_up f u (oI 16 (upd g tn (nI 21)))) t (oO 9 [.ref u, .int (nI (tn + 1))])) sz H locs := hH
  refine lv_aload_n hx hb dX5_askMark_6 rfl (lv_at hl 0 rfl) ?_
  refine lv_aload_n hx hb dX5_askMark_7 rfl (lv_at hl 1 rfl) ?_
  refine fx_go1 hH (fx_runSU C hH hl.1 (As := [.ref t]) (rest := []) (c_X7_askMark_Round (G := G) (base := base) (l := l) (f := fx_up (fx_up f u (oI 16 (upd g tn (nI 21)))) t (oO 9 [.ref u, .int (nI (tn + 1))])) (sz := sz) (o := o) (t := t) (nn := nn) (wi := wi) (ag := ag) (u := u) (tn := (tn + 1)) (g := (upd g tn (nI 21))) h2_o h2_t h2_u (by omega)) mY_X7_askMark ml_X5_41 sm_X7_askMark_X7 su_X5_X7 im_X7_askMark (by decide +kernel) h2_o rfl rfl ⟨(Nat.le_of_ble_eq_true rfl), (Nat.le_of_ble_eq_true rfl)⟩ rfl (Nat.le_of_ble_eq_true rfl) ⟨(Nat.le_of_ble_eq_true rfl), (Nat.le_of_ble_eq_true rfl)⟩ dX5_askMark_8) (fun H locs hH => ?_)
  have hH : fx_H G base s (fx_up (fx_up (fx_up (fx_up f u (oI 16 (upd g tn (nI 21)))) t (oO 9 [.ref u, .int (nI (tn + 1))])) u (oI 16 (upd (upd g tn (nI 21)) (tn + 1) (nI 20)))) t (oO 9 [.ref u, .int (nI ((tn + 1) + 1))])) sz H locs := hH
  have heq3 : fx_up (fx_up (fx_up f u (oI 16 (upd g tn (nI 21)))) t (oO 9 [.ref u, .int (nI (tn + 1))])) u (oI 16 (upd (upd g tn (nI 21)) (tn + 1) (nI 20))) = fx_up (fx_up f u (oI 16 (upd (upd g tn (nI 21)) (tn + 1) (nI 20)))) t (oO 9 [.ref u, .int (nI (tn + 1))]) := by rw [fx_up_c _ _ _ (fx_ne h2_t h2_u rfl), fx_up_up]
  rw [heq3] at hH
  have h3_o : (fx_up (fx_up f u (oI 16 (upd (upd g tn (nI 21)) (tn + 1) (nI 20)))) t (oO 9 [.ref u, .int (nI (tn + 1))])) o = some (oO 5 [.int nn, .int wi, .int ag]) := (congrFun heq3 o).symm.trans ((fx_up_n _ _ (fx_ne h2_o h2_u rfl)).trans h2_o)
  have h3_t : (fx_up (fx_up f u (oI 16 (upd (upd g tn (nI 21)) (tn + 1) (nI 20)))) t (oO 9 [.ref u, .int (nI (tn + 1))])) t = some (oO 9 [.ref u, .int (nI (tn + 1))]) := (congrFun heq3 t).symm.trans ((fx_up_n _ _ (fx_ne h2_t h2_u rfl)).trans h2_t)
  have h3_u : (fx_up (fx_up f u (oI 16 (upd (upd g tn (nI 21)) (tn + 1) (nI 20)))) t (oO 9 [.ref u, .int (nI (tn + 1))])) u = some (oI 16 (upd (upd g tn (nI 21)) (tn + 1) (nI 20))) := (congrFun heq3 u).symm.trans (fx_up_s _ _ _)
  have heq4 : fx_up (fx_up (fx_up f u (oI 16 (upd (upd g tn (nI 21)) (tn + 1) (nI 20)))) t (oO 9 [.ref u, .int (nI (tn + 1))])) t (oO 9 [.ref u, .int (nI ((tn + 1) + 1))]) = fx_up (fx_up f u (oI 16 (upd (upd g tn (nI 21)) (tn + 1) (nI 20)))) t (oO 9 [.ref u, .int (nI ((tn + 1) + 1))]) := by rw [fx_up_up]
  rw [heq4] at hH
  have h4_o : (fx_up (fx_up f u (oI 16 (upd (upd g tn (nI 21)) (tn + 1) (nI 20)))) t (oO 9 [.ref u, .int (nI ((tn + 1) + 1))])) o = some (oO 5 [.int nn, .int wi, .int ag]) := (congrFun heq4 o).symm.trans ((fx_up_n _ _ (fx_ne h3_o h3_t rfl)).trans h3_o)
  have h4_u : (fx_up (fx_up f u (oI 16 (upd (upd g tn (nI 21)) (tn + 1) (nI 20)))) t (oO 9 [.ref u, .int (nI ((tn + 1) + 1))])) u = some (oI 16 (upd (upd g tn (nI 21)) (tn + 1) (nI 20))) := (congrFun heq4 u).symm.trans ((fx_up_n _ _ (fx_ne h3_u h3_t rfl)).trans h3_u)
  have h4_t : (fx_up (fx_up f u (oI 16 (upd (upd g tn (nI 21)) (tn + 1) (nI 20)))) t (oO 9 [.ref u, .int (nI ((tn + 1) + 1))])) t = some (oO 9 [.ref u, .int (nI ((tn + 1) + 1))]) := (congrFun heq4 t).symm.trans (fx_up_s _ _ _)
  have hH : fx_H G base s (fx_up (fx_up f u (oI 16 (upd (upd g tn (nI 21)) (tn + 1) (nI 20)))) t (oO 9 [.ref u, .int (nI ((tn + 1) + 1))])) sz H locs := hH
  refine lv_aload_n hx hb dX5_askMark_11 rfl (lv_at hl 0 rfl) ?_
  refine fx_get C hH (k := 2) (v := .int ag) h4_o ff_X5_42_5 rfl dX5_askMark_12 ?_
  refine lv_iadd hx hb dX5_askMark_15 ?_
  exact fx_iret C hr hk hH rfl rfl rfl (Nat.zero_le _) (Nat.zero_le _) dX5_askMark_16
abbrev rm_X0_askMark : Room := { frames := 3, cells := 0, slots := 0, locals := 63 }
set_option maxHeartbeats 4000000 in
set_option maxRecDepth 100000 in
theorem c_X0_askMark {G : GG} {base : Nat} {l : Launch} {f : Hp} {sz : Nat} {o : Nat} {t : Nat} {nn : Int32} {wi : Int32} {ag : Int32} {u : Nat} {tn : Nat} {g : Nat → Int32} (h_o : f o = some (oO 0 [.int nn, .int wi, .int ag])) (h_t : f t = some (oO 9 [.ref u, .int (nI tn)])) (h_u : f u = some (oI 16 g)) (ht : tn + 3 ≤ 16) : fx_M G base l yX0_askMark cX0_askMark 2 (some .int) rm_X0_askMark [.ref o, .ref t] f sz (some (.int (nI 2 * (nn + ag)))) (fx_up (fx_up f u (oI 16 (upd (upd (upd g tn (nI 24)) (tn + 1) (nI 21)) (tn + 2) (nI 20)))) t (oO 9 [.ref u, .int (nI (tn + 3))])) sz := by
  refine fx_of (by decide +kernel) (Nat.le_of_ble_eq_true rfl) ?_
  intro p e s m args below meth c C hr hk hnm hH ls hl
  obtain ⟨locs, hlocs⟩ : ∃ L : List Loc, L = [] := ⟨_, rfl⟩
  rw [← hlocs] at hH ⊢
  generalize s.heap = H at hH ⊢
  have hx := C.1
  have hb := C.2.1
  have hl : lv_has ls 2 [(0, .ref o), (1, .ref t)] := hl
  refine lv_aload_n hx hb dX0_askMark_0 rfl (lv_at hl 1 rfl) ?_
  refine lv_bipush (v := nI 24) hx hb dX0_askMark_1 (by decide) ?_
  refine fx_go0 hH (fx_runV C hH hl.1 (As := [.int (nI 24)]) (rest := []) (c_X10_leave (G := G) (base := base) (l := l) (f := f) (sz := sz) (t := t) (b := nI 24) (u := u) (n := tn) (g := g) h_t h_u (by omega)) mY_X10_leave ml_X0_33 im_X10_leave se_X10_X10_leave h_t rfl rfl ⟨(Nat.le_of_ble_eq_true rfl), (Nat.le_of_ble_eq_true rfl)⟩ rfl (Nat.le_of_ble_eq_true rfl) ⟨(Nat.le_of_ble_eq_true rfl), (Nat.le_of_ble_eq_true rfl)⟩ dX0_askMark_3) (fun H locs hH => ?_)
  have hH : fx_H G base s (fx_up (fx_up f u (oI 16 (upd g tn (nI 24)))) t (oO 9 [.ref u, .int (nI (tn + 1))])) sz H locs := hH
  have h1_o : (fx_up f u (oI 16 (upd g tn (nI 24)))) o = some (oO 0 [.int nn, .int wi, .int ag]) := (fx_up_n _ _ (fx_ne h_o h_u rfl)).trans h_o
  have h1_t : (fx_up f u (oI 16 (upd g tn (nI 24)))) t = some (oO 9 [.ref u, .int (nI tn)]) := (fx_up_n _ _ (fx_ne h_t h_u rfl)).trans h_t
  have h1_u : (fx_up f u (oI 16 (upd g tn (nI 24)))) u = some (oI 16 (upd g tn (nI 24))) := fx_up_s _ _ _
  have h2_o : (fx_up (fx_up f u (oI 16 (upd g tn (nI 24)))) t (oO 9 [.ref u, .int (nI (tn + 1))])) o = some (oO 0 [.int nn, .int wi, .int ag]) := (fx_up_n _ _ (fx_ne h1_o h1_t rfl)).trans h1_o
  have h2_u : (fx_up (fx_up f u (oI 16 (upd g tn (nI 24)))) t (oO 9 [.ref u, .int (nI (tn + 1))])) u = some (oI 16 (upd g tn (nI 24))) := (fx_up_n _ _ (fx_ne h1_u h1_t rfl)).trans h1_u
  have h2_t : (fx_up (fx_up f u (oI 16 (upd g tn (nI 24)))) t (oO 9 [.ref u, .int (nI (tn + 1))])) t = some (oO 9 [.ref u, .int (nI (tn + 1))]) := fx_up_s _ _ _
  have hH : fx_H G base s (fx_up (fx_up f u (oI 16 (upd g tn (nI 24)))) t (oO 9 [.ref u, .int (nI (tn + 1))])) sz H locs := hH
  refine lv_iconst (v := nI 2) hx hb dX0_askMark_6 (by decide) ?_
  refine lv_aload_n hx hb dX0_askMark_7 rfl (lv_at hl 0 rfl) ?_
  refine lv_aload_n hx hb dX0_askMark_8 rfl (lv_at hl 1 rfl) ?_
  refine fx_go1 hH (fx_runSU C hH hl.1 (As := [.ref t]) (rest := [.int (nI 2)]) (c_X5_askMark_Back (G := G) (base := base) (l := l) (f := fx_up (fx_up f u (oI 16 (upd g tn (nI 24)))) t (oO 9 [.ref u, .int (nI (tn + 1))])) (sz := sz) (o := o) (t := t) (nn := nn) (wi := wi) (ag := ag) (u := u) (tn := (tn + 1)) (g := (upd g tn (nI 24))) h2_o h2_t h2_u (by omega)) mY_X5_askMark ml_X0_43 sm_X5_askMark_X5 su_X0_X5 im_X5_askMark (by decide +kernel) h2_o rfl rfl ⟨(Nat.le_of_ble_eq_true rfl), (Nat.le_of_ble_eq_true rfl)⟩ rfl (Nat.le_of_ble_eq_true rfl) ⟨(Nat.le_of_ble_eq_true rfl), (Nat.le_of_ble_eq_true rfl)⟩ dX0_askMark_9) (fun H locs hH => ?_)
  have hH : fx_H G base s (fx_up (fx_up (fx_up (fx_up f u (oI 16 (upd g tn (nI 24)))) t (oO 9 [.ref u, .int (nI (tn + 1))])) u (oI 16 (upd (upd (upd g tn (nI 24)) (tn + 1) (nI 21)) ((tn + 1) + 1) (nI 20)))) t (oO 9 [.ref u, .int (nI ((tn + 1) + 2))])) sz H locs := hH
  have heq3 : fx_up (fx_up (fx_up f u (oI 16 (upd g tn (nI 24)))) t (oO 9 [.ref u, .int (nI (tn + 1))])) u (oI 16 (upd (upd (upd g tn (nI 24)) (tn + 1) (nI 21)) ((tn + 1) + 1) (nI 20))) = fx_up (fx_up f u (oI 16 (upd (upd (upd g tn (nI 24)) (tn + 1) (nI 21)) ((tn + 1) + 1) (nI 20)))) t (oO 9 [.ref u, .int (nI (tn + 1))]) := by rw [fx_up_c _ _ _ (fx_ne h2_t h2_u rfl), fx_up_up]
  rw [heq3] at hH
  have h3_o : (fx_up (fx_up f u (oI 16 (upd (upd (upd g tn (nI 24)) (tn + 1) (nI 21)) ((tn + 1) + 1) (nI 20)))) t (oO 9 [.ref u, .int (nI (tn + 1))])) o = some (oO 0 [.int nn, .int wi, .int ag]) := (congrFun heq3 o).symm.trans ((fx_up_n _ _ (fx_ne h2_o h2_u rfl)).trans h2_o)
  have h3_t : (fx_up (fx_up f u (oI 16 (upd (upd (upd g tn (nI 24)) (tn + 1) (nI 21)) ((tn + 1) + 1) (nI 20)))) t (oO 9 [.ref u, .int (nI (tn + 1))])) t = some (oO 9 [.ref u, .int (nI (tn + 1))]) := (congrFun heq3 t).symm.trans ((fx_up_n _ _ (fx_ne h2_t h2_u rfl)).trans h2_t)
  have h3_u : (fx_up (fx_up f u (oI 16 (upd (upd (upd g tn (nI 24)) (tn + 1) (nI 21)) ((tn + 1) + 1) (nI 20)))) t (oO 9 [.ref u, .int (nI (tn + 1))])) u = some (oI 16 (upd (upd (upd g tn (nI 24)) (tn + 1) (nI 21)) ((tn + 1) + 1) (nI 20))) := (congrFun heq3 u).symm.trans (fx_up_s _ _ _)
  have heq4 : fx_up (fx_up (fx_up f u (oI 16 (upd (upd (upd g tn (nI 24)) (tn + 1) (nI 21)) ((tn + 1) + 1) (nI 20)))) t (oO 9 [.ref u, .int (nI (tn + 1))])) t (oO 9 [.ref u, .int (nI ((tn + 1) + 2))]) = fx_up (fx_up f u (oI 16 (upd (upd (upd g tn (nI 24)) (tn + 1) (nI 21)) ((tn + 1) + 1) (nI 20)))) t (oO 9 [.ref u, .int (nI ((tn + 1) + 2))]) := by rw [fx_up_up]
  rw [heq4] at hH
  have h4_o : (fx_up (fx_up f u (oI 16 (upd (upd (upd g tn (nI 24)) (tn + 1) (nI 21)) ((tn + 1) + 1) (nI 20)))) t (oO 9 [.ref u, .int (nI ((tn + 1) + 2))])) o = some (oO 0 [.int nn, .int wi, .int ag]) := (congrFun heq4 o).symm.trans ((fx_up_n _ _ (fx_ne h3_o h3_t rfl)).trans h3_o)
  have h4_u : (fx_up (fx_up f u (oI 16 (upd (upd (upd g tn (nI 24)) (tn + 1) (nI 21)) ((tn + 1) + 1) (nI 20)))) t (oO 9 [.ref u, .int (nI ((tn + 1) + 2))])) u = some (oI 16 (upd (upd (upd g tn (nI 24)) (tn + 1) (nI 21)) ((tn + 1) + 1) (nI 20))) := (congrFun heq4 u).symm.trans ((fx_up_n _ _ (fx_ne h3_u h3_t rfl)).trans h3_u)
  have h4_t : (fx_up (fx_up f u (oI 16 (upd (upd (upd g tn (nI 24)) (tn + 1) (nI 21)) ((tn + 1) + 1) (nI 20)))) t (oO 9 [.ref u, .int (nI ((tn + 1) + 2))])) t = some (oO 9 [.ref u, .int (nI ((tn + 1) + 2))]) := (congrFun heq4 t).symm.trans (fx_up_s _ _ _)
  have hH : fx_H G base s (fx_up (fx_up f u (oI 16 (upd (upd (upd g tn (nI 24)) (tn + 1) (nI 21)) ((tn + 1) + 1) (nI 20)))) t (oO 9 [.ref u, .int (nI ((tn + 1) + 2))])) sz H locs := hH
  refine lv_imul hx hb dX0_askMark_12 ?_
  exact fx_iret C hr hk hH (by first | rfl | (simp [bI, *]; done) | ((repeat (first | rw [if_pos (by assumption)] | rw [if_neg (by assumption)])); done) | (unfold bI; grind)) rfl rfl (Nat.zero_le _) (Nat.zero_le _) dX0_askMark_13
abbrev rm_X1_askMark : Room := { frames := 3, cells := 0, slots := 0, locals := 63 }
set_option maxHeartbeats 4000000 in
set_option maxRecDepth 100000 in
theorem c_X1_askMark {G : GG} {base : Nat} {l : Launch} {f : Hp} {sz : Nat} {o : Nat} {t : Nat} {nn : Int32} {wi : Int32} {ag : Int32} {u : Nat} {tn : Nat} {g : Nat → Int32} (h_o : f o = some (oO 1 [.int nn, .int wi, .int ag])) (h_t : f t = some (oO 9 [.ref u, .int (nI tn)])) (h_u : f u = some (oI 16 g)) (ht : tn + 3 ≤ 16) : fx_M G base l yX1_askMark cX1_askMark 2 (some .int) rm_X1_askMark [.ref o, .ref t] f sz (some (.int ((nn + ag) - nI 1000))) (fx_up (fx_up f u (oI 16 (upd (upd (upd g tn (nI 22)) (tn + 1) (nI 21)) (tn + 2) (nI 20)))) t (oO 9 [.ref u, .int (nI (tn + 3))])) sz := by
  refine fx_of (by decide +kernel) (Nat.le_of_ble_eq_true rfl) ?_
  intro p e s m args below meth c C hr hk hnm hH ls hl
  obtain ⟨locs, hlocs⟩ : ∃ L : List Loc, L = [] := ⟨_, rfl⟩
  rw [← hlocs] at hH ⊢
  generalize s.heap = H at hH ⊢
  have hx := C.1
  have hb := C.2.1
  have hl : lv_has ls 2 [(0, .ref o), (1, .ref t)] := hl
  refine lv_aload_n hx hb dX1_askMark_0 rfl (lv_at hl 1 rfl) ?_
  refine lv_bipush (v := nI 22) hx hb dX1_askMark_1 (by decide) ?_
  refine fx_go0 hH (fx_runV C hH hl.1 (As := [.int (nI 22)]) (rest := []) (c_X10_leave (G := G) (base := base) (l := l) (f := f) (sz := sz) (t := t) (b := nI 22) (u := u) (n := tn) (g := g) h_t h_u (by omega)) mY_X10_leave ml_X1_22 im_X10_leave se_X10_X10_leave h_t rfl rfl ⟨(Nat.le_of_ble_eq_true rfl), (Nat.le_of_ble_eq_true rfl)⟩ rfl (Nat.le_of_ble_eq_true rfl) ⟨(Nat.le_of_ble_eq_true rfl), (Nat.le_of_ble_eq_true rfl)⟩ dX1_askMark_3) (fun H locs hH => ?_)
  have hH : fx_H G base s (fx_up (fx_up f u (oI 16 (upd g tn (nI 22)))) t (oO 9 [.ref u, .int (nI (tn + 1))])) sz H locs := hH
  have h1_o : (fx_up f u (oI 16 (upd g tn (nI 22)))) o = some (oO 1 [.int nn, .int wi, .int ag]) := (fx_up_n _ _ (fx_ne h_o h_u rfl)).trans h_o
  have h1_t : (fx_up f u (oI 16 (upd g tn (nI 22)))) t = some (oO 9 [.ref u, .int (nI tn)]) := (fx_up_n _ _ (fx_ne h_t h_u rfl)).trans h_t
  have h1_u : (fx_up f u (oI 16 (upd g tn (nI 22)))) u = some (oI 16 (upd g tn (nI 22))) := fx_up_s _ _ _
  have h2_o : (fx_up (fx_up f u (oI 16 (upd g tn (nI 22)))) t (oO 9 [.ref u, .int (nI (tn + 1))])) o = some (oO 1 [.int nn, .int wi, .int ag]) := (fx_up_n _ _ (fx_ne h1_o h1_t rfl)).trans h1_o
  have h2_u : (fx_up (fx_up f u (oI 16 (upd g tn (nI 22)))) t (oO 9 [.ref u, .int (nI (tn + 1))])) u = some (oI 16 (upd g tn (nI 22))) := (fx_up_n _ _ (fx_ne h1_u h1_t rfl)).trans h1_u
  have h2_t : (fx_up (fx_up f u (oI 16 (upd g tn (nI 22)))) t (oO 9 [.ref u, .int (nI (tn + 1))])) t = some (oO 9 [.ref u, .int (nI (tn + 1))]) := fx_up_s _ _ _
  have hH : fx_H G base s (fx_up (fx_up f u (oI 16 (upd g tn (nI 22)))) t (oO 9 [.ref u, .int (nI (tn + 1))])) sz H locs := hH
  refine lv_aload_n hx hb dX1_askMark_6 rfl (lv_at hl 0 rfl) ?_
  refine lv_aload_n hx hb dX1_askMark_7 rfl (lv_at hl 1 rfl) ?_
  refine fx_go1 hH (fx_runSU C hH hl.1 (As := [.ref t]) (rest := []) (c_X5_askMark_Lamp (G := G) (base := base) (l := l) (f := fx_up (fx_up f u (oI 16 (upd g tn (nI 22)))) t (oO 9 [.ref u, .int (nI (tn + 1))])) (sz := sz) (o := o) (t := t) (nn := nn) (wi := wi) (ag := ag) (u := u) (tn := (tn + 1)) (g := (upd g tn (nI 22))) h2_o h2_t h2_u (by omega)) mY_X5_askMark ml_X1_28 sm_X5_askMark_X5 su_X1_X5 im_X5_askMark (by decide +kernel) h2_o rfl rfl ⟨(Nat.le_of_ble_eq_true rfl), (Nat.le_of_ble_eq_true rfl)⟩ rfl (Nat.le_of_ble_eq_true rfl) ⟨(Nat.le_of_ble_eq_true rfl), (Nat.le_of_ble_eq_true rfl)⟩ dX1_askMark_8) (fun H locs hH => ?_)
  have hH : fx_H G base s (fx_up (fx_up (fx_up (fx_up f u (oI 16 (upd g tn (nI 22)))) t (oO 9 [.ref u, .int (nI (tn + 1))])) u (oI 16 (upd (upd (upd g tn (nI 22)) (tn + 1) (nI 21)) ((tn + 1) + 1) (nI 20)))) t (oO 9 [.ref u, .int (nI ((tn + 1) + 2))])) sz H locs := hH
  have heq3 : fx_up (fx_up (fx_up f u (oI 16 (upd g tn (nI 22)))) t (oO 9 [.ref u, .int (nI (tn + 1))])) u (oI 16 (upd (upd (upd g tn (nI 22)) (tn + 1) (nI 21)) ((tn + 1) + 1) (nI 20))) = fx_up (fx_up f u (oI 16 (upd (upd (upd g tn (nI 22)) (tn + 1) (nI 21)) ((tn + 1) + 1) (nI 20)))) t (oO 9 [.ref u, .int (nI (tn + 1))]) := by rw [fx_up_c _ _ _ (fx_ne h2_t h2_u rfl), fx_up_up]
  rw [heq3] at hH
  have h3_o : (fx_up (fx_up f u (oI 16 (upd (upd (upd g tn (nI 22)) (tn + 1) (nI 21)) ((tn + 1) + 1) (nI 20)))) t (oO 9 [.ref u, .int (nI (tn + 1))])) o = some (oO 1 [.int nn, .int wi, .int ag]) := (congrFun heq3 o).symm.trans ((fx_up_n _ _ (fx_ne h2_o h2_u rfl)).trans h2_o)
  have h3_t : (fx_up (fx_up f u (oI 16 (upd (upd (upd g tn (nI 22)) (tn + 1) (nI 21)) ((tn + 1) + 1) (nI 20)))) t (oO 9 [.ref u, .int (nI (tn + 1))])) t = some (oO 9 [.ref u, .int (nI (tn + 1))]) := (congrFun heq3 t).symm.trans ((fx_up_n _ _ (fx_ne h2_t h2_u rfl)).trans h2_t)
  have h3_u : (fx_up (fx_up f u (oI 16 (upd (upd (upd g tn (nI 22)) (tn + 1) (nI 21)) ((tn + 1) + 1) (nI 20)))) t (oO 9 [.ref u, .int (nI (tn + 1))])) u = some (oI 16 (upd (upd (upd g tn (nI 22)) (tn + 1) (nI 21)) ((tn + 1) + 1) (nI 20))) := (congrFun heq3 u).symm.trans (fx_up_s _ _ _)
  have heq4 : fx_up (fx_up (fx_up f u (oI 16 (upd (upd (upd g tn (nI 22)) (tn + 1) (nI 21)) ((tn + 1) + 1) (nI 20)))) t (oO 9 [.ref u, .int (nI (tn + 1))])) t (oO 9 [.ref u, .int (nI ((tn + 1) + 2))]) = fx_up (fx_up f u (oI 16 (upd (upd (upd g tn (nI 22)) (tn + 1) (nI 21)) ((tn + 1) + 1) (nI 20)))) t (oO 9 [.ref u, .int (nI ((tn + 1) + 2))]) := by rw [fx_up_up]
  rw [heq4] at hH
  have h4_o : (fx_up (fx_up f u (oI 16 (upd (upd (upd g tn (nI 22)) (tn + 1) (nI 21)) ((tn + 1) + 1) (nI 20)))) t (oO 9 [.ref u, .int (nI ((tn + 1) + 2))])) o = some (oO 1 [.int nn, .int wi, .int ag]) := (congrFun heq4 o).symm.trans ((fx_up_n _ _ (fx_ne h3_o h3_t rfl)).trans h3_o)
  have h4_u : (fx_up (fx_up f u (oI 16 (upd (upd (upd g tn (nI 22)) (tn + 1) (nI 21)) ((tn + 1) + 1) (nI 20)))) t (oO 9 [.ref u, .int (nI ((tn + 1) + 2))])) u = some (oI 16 (upd (upd (upd g tn (nI 22)) (tn + 1) (nI 21)) ((tn + 1) + 1) (nI 20))) := (congrFun heq4 u).symm.trans ((fx_up_n _ _ (fx_ne h3_u h3_t rfl)).trans h3_u)
  have h4_t : (fx_up (fx_up f u (oI 16 (upd (upd (upd g tn (nI 22)) (tn + 1) (nI 21)) ((tn + 1) + 1) (nI 20)))) t (oO 9 [.ref u, .int (nI ((tn + 1) + 2))])) t = some (oO 9 [.ref u, .int (nI ((tn + 1) + 2))]) := (congrFun heq4 t).symm.trans (fx_up_s _ _ _)
  have hH : fx_H G base s (fx_up (fx_up f u (oI 16 (upd (upd (upd g tn (nI 22)) (tn + 1) (nI 21)) ((tn + 1) + 1) (nI 20)))) t (oO 9 [.ref u, .int (nI ((tn + 1) + 2))])) sz H locs := hH
  refine lv_sipush (v := nI 1000) hx hb dX1_askMark_11 (by decide) ?_
  refine lv_isub hx hb dX1_askMark_14 ?_
  exact fx_iret C hr hk hH (by first | rfl | (simp [bI, *]; done) | ((repeat (first | rw [if_pos (by assumption)] | rw [if_neg (by assumption)])); done) | (unfold bI; grind)) rfl rfl (Nat.zero_le _) (Nat.zero_le _) dX1_askMark_15
abbrev rm_X5_askSize : Room := { frames := 4, cells := 0, slots := 0, locals := 84 }
set_option maxHeartbeats 4000000 in
set_option maxRecDepth 100000 in
theorem c_X5_askSize_Round {G : GG} {base : Nat} {l : Launch} {f : Hp} {sz : Nat} {o : Nat} {t : Nat} {nn : Int32} {wi : Int32} {ag : Int32} {u : Nat} {tn : Nat} {g : Nat → Int32} (h_o : f o = some (oO 5 [.int nn, .int wi, .int ag])) (h_t : f t = some (oO 9 [.ref u, .int (nI tn)])) (h_u : f u = some (oI 16 g)) (ht : tn + 4 ≤ 16) : fx_M G base l yX5_askSize cX5_askSize 3 (some .int) rm_X5_askSize [.ref o, .ref t] f sz (some (.int (wi + (nn + ag)))) (fx_up (fx_up f u (oI 16 (upd (upd (upd (upd g tn (nI 11)) (tn + 1) (nI 10)) (tn + 2) (nI 21)) (tn + 3) (nI 20)))) t (oO 9 [.ref u, .int (nI (tn + 4))])) sz := by
  refine fx_of (by decide +kernel) (Nat.le_of_ble_eq_true rfl) ?_
  intro p e s m args below meth c C hr hk hnm hH ls hl
  obtain ⟨locs, hlocs⟩ : ∃ L : List Loc, L = [] := ⟨_, rfl⟩
  rw [← hlocs] at hH ⊢
  generalize s.heap = H at hH ⊢
  have hx := C.1
  have hb := C.2.1
  have hl : lv_has ls 3 [(0, .ref o), (1, .ref t)] := hl
  refine lv_aload_n hx hb dX5_askSize_0 rfl (lv_at hl 1 rfl) ?_
  refine lv_bipush (v := nI 11) hx hb dX5_askSize_1 (by decide) ?_
  refine fx_go0 hH (fx_runV C hH hl.1 (As := [.int (nI 11)]) (rest := []) (c_X10_leave (G := G) (base := base) (l := l) (f := f) (sz := sz) (t := t) (b := nI 11) (u := u) (n := tn) (g := g) h_t h_u (by omega)) mY_X10_leave ml_X5_26 im_X10_leave se_X10_X10_leave h_t rfl rfl ⟨(Nat.le_of_ble_eq_true rfl), (Nat.le_of_ble_eq_true rfl)⟩ rfl (Nat.le_of_ble_eq_true rfl) ⟨(Nat.le_of_ble_eq_true rfl), (Nat.le_of_ble_eq_true rfl)⟩ dX5_askSize_3) (fun H locs hH => ?_)
  have hH : fx_H G base s (fx_up (fx_up f u (oI 16 (upd g tn (nI 11)))) t (oO 9 [.ref u, .int (nI (tn + 1))])) sz H locs := hH
  have h1_o : (fx_up f u (oI 16 (upd g tn (nI 11)))) o = some (oO 5 [.int nn, .int wi, .int ag]) := (fx_up_n _ _ (fx_ne h_o h_u rfl)).trans h_o
  have h1_t : (fx_up f u (oI 16 (upd g tn (nI 11)))) t = some (oO 9 [.ref u, .int (nI tn)]) := (fx_up_n _ _ (fx_ne h_t h_u rfl)).trans h_t
  have h1_u : (fx_up f u (oI 16 (upd g tn (nI 11)))) u = some (oI 16 (upd g tn (nI 11))) := fx_up_s _ _ _
  have h2_o : (fx_up (fx_up f u (oI 16 (upd g tn (nI 11)))) t (oO 9 [.ref u, .int (nI (tn + 1))])) o = some (oO 5 [.int nn, .int wi, .int ag]) := (fx_up_n _ _ (fx_ne h1_o h1_t rfl)).trans h1_o
  have h2_u : (fx_up (fx_up f u (oI 16 (upd g tn (nI 11)))) t (oO 9 [.ref u, .int (nI (tn + 1))])) u = some (oI 16 (upd g tn (nI 11))) := (fx_up_n _ _ (fx_ne h1_u h1_t rfl)).trans h1_u
  have h2_t : (fx_up (fx_up f u (oI 16 (upd g tn (nI 11)))) t (oO 9 [.ref u, .int (nI (tn + 1))])) t = some (oO 9 [.ref u, .int (nI (tn + 1))]) := fx_up_s _ _ _
  have hH : fx_H G base s (fx_up (fx_up f u (oI 16 (upd g tn (nI 11)))) t (oO 9 [.ref u, .int (nI (tn + 1))])) sz H locs := hH
  refine lv_aload_n hx hb dX5_askSize_6 rfl (lv_at hl 0 rfl) ?_
  refine lv_aload_n hx hb dX5_askSize_7 rfl (lv_at hl 1 rfl) ?_
  refine fx_go1 hH (fx_runSU C hH hl.1 (As := [.ref t]) (rest := []) (c_X7_askSize_Round (G := G) (base := base) (l := l) (f := fx_up (fx_up f u (oI 16 (upd g tn (nI 11)))) t (oO 9 [.ref u, .int (nI (tn + 1))])) (sz := sz) (o := o) (t := t) (nn := nn) (wi := wi) (ag := ag) (u := u) (tn := (tn + 1)) (g := (upd g tn (nI 11))) h2_o h2_t h2_u (by omega)) mY_X7_askSize ml_X5_32 sm_X7_askSize_X7 su_X5_X7 im_X7_askSize (by decide +kernel) h2_o rfl rfl ⟨(Nat.le_of_ble_eq_true rfl), (Nat.le_of_ble_eq_true rfl)⟩ rfl (Nat.le_of_ble_eq_true rfl) ⟨(Nat.le_of_ble_eq_true rfl), (Nat.le_of_ble_eq_true rfl)⟩ dX5_askSize_8) (fun H locs hH => ?_)
  have hH : fx_H G base s (fx_up (fx_up (fx_up (fx_up f u (oI 16 (upd g tn (nI 11)))) t (oO 9 [.ref u, .int (nI (tn + 1))])) u (oI 16 (upd (upd g tn (nI 11)) (tn + 1) (nI 10)))) t (oO 9 [.ref u, .int (nI ((tn + 1) + 1))])) sz H locs := hH
  have heq3 : fx_up (fx_up (fx_up f u (oI 16 (upd g tn (nI 11)))) t (oO 9 [.ref u, .int (nI (tn + 1))])) u (oI 16 (upd (upd g tn (nI 11)) (tn + 1) (nI 10))) = fx_up (fx_up f u (oI 16 (upd (upd g tn (nI 11)) (tn + 1) (nI 10)))) t (oO 9 [.ref u, .int (nI (tn + 1))]) := by rw [fx_up_c _ _ _ (fx_ne h2_t h2_u rfl), fx_up_up]
  rw [heq3] at hH
  have h3_o : (fx_up (fx_up f u (oI 16 (upd (upd g tn (nI 11)) (tn + 1) (nI 10)))) t (oO 9 [.ref u, .int (nI (tn + 1))])) o = some (oO 5 [.int nn, .int wi, .int ag]) := (congrFun heq3 o).symm.trans ((fx_up_n _ _ (fx_ne h2_o h2_u rfl)).trans h2_o)
  have h3_t : (fx_up (fx_up f u (oI 16 (upd (upd g tn (nI 11)) (tn + 1) (nI 10)))) t (oO 9 [.ref u, .int (nI (tn + 1))])) t = some (oO 9 [.ref u, .int (nI (tn + 1))]) := (congrFun heq3 t).symm.trans ((fx_up_n _ _ (fx_ne h2_t h2_u rfl)).trans h2_t)
  have h3_u : (fx_up (fx_up f u (oI 16 (upd (upd g tn (nI 11)) (tn + 1) (nI 10)))) t (oO 9 [.ref u, .int (nI (tn + 1))])) u = some (oI 16 (upd (upd g tn (nI 11)) (tn + 1) (nI 10))) := (congrFun heq3 u).symm.trans (fx_up_s _ _ _)
  have heq4 : fx_up (fx_up (fx_up f u (oI 16 (upd (upd g tn (nI 11)) (tn + 1) (nI 10)))) t (oO 9 [.ref u, .int (nI (tn + 1))])) t (oO 9 [.ref u, .int (nI ((tn + 1) + 1))]) = fx_up (fx_up f u (oI 16 (upd (upd g tn (nI 11)) (tn + 1) (nI 10)))) t (oO 9 [.ref u, .int (nI ((tn + 1) + 1))]) := by rw [fx_up_up]
  rw [heq4] at hH
  have h4_o : (fx_up (fx_up f u (oI 16 (upd (upd g tn (nI 11)) (tn + 1) (nI 10)))) t (oO 9 [.ref u, .int (nI ((tn + 1) + 1))])) o = some (oO 5 [.int nn, .int wi, .int ag]) := (congrFun heq4 o).symm.trans ((fx_up_n _ _ (fx_ne h3_o h3_t rfl)).trans h3_o)
  have h4_u : (fx_up (fx_up f u (oI 16 (upd (upd g tn (nI 11)) (tn + 1) (nI 10)))) t (oO 9 [.ref u, .int (nI ((tn + 1) + 1))])) u = some (oI 16 (upd (upd g tn (nI 11)) (tn + 1) (nI 10))) := (congrFun heq4 u).symm.trans ((fx_up_n _ _ (fx_ne h3_u h3_t rfl)).trans h3_u)
  have h4_t : (fx_up (fx_up f u (oI 16 (upd (upd g tn (nI 11)) (tn + 1) (nI 10)))) t (oO 9 [.ref u, .int (nI ((tn + 1) + 1))])) t = some (oO 9 [.ref u, .int (nI ((tn + 1) + 1))]) := (congrFun heq4 t).symm.trans (fx_up_s _ _ _)
  have hH : fx_H G base s (fx_up (fx_up f u (oI 16 (upd (upd g tn (nI 11)) (tn + 1) (nI 10)))) t (oO 9 [.ref u, .int (nI ((tn + 1) + 1))])) sz H locs := hH
  refine lv_istore_n (lv' := [(2, .int wi), (0, .ref o), (1, .ref t)]) hx hb dX5_askSize_11 rfl hl (by decide) rfl (fun ls hl => ?_)
  refine lv_iload_n hx hb dX5_askSize_12 rfl (lv_at hl 0 rfl) ?_
  refine lv_aload_n hx hb dX5_askSize_13 rfl (lv_at hl 1 rfl) ?_
  refine lv_aload_n hx hb dX5_askSize_14 rfl (lv_at hl 2 rfl) ?_
  refine fx_go1 hH (fx_runV C hH hl.1 (As := [.ref t]) (rest := [.int wi]) (c_X5_askMark_Round (G := G) (base := base) (l := l) (f := fx_up (fx_up f u (oI 16 (upd (upd g tn (nI 11)) (tn + 1) (nI 10)))) t (oO 9 [.ref u, .int (nI ((tn + 1) + 1))])) (sz := sz) (o := o) (t := t) (nn := nn) (wi := wi) (ag := ag) (u := u) (tn := ((tn + 1) + 1)) (g := (upd (upd g tn (nI 11)) (tn + 1) (nI 10))) h4_o h4_t h4_u (by omega)) mY_X5_askMark ml_X5_36 im_X5_askMark se_X5_X5_askMark h4_o rfl rfl ⟨(Nat.le_of_ble_eq_true rfl), (Nat.le_of_ble_eq_true rfl)⟩ rfl (Nat.le_of_ble_eq_true rfl) ⟨(Nat.le_of_ble_eq_true rfl), (Nat.le_of_ble_eq_true rfl)⟩ dX5_askSize_15) (fun H locs hH => ?_)
  have hH : fx_H G base s (fx_up (fx_up (fx_up (fx_up f u (oI 16 (upd (upd g tn (nI 11)) (tn + 1) (nI 10)))) t (oO 9 [.ref u, .int (nI ((tn + 1) + 1))])) u (oI 16 (upd (upd (upd (upd g tn (nI 11)) (tn + 1) (nI 10)) ((tn + 1) + 1) (nI 21)) (((tn + 1) + 1) + 1) (nI 20)))) t (oO 9 [.ref u, .int (nI (((tn + 1) + 1) + 2))])) sz H locs := hH
  have heq5 : fx_up (fx_up (fx_up f u (oI 16 (upd (upd g tn (nI 11)) (tn + 1) (nI 10)))) t (oO 9 [.ref u, .int (nI ((tn + 1) + 1))])) u (oI 16 (upd (upd (upd (upd g tn (nI 11)) (tn + 1) (nI 10)) ((tn + 1) + 1) (nI 21)) (((tn + 1) + 1) + 1) (nI 20))) = fx_up (fx_up f u (oI 16 (upd (upd (upd (upd g tn (nI 11)) (tn + 1) (nI 10)) ((tn + 1) + 1) (nI 21)) (((tn + 1) + 1) + 1) (nI 20)))) t (oO 9 [.ref u, .int (nI ((tn + 1) + 1))]) := by rw [fx_up_c _ _ _ (fx_ne h4_t h4_u rfl), fx_up_up]
  rw [heq5] at hH
  have h5_o : (fx_up (fx_up f u (oI 16 (upd (upd (upd (upd g tn (nI 11)) (tn + 1) (nI 10)) ((tn + 1) + 1) (nI 21)) (((tn + 1) + 1) + 1) (nI 20)))) t (oO 9 [.ref u, .int (nI ((tn + 1) + 1))])) o = some (oO 5 [.int nn, .int wi, .int ag]) := (congrFun heq5 o).symm.trans ((fx_up_n _ _ (fx_ne h4_o h4_u rfl)).trans h4_o)
  have h5_t : (fx_up (fx_up f u (oI 16 (upd (upd (upd (upd g tn (nI 11)) (tn + 1) (nI 10)) ((tn + 1) + 1) (nI 21)) (((tn + 1) + 1) + 1) (nI 20)))) t (oO 9 [.ref u, .int (nI ((tn + 1) + 1))])) t = some (oO 9 [.ref u, .int (nI ((tn + 1) + 1))]) := (congrFun heq5 t).symm.trans ((fx_up_n _ _ (fx_ne h4_t h4_u rfl)).trans h4_t)
  have h5_u : (fx_up (fx_up f u (oI 16 (upd (upd (upd (upd g tn (nI 11)) (tn + 1) (nI 10)) ((tn + 1) + 1) (nI 21)) (((tn + 1) + 1) + 1) (nI 20)))) t (oO 9 [.ref u, .int (nI ((tn + 1) + 1))])) u = some (oI 16 (upd (upd (upd (upd g tn (nI 11)) (tn + 1) (nI 10)) ((tn + 1) + 1) (nI 21)) (((tn + 1) + 1) + 1) (nI 20))) := (congrFun heq5 u).symm.trans (fx_up_s _ _ _)
  have heq6 : fx_up (fx_up (fx_up f u (oI 16 (upd (upd (upd (upd g tn (nI 11)) (tn + 1) (nI 10)) ((tn + 1) + 1) (nI 21)) (((tn + 1) + 1) + 1) (nI 20)))) t (oO 9 [.ref u, .int (nI ((tn + 1) + 1))])) t (oO 9 [.ref u, .int (nI (((tn + 1) + 1) + 2))]) = fx_up (fx_up f u (oI 16 (upd (upd (upd (upd g tn (nI 11)) (tn + 1) (nI 10)) ((tn + 1) + 1) (nI 21)) (((tn + 1) + 1) + 1) (nI 20)))) t (oO 9 [.ref u, .int (nI (((tn + 1) + 1) + 2))]) := by rw [fx_up_up]
  rw [heq6] at hH
  have h6_o : (fx_up (fx_up f u (oI 16 (upd (upd (upd (upd g tn (nI 11)) (tn + 1) (nI 10)) ((tn + 1) + 1) (nI 21)) (((tn + 1) + 1) + 1) (nI 20)))) t (oO 9 [.ref u, .int (nI (((tn + 1) + 1) + 2))])) o = some (oO 5 [.int nn, .int wi, .int ag]) := (congrFun heq6 o).symm.trans ((fx_up_n _ _ (fx_ne h5_o h5_t rfl)).trans h5_o)
  have h6_u : (fx_up (fx_up f u (oI 16 (upd (upd (upd (upd g tn (nI 11)) (tn + 1) (nI 10)) ((tn + 1) + 1) (nI 21)) (((tn + 1) + 1) + 1) (nI 20)))) t (oO 9 [.ref u, .int (nI (((tn + 1) + 1) + 2))])) u = some (oI 16 (upd (upd (upd (upd g tn (nI 11)) (tn + 1) (nI 10)) ((tn + 1) + 1) (nI 21)) (((tn + 1) + 1) + 1) (nI 20))) := (congrFun heq6 u).symm.trans ((fx_up_n _ _ (fx_ne h5_u h5_t rfl)).trans h5_u)
  have h6_t : (fx_up (fx_up f u (oI 16 (upd (upd (upd (upd g tn (nI 11)) (tn + 1) (nI 10)) ((tn + 1) + 1) (nI 21)) (((tn + 1) + 1) + 1) (nI 20)))) t (oO 9 [.ref u, .int (nI (((tn + 1) + 1) + 2))])) t = some (oO 9 [.ref u, .int (nI (((tn + 1) + 1) + 2))]) := (congrFun heq6 t).symm.trans (fx_up_s _ _ _)
  have hH : fx_H G base s (fx_up (fx_up f u (oI 16 (upd (upd (upd (upd g tn (nI 11)) (tn + 1) (nI 10)) ((tn + 1) + 1) (nI 21)) (((tn + 1) + 1) + 1) (nI 20)))) t (oO 9 [.ref u, .int (nI (((tn + 1) + 1) + 2))])) sz H locs := hH
  refine lv_iadd hx hb dX5_askSize_18 ?_
  exact fx_iret C hr hk hH rfl rfl rfl (Nat.zero_le _) (Nat.zero_le _) dX5_askSize_19
set_option maxHeartbeats 4000000 in
set_option maxRecDepth 100000 in
theorem c_X5_askSize_Back {G : GG} {base : Nat} {l : Launch} {f : Hp} {sz : Nat} {o : Nat} {t : Nat} {nn : Int32} {wi : Int32} {ag : Int32} {u : Nat} {tn : Nat} {g : Nat → Int32} (h_o : f o = some (oO 0 [.int nn, .int wi, .int ag])) (h_t : f t = some (oO 9 [.ref u, .int (nI tn)])) (h_u : f u = some (oI 16 g)) (ht : tn + 5 ≤ 16) : fx_M G base l yX5_askSize cX5_askSize 3 (some .int) rm_X5_askSize [.ref o, .ref t] f sz (some (.int (wi + (nI 2 * (nn + ag))))) (fx_up (fx_up f u (oI 16 (upd (upd (upd (upd (upd g tn (nI 11)) (tn + 1) (nI 10)) (tn + 2) (nI 24)) (tn + 3) (nI 21)) (tn + 4) (nI 20)))) t (oO 9 [.ref u, .int (nI (tn + 5))])) sz := by
  refine fx_of (by decide +kernel) (Nat.le_of_ble_eq_true rfl) ?_
  intro p e s m args below meth c C hr hk hnm hH ls hl
  obtain ⟨locs, hlocs⟩ : ∃ L : List Loc, L = [] := ⟨_, rfl⟩
  rw [← hlocs] at hH ⊢
  generalize s.heap = H at hH ⊢
  have hx := C.1
  have hb := C.2.1
  have hl : lv_has ls 3 [(0, .ref o), (1, .ref t)] := hl
  refine lv_aload_n hx hb dX5_askSize_0 rfl (lv_at hl 1 rfl) ?_
  refine lv_bipush (v := nI 11) hx hb dX5_askSize_1 (by decide) ?_
  refine fx_go0 hH (fx_runV C hH hl.1 (As := [.int (nI 11)]) (rest := []) (c_X10_leave (G := G) (base := base) (l := l) (f := f) (sz := sz) (t := t) (b := nI 11) (u := u) (n := tn) (g := g) h_t h_u (by omega)) mY_X10_leave ml_X5_26 im_X10_leave se_X10_X10_leave h_t rfl rfl ⟨(Nat.le_of_ble_eq_true rfl), (Nat.le_of_ble_eq_true rfl)⟩ rfl (Nat.le_of_ble_eq_true rfl) ⟨(Nat.le_of_ble_eq_true rfl), (Nat.le_of_ble_eq_true rfl)⟩ dX5_askSize_3) (fun H locs hH => ?_)
  have hH : fx_H G base s (fx_up (fx_up f u (oI 16 (upd g tn (nI 11)))) t (oO 9 [.ref u, .int (nI (tn + 1))])) sz H locs := hH
  have h1_o : (fx_up f u (oI 16 (upd g tn (nI 11)))) o = some (oO 0 [.int nn, .int wi, .int ag]) := (fx_up_n _ _ (fx_ne h_o h_u rfl)).trans h_o
  have h1_t : (fx_up f u (oI 16 (upd g tn (nI 11)))) t = some (oO 9 [.ref u, .int (nI tn)]) := (fx_up_n _ _ (fx_ne h_t h_u rfl)).trans h_t
  have h1_u : (fx_up f u (oI 16 (upd g tn (nI 11)))) u = some (oI 16 (upd g tn (nI 11))) := fx_up_s _ _ _
  have h2_o : (fx_up (fx_up f u (oI 16 (upd g tn (nI 11)))) t (oO 9 [.ref u, .int (nI (tn + 1))])) o = some (oO 0 [.int nn, .int wi, .int ag]) := (fx_up_n _ _ (fx_ne h1_o h1_t rfl)).trans h1_o
  have h2_u : (fx_up (fx_up f u (oI 16 (upd g tn (nI 11)))) t (oO 9 [.ref u, .int (nI (tn + 1))])) u = some (oI 16 (upd g tn (nI 11))) := (fx_up_n _ _ (fx_ne h1_u h1_t rfl)).trans h1_u
  have h2_t : (fx_up (fx_up f u (oI 16 (upd g tn (nI 11)))) t (oO 9 [.ref u, .int (nI (tn + 1))])) t = some (oO 9 [.ref u, .int (nI (tn + 1))]) := fx_up_s _ _ _
  have hH : fx_H G base s (fx_up (fx_up f u (oI 16 (upd g tn (nI 11)))) t (oO 9 [.ref u, .int (nI (tn + 1))])) sz H locs := hH
  refine lv_aload_n hx hb dX5_askSize_6 rfl (lv_at hl 0 rfl) ?_
  refine lv_aload_n hx hb dX5_askSize_7 rfl (lv_at hl 1 rfl) ?_
  refine fx_go1 hH (fx_runSU C hH hl.1 (As := [.ref t]) (rest := []) (c_X7_askSize_Back (G := G) (base := base) (l := l) (f := fx_up (fx_up f u (oI 16 (upd g tn (nI 11)))) t (oO 9 [.ref u, .int (nI (tn + 1))])) (sz := sz) (o := o) (t := t) (nn := nn) (wi := wi) (ag := ag) (u := u) (tn := (tn + 1)) (g := (upd g tn (nI 11))) h2_o h2_t h2_u (by omega)) mY_X7_askSize ml_X5_32 sm_X7_askSize_X7 su_X5_X7 im_X7_askSize (by decide +kernel) h2_o rfl rfl ⟨(Nat.le_of_ble_eq_true rfl), (Nat.le_of_ble_eq_true rfl)⟩ rfl (Nat.le_of_ble_eq_true rfl) ⟨(Nat.le_of_ble_eq_true rfl), (Nat.le_of_ble_eq_true rfl)⟩ dX5_askSize_8) (fun H locs hH => ?_)
  have hH : fx_H G base s (fx_up (fx_up (fx_up (fx_up f u (oI 16 (upd g tn (nI 11)))) t (oO 9 [.ref u, .int (nI (tn + 1))])) u (oI 16 (upd (upd g tn (nI 11)) (tn + 1) (nI 10)))) t (oO 9 [.ref u, .int (nI ((tn + 1) + 1))])) sz H locs := hH
  have heq3 : fx_up (fx_up (fx_up f u (oI 16 (upd g tn (nI 11)))) t (oO 9 [.ref u, .int (nI (tn + 1))])) u (oI 16 (upd (upd g tn (nI 11)) (tn + 1) (nI 10))) = fx_up (fx_up f u (oI 16 (upd (upd g tn (nI 11)) (tn + 1) (nI 10)))) t (oO 9 [.ref u, .int (nI (tn + 1))]) := by rw [fx_up_c _ _ _ (fx_ne h2_t h2_u rfl), fx_up_up]
  rw [heq3] at hH
  have h3_o : (fx_up (fx_up f u (oI 16 (upd (upd g tn (nI 11)) (tn + 1) (nI 10)))) t (oO 9 [.ref u, .int (nI (tn + 1))])) o = some (oO 0 [.int nn, .int wi, .int ag]) := (congrFun heq3 o).symm.trans ((fx_up_n _ _ (fx_ne h2_o h2_u rfl)).trans h2_o)
  have h3_t : (fx_up (fx_up f u (oI 16 (upd (upd g tn (nI 11)) (tn + 1) (nI 10)))) t (oO 9 [.ref u, .int (nI (tn + 1))])) t = some (oO 9 [.ref u, .int (nI (tn + 1))]) := (congrFun heq3 t).symm.trans ((fx_up_n _ _ (fx_ne h2_t h2_u rfl)).trans h2_t)
  have h3_u : (fx_up (fx_up f u (oI 16 (upd (upd g tn (nI 11)) (tn + 1) (nI 10)))) t (oO 9 [.ref u, .int (nI (tn + 1))])) u = some (oI 16 (upd (upd g tn (nI 11)) (tn + 1) (nI 10))) := (congrFun heq3 u).symm.trans (fx_up_s _ _ _)
  have heq4 : fx_up (fx_up (fx_up f u (oI 16 (upd (upd g tn (nI 11)) (tn + 1) (nI 10)))) t (oO 9 [.ref u, .int (nI (tn + 1))])) t (oO 9 [.ref u, .int (nI ((tn + 1) + 1))]) = fx_up (fx_up f u (oI 16 (upd (upd g tn (nI 11)) (tn + 1) (nI 10)))) t (oO 9 [.ref u, .int (nI ((tn + 1) + 1))]) := by rw [fx_up_up]
  rw [heq4] at hH
  have h4_o : (fx_up (fx_up f u (oI 16 (upd (upd g tn (nI 11)) (tn + 1) (nI 10)))) t (oO 9 [.ref u, .int (nI ((tn + 1) + 1))])) o = some (oO 0 [.int nn, .int wi, .int ag]) := (congrFun heq4 o).symm.trans ((fx_up_n _ _ (fx_ne h3_o h3_t rfl)).trans h3_o)
  have h4_u : (fx_up (fx_up f u (oI 16 (upd (upd g tn (nI 11)) (tn + 1) (nI 10)))) t (oO 9 [.ref u, .int (nI ((tn + 1) + 1))])) u = some (oI 16 (upd (upd g tn (nI 11)) (tn + 1) (nI 10))) := (congrFun heq4 u).symm.trans ((fx_up_n _ _ (fx_ne h3_u h3_t rfl)).trans h3_u)
  have h4_t : (fx_up (fx_up f u (oI 16 (upd (upd g tn (nI 11)) (tn + 1) (nI 10)))) t (oO 9 [.ref u, .int (nI ((tn + 1) + 1))])) t = some (oO 9 [.ref u, .int (nI ((tn + 1) + 1))]) := (congrFun heq4 t).symm.trans (fx_up_s _ _ _)
  have hH : fx_H G base s (fx_up (fx_up f u (oI 16 (upd (upd g tn (nI 11)) (tn + 1) (nI 10)))) t (oO 9 [.ref u, .int (nI ((tn + 1) + 1))])) sz H locs := hH
  refine lv_istore_n (lv' := [(2, .int wi), (0, .ref o), (1, .ref t)]) hx hb dX5_askSize_11 rfl hl (by decide) rfl (fun ls hl => ?_)
  refine lv_iload_n hx hb dX5_askSize_12 rfl (lv_at hl 0 rfl) ?_
  refine lv_aload_n hx hb dX5_askSize_13 rfl (lv_at hl 1 rfl) ?_
  refine lv_aload_n hx hb dX5_askSize_14 rfl (lv_at hl 2 rfl) ?_
  refine fx_go1 hH (fx_runU C hH hl.1 (As := [.ref t]) (rest := [.int wi]) (owner := RX5) (c_X0_askMark (G := G) (base := base) (l := l) (f := fx_up (fx_up f u (oI 16 (upd (upd g tn (nI 11)) (tn + 1) (nI 10)))) t (oO 9 [.ref u, .int (nI ((tn + 1) + 1))])) (sz := sz) (o := o) (t := t) (nn := nn) (wi := wi) (ag := ag) (u := u) (tn := ((tn + 1) + 1)) (g := (upd (upd g tn (nI 11)) (tn + 1) (nI 10))) h4_o h4_t h4_u (by omega)) mY_X0_askMark ml_X5_36 sm_X5_askMark_X5 (Or.inr ⟨im_X5_askMark, _, _, _, cd_X5_askMark⟩) (by decide +kernel) rfl se_X0_X5_askMark_X0_askMark im_X0_askMark h4_o rfl rfl ⟨(Nat.le_of_ble_eq_true rfl), (Nat.le_of_ble_eq_true rfl)⟩ rfl (Nat.le_of_ble_eq_true rfl) ⟨(Nat.le_of_ble_eq_true rfl), (Nat.le_of_ble_eq_true rfl)⟩ dX5_askSize_15) (fun H locs hH => ?_)
  have hH : fx_H G base s (fx_up (fx_up (fx_up (fx_up f u (oI 16 (upd (upd g tn (nI 11)) (tn + 1) (nI 10)))) t (oO 9 [.ref u, .int (nI ((tn + 1) + 1))])) u (oI 16 (upd (upd (upd (upd (upd g tn (nI 11)) (tn + 1) (nI 10)) ((tn + 1) + 1) (nI 24)) (((tn + 1) + 1) + 1) (nI 21)) (((tn + 1) + 1) + 2) (nI 20)))) t (oO 9 [.ref u, .int (nI (((tn + 1) + 1) + 3))])) sz H locs := hH
  have heq5 : fx_up (fx_up (fx_up f u (oI 16 (upd (upd g tn (nI 11)) (tn + 1) (nI 10)))) t (oO 9 [.ref u, .int (nI ((tn + 1) + 1))])) u (oI 16 (upd (upd (upd (upd (upd g tn (nI 11)) (tn + 1) (nI 10)) ((tn + 1) + 1) (nI 24)) (((tn + 1) + 1) + 1) (nI 21)) (((tn + 1) + 1) + 2) (nI 20))) = fx_up (fx_up f u (oI 16 (upd (upd (upd (upd (upd g tn (nI 11)) (tn + 1) (nI 10)) ((tn + 1) + 1) (nI 24)) (((tn + 1) + 1) + 1) (nI 21)) (((tn + 1) + 1) + 2) (nI 20)))) t (oO 9 [.ref u, .int (nI ((tn + 1) + 1))]) := by rw [fx_up_c _ _ _ (fx_ne h4_t h4_u rfl), fx_up_up]
  rw [heq5] at hH
  have h5_o : (fx_up (fx_up f u (oI 16 (upd (upd (upd (upd (upd g tn (nI 11)) (tn + 1) (nI 10)) ((tn + 1) + 1) (nI 24)) (((tn + 1) + 1) + 1) (nI 21)) (((tn + 1) + 1) + 2) (nI 20)))) t (oO 9 [.ref u, .int (nI ((tn + 1) + 1))])) o = some (oO 0 [.int nn, .int wi, .int ag]) := (congrFun heq5 o).symm.trans ((fx_up_n _ _ (fx_ne h4_o h4_u rfl)).trans h4_o)
  have h5_t : (fx_up (fx_up f u (oI 16 (upd (upd (upd (upd (upd g tn (nI 11)) (tn + 1) (nI 10)) ((tn + 1) + 1) (nI 24)) (((tn + 1) + 1) + 1) (nI 21)) (((tn + 1) + 1) + 2) (nI 20)))) t (oO 9 [.ref u, .int (nI ((tn + 1) + 1))])) t = some (oO 9 [.ref u, .int (nI ((tn + 1) + 1))]) := (congrFun heq5 t).symm.trans ((fx_up_n _ _ (fx_ne h4_t h4_u rfl)).trans h4_t)
  have h5_u : (fx_up (fx_up f u (oI 16 (upd (upd (upd (upd (upd g tn (nI 11)) (tn + 1) (nI 10)) ((tn + 1) + 1) (nI 24)) (((tn + 1) + 1) + 1) (nI 21)) (((tn + 1) + 1) + 2) (nI 20)))) t (oO 9 [.ref u, .int (nI ((tn + 1) + 1))])) u = some (oI 16 (upd (upd (upd (upd (upd g tn (nI 11)) (tn + 1) (nI 10)) ((tn + 1) + 1) (nI 24)) (((tn + 1) + 1) + 1) (nI 21)) (((tn + 1) + 1) + 2) (nI 20))) := (congrFun heq5 u).symm.trans (fx_up_s _ _ _)
  have heq6 : fx_up (fx_up (fx_up f u (oI 16 (upd (upd (upd (upd (upd g tn (nI 11)) (tn + 1) (nI 10)) ((tn + 1) + 1) (nI 24)) (((tn + 1) + 1) + 1) (nI 21)) (((tn + 1) + 1) + 2) (nI 20)))) t (oO 9 [.ref u, .int (nI ((tn + 1) + 1))])) t (oO 9 [.ref u, .int (nI (((tn + 1) + 1) + 3))]) = fx_up (fx_up f u (oI 16 (upd (upd (upd (upd (upd g tn (nI 11)) (tn + 1) (nI 10)) ((tn + 1) + 1) (nI 24)) (((tn + 1) + 1) + 1) (nI 21)) (((tn + 1) + 1) + 2) (nI 20)))) t (oO 9 [.ref u, .int (nI (((tn + 1) + 1) + 3))]) := by rw [fx_up_up]
  rw [heq6] at hH
  have h6_o : (fx_up (fx_up f u (oI 16 (upd (upd (upd (upd (upd g tn (nI 11)) (tn + 1) (nI 10)) ((tn + 1) + 1) (nI 24)) (((tn + 1) + 1) + 1) (nI 21)) (((tn + 1) + 1) + 2) (nI 20)))) t (oO 9 [.ref u, .int (nI (((tn + 1) + 1) + 3))])) o = some (oO 0 [.int nn, .int wi, .int ag]) := (congrFun heq6 o).symm.trans ((fx_up_n _ _ (fx_ne h5_o h5_t rfl)).trans h5_o)
  have h6_u : (fx_up (fx_up f u (oI 16 (upd (upd (upd (upd (upd g tn (nI 11)) (tn + 1) (nI 10)) ((tn + 1) + 1) (nI 24)) (((tn + 1) + 1) + 1) (nI 21)) (((tn + 1) + 1) + 2) (nI 20)))) t (oO 9 [.ref u, .int (nI (((tn + 1) + 1) + 3))])) u = some (oI 16 (upd (upd (upd (upd (upd g tn (nI 11)) (tn + 1) (nI 10)) ((tn + 1) + 1) (nI 24)) (((tn + 1) + 1) + 1) (nI 21)) (((tn + 1) + 1) + 2) (nI 20))) := (congrFun heq6 u).symm.trans ((fx_up_n _ _ (fx_ne h5_u h5_t rfl)).trans h5_u)
  have h6_t : (fx_up (fx_up f u (oI 16 (upd (upd (upd (upd (upd g tn (nI 11)) (tn + 1) (nI 10)) ((tn + 1) + 1) (nI 24)) (((tn + 1) + 1) + 1) (nI 21)) (((tn + 1) + 1) + 2) (nI 20)))) t (oO 9 [.ref u, .int (nI (((tn + 1) + 1) + 3))])) t = some (oO 9 [.ref u, .int (nI (((tn + 1) + 1) + 3))]) := (congrFun heq6 t).symm.trans (fx_up_s _ _ _)
  have hH : fx_H G base s (fx_up (fx_up f u (oI 16 (upd (upd (upd (upd (upd g tn (nI 11)) (tn + 1) (nI 10)) ((tn + 1) + 1) (nI 24)) (((tn + 1) + 1) + 1) (nI 21)) (((tn + 1) + 1) + 2) (nI 20)))) t (oO 9 [.ref u, .int (nI (((tn + 1) + 1) + 3))])) sz H locs := hH
  refine lv_iadd hx hb dX5_askSize_18 ?_
  exact fx_iret C hr hk hH rfl rfl rfl (Nat.zero_le _) (Nat.zero_le _) dX5_askSize_19
set_option maxHeartbeats 4000000 in
set_option maxRecDepth 100000 in
theorem c_X5_askSize_Lamp {G : GG} {base : Nat} {l : Launch} {f : Hp} {sz : Nat} {o : Nat} {t : Nat} {nn : Int32} {wi : Int32} {ag : Int32} {u : Nat} {tn : Nat} {g : Nat → Int32} (h_o : f o = some (oO 1 [.int nn, .int wi, .int ag])) (h_t : f t = some (oO 9 [.ref u, .int (nI tn)])) (h_u : f u = some (oI 16 g)) (ht : tn + 5 ≤ 16) : fx_M G base l yX5_askSize cX5_askSize 3 (some .int) rm_X5_askSize [.ref o, .ref t] f sz (some (.int (wi + ((nn + ag) - nI 1000)))) (fx_up (fx_up f u (oI 16 (upd (upd (upd (upd (upd g tn (nI 11)) (tn + 1) (nI 10)) (tn + 2) (nI 22)) (tn + 3) (nI 21)) (tn + 4) (nI 20)))) t (oO 9 [.ref u, .int (nI (tn + 5))])) sz := by
  refine fx_of (by decide +kernel) (Nat.le_of_ble_eq_true rfl) ?_
  intro p e s m args below meth c C hr hk hnm hH ls hl
  obtain ⟨locs, hlocs⟩ : ∃ L : List Loc, L = [] := ⟨_, rfl⟩
  rw [← hlocs] at hH ⊢
  generalize s.heap = H at hH ⊢
  have hx := C.1
  have hb := C.2.1
  have hl : lv_has ls 3 [(0, .ref o), (1, .ref t)] := hl
  refine lv_aload_n hx hb dX5_askSize_0 rfl (lv_at hl 1 rfl) ?_
  refine lv_bipush (v := nI 11) hx hb dX5_askSize_1 (by decide) ?_
  refine fx_go0 hH (fx_runV C hH hl.1 (As := [.int (nI 11)]) (rest := []) (c_X10_leave (G := G) (base := base) (l := l) (f := f) (sz := sz) (t := t) (b := nI 11) (u := u) (n := tn) (g := g) h_t h_u (by omega)) mY_X10_leave ml_X5_26 im_X10_leave se_X10_X10_leave h_t rfl rfl ⟨(Nat.le_of_ble_eq_true rfl), (Nat.le_of_ble_eq_true rfl)⟩ rfl (Nat.le_of_ble_eq_true rfl) ⟨(Nat.le_of_ble_eq_true rfl), (Nat.le_of_ble_eq_true rfl)⟩ dX5_askSize_3) (fun H locs hH => ?_)
  have hH : fx_H G base s (fx_up (fx_up f u (oI 16 (upd g tn (nI 11)))) t (oO 9 [.ref u, .int (nI (tn + 1))])) sz H locs := hH
  have h1_o : (fx_up f u (oI 16 (upd g tn (nI 11)))) o = some (oO 1 [.int nn, .int wi, .int ag]) := (fx_up_n _ _ (fx_ne h_o h_u rfl)).trans h_o
  have h1_t : (fx_up f u (oI 16 (upd g tn (nI 11)))) t = some (oO 9 [.ref u, .int (nI tn)]) := (fx_up_n _ _ (fx_ne h_t h_u rfl)).trans h_t
  have h1_u : (fx_up f u (oI 16 (upd g tn (nI 11)))) u = some (oI 16 (upd g tn (nI 11))) := fx_up_s _ _ _
  have h2_o : (fx_up (fx_up f u (oI 16 (upd g tn (nI 11)))) t (oO 9 [.ref u, .int (nI (tn + 1))])) o = some (oO 1 [.int nn, .int wi, .int ag]) := (fx_up_n _ _ (fx_ne h1_o h1_t rfl)).trans h1_o
  have h2_u : (fx_up (fx_up f u (oI 16 (upd g tn (nI 11)))) t (oO 9 [.ref u, .int (nI (tn + 1))])) u = some (oI 16 (upd g tn (nI 11))) := (fx_up_n _ _ (fx_ne h1_u h1_t rfl)).trans h1_u
  have h2_t : (fx_up (fx_up f u (oI 16 (upd g tn (nI 11)))) t (oO 9 [.ref u, .int (nI (tn + 1))])) t = some (oO 9 [.ref u, .int (nI (tn + 1))]) := fx_up_s _ _ _
  have hH : fx_H G base s (fx_up (fx_up f u (oI 16 (upd g tn (nI 11)))) t (oO 9 [.ref u, .int (nI (tn + 1))])) sz H locs := hH
  refine lv_aload_n hx hb dX5_askSize_6 rfl (lv_at hl 0 rfl) ?_
  refine lv_aload_n hx hb dX5_askSize_7 rfl (lv_at hl 1 rfl) ?_
  refine fx_go1 hH (fx_runSU C hH hl.1 (As := [.ref t]) (rest := []) (c_X7_askSize_Lamp (G := G) (base := base) (l := l) (f := fx_up (fx_up f u (oI 16 (upd g tn (nI 11)))) t (oO 9 [.ref u, .int (nI (tn + 1))])) (sz := sz) (o := o) (t := t) (nn := nn) (wi := wi) (ag := ag) (u := u) (tn := (tn + 1)) (g := (upd g tn (nI 11))) h2_o h2_t h2_u (by omega)) mY_X7_askSize ml_X5_32 sm_X7_askSize_X7 su_X5_X7 im_X7_askSize (by decide +kernel) h2_o rfl rfl ⟨(Nat.le_of_ble_eq_true rfl), (Nat.le_of_ble_eq_true rfl)⟩ rfl (Nat.le_of_ble_eq_true rfl) ⟨(Nat.le_of_ble_eq_true rfl), (Nat.le_of_ble_eq_true rfl)⟩ dX5_askSize_8) (fun H locs hH => ?_)
  have hH : fx_H G base s (fx_up (fx_up (fx_up (fx_up f u (oI 16 (upd g tn (nI 11)))) t (oO 9 [.ref u, .int (nI (tn + 1))])) u (oI 16 (upd (upd g tn (nI 11)) (tn + 1) (nI 10)))) t (oO 9 [.ref u, .int (nI ((tn + 1) + 1))])) sz H locs := hH
  have heq3 : fx_up (fx_up (fx_up f u (oI 16 (upd g tn (nI 11)))) t (oO 9 [.ref u, .int (nI (tn + 1))])) u (oI 16 (upd (upd g tn (nI 11)) (tn + 1) (nI 10))) = fx_up (fx_up f u (oI 16 (upd (upd g tn (nI 11)) (tn + 1) (nI 10)))) t (oO 9 [.ref u, .int (nI (tn + 1))]) := by rw [fx_up_c _ _ _ (fx_ne h2_t h2_u rfl), fx_up_up]
  rw [heq3] at hH
  have h3_o : (fx_up (fx_up f u (oI 16 (upd (upd g tn (nI 11)) (tn + 1) (nI 10)))) t (oO 9 [.ref u, .int (nI (tn + 1))])) o = some (oO 1 [.int nn, .int wi, .int ag]) := (congrFun heq3 o).symm.trans ((fx_up_n _ _ (fx_ne h2_o h2_u rfl)).trans h2_o)
  have h3_t : (fx_up (fx_up f u (oI 16 (upd (upd g tn (nI 11)) (tn + 1) (nI 10)))) t (oO 9 [.ref u, .int (nI (tn + 1))])) t = some (oO 9 [.ref u, .int (nI (tn + 1))]) := (congrFun heq3 t).symm.trans ((fx_up_n _ _ (fx_ne h2_t h2_u rfl)).trans h2_t)
  have h3_u : (fx_up (fx_up f u (oI 16 (upd (upd g tn (nI 11)) (tn + 1) (nI 10)))) t (oO 9 [.ref u, .int (nI (tn + 1))])) u = some (oI 16 (upd (upd g tn (nI 11)) (tn + 1) (nI 10))) := (congrFun heq3 u).symm.trans (fx_up_s _ _ _)
  have heq4 : fx_up (fx_up (fx_up f u (oI 16 (upd (upd g tn (nI 11)) (tn + 1) (nI 10)))) t (oO 9 [.ref u, .int (nI (tn + 1))])) t (oO 9 [.ref u, .int (nI ((tn + 1) + 1))]) = fx_up (fx_up f u (oI 16 (upd (upd g tn (nI 11)) (tn + 1) (nI 10)))) t (oO 9 [.ref u, .int (nI ((tn + 1) + 1))]) := by rw [fx_up_up]
  rw [heq4] at hH
  have h4_o : (fx_up (fx_up f u (oI 16 (upd (upd g tn (nI 11)) (tn + 1) (nI 10)))) t (oO 9 [.ref u, .int (nI ((tn + 1) + 1))])) o = some (oO 1 [.int nn, .int wi, .int ag]) := (congrFun heq4 o).symm.trans ((fx_up_n _ _ (fx_ne h3_o h3_t rfl)).trans h3_o)
  have h4_u : (fx_up (fx_up f u (oI 16 (upd (upd g tn (nI 11)) (tn + 1) (nI 10)))) t (oO 9 [.ref u, .int (nI ((tn + 1) + 1))])) u = some (oI 16 (upd (upd g tn (nI 11)) (tn + 1) (nI 10))) := (congrFun heq4 u).symm.trans ((fx_up_n _ _ (fx_ne h3_u h3_t rfl)).trans h3_u)
  have h4_t : (fx_up (fx_up f u (oI 16 (upd (upd g tn (nI 11)) (tn + 1) (nI 10)))) t (oO 9 [.ref u, .int (nI ((tn + 1) + 1))])) t = some (oO 9 [.ref u, .int (nI ((tn + 1) + 1))]) := (congrFun heq4 t).symm.trans (fx_up_s _ _ _)
  have hH : fx_H G base s (fx_up (fx_up f u (oI 16 (upd (upd g tn (nI 11)) (tn + 1) (nI 10)))) t (oO 9 [.ref u, .int (nI ((tn + 1) + 1))])) sz H locs := hH
  refine lv_istore_n (lv' := [(2, .int wi), (0, .ref o), (1, .ref t)]) hx hb dX5_askSize_11 rfl hl (by decide) rfl (fun ls hl => ?_)
  refine lv_iload_n hx hb dX5_askSize_12 rfl (lv_at hl 0 rfl) ?_
  refine lv_aload_n hx hb dX5_askSize_13 rfl (lv_at hl 1 rfl) ?_
  refine lv_aload_n hx hb dX5_askSize_14 rfl (lv_at hl 2 rfl) ?_
  refine fx_go1 hH (fx_runU C hH hl.1 (As := [.ref t]) (rest := [.int wi]) (owner := RX5) (c_X1_askMark (G := G) (base := base) (l := l) (f := fx_up (fx_up f u (oI 16 (upd (upd g tn (nI 11)) (tn + 1) (nI 10)))) t (oO 9 [.ref u, .int (nI ((tn + 1) + 1))])) (sz := sz) (o := o) (t := t) (nn := nn) (wi := wi) (ag := ag) (u := u) (tn := ((tn + 1) + 1)) (g := (upd (upd g tn (nI 11)) (tn + 1) (nI 10))) h4_o h4_t h4_u (by omega)) mY_X1_askMark ml_X5_36 sm_X5_askMark_X5 (Or.inr ⟨im_X5_askMark, _, _, _, cd_X5_askMark⟩) (by decide +kernel) rfl se_X1_X5_askMark_X1_askMark im_X1_askMark h4_o rfl rfl ⟨(Nat.le_of_ble_eq_true rfl), (Nat.le_of_ble_eq_true rfl)⟩ rfl (Nat.le_of_ble_eq_true rfl) ⟨(Nat.le_of_ble_eq_true rfl), (Nat.le_of_ble_eq_true rfl)⟩ dX5_askSize_15) (fun H locs hH => ?_)
  have hH : fx_H G base s (fx_up (fx_up (fx_up (fx_up f u (oI 16 (upd (upd g tn (nI 11)) (tn + 1) (nI 10)))) t (oO 9 [.ref u, .int (nI ((tn + 1) + 1))])) u (oI 16 (upd (upd (upd (upd (upd g tn (nI 11)) (tn + 1) (nI 10)) ((tn + 1) + 1) (nI 22)) (((tn + 1) + 1) + 1) (nI 21)) (((tn + 1) + 1) + 2) (nI 20)))) t (oO 9 [.ref u, .int (nI (((tn + 1) + 1) + 3))])) sz H locs := hH
  have heq5 : fx_up (fx_up (fx_up f u (oI 16 (upd (upd g tn (nI 11)) (tn + 1) (nI 10)))) t (oO 9 [.ref u, .int (nI ((tn + 1) + 1))])) u (oI 16 (upd (upd (upd (upd (upd g tn (nI 11)) (tn + 1) (nI 10)) ((tn + 1) + 1) (nI 22)) (((tn + 1) + 1) + 1) (nI 21)) (((tn + 1) + 1) + 2) (nI 20))) = fx_up (fx_up f u (oI 16 (upd (upd (upd (upd (upd g tn (nI 11)) (tn + 1) (nI 10)) ((tn + 1) + 1) (nI 22)) (((tn + 1) + 1) + 1) (nI 21)) (((tn + 1) + 1) + 2) (nI 20)))) t (oO 9 [.ref u, .int (nI ((tn + 1) + 1))]) := by rw [fx_up_c _ _ _ (fx_ne h4_t h4_u rfl), fx_up_up]
  rw [heq5] at hH
  have h5_o : (fx_up (fx_up f u (oI 16 (upd (upd (upd (upd (upd g tn (nI 11)) (tn + 1) (nI 10)) ((tn + 1) + 1) (nI 22)) (((tn + 1) + 1) + 1) (nI 21)) (((tn + 1) + 1) + 2) (nI 20)))) t (oO 9 [.ref u, .int (nI ((tn + 1) + 1))])) o = some (oO 1 [.int nn, .int wi, .int ag]) := (congrFun heq5 o).symm.trans ((fx_up_n _ _ (fx_ne h4_o h4_u rfl)).trans h4_o)
  have h5_t : (fx_up (fx_up f u (oI 16 (upd (upd (upd (upd (upd g tn (nI 11)) (tn + 1) (nI 10)) ((tn + 1) + 1) (nI 22)) (((tn + 1) + 1) + 1) (nI 21)) (((tn + 1) + 1) + 2) (nI 20)))) t (oO 9 [.ref u, .int (nI ((tn + 1) + 1))])) t = some (oO 9 [.ref u, .int (nI ((tn + 1) + 1))]) := (congrFun heq5 t).symm.trans ((fx_up_n _ _ (fx_ne h4_t h4_u rfl)).trans h4_t)
  have h5_u : (fx_up (fx_up f u (oI 16 (upd (upd (upd (upd (upd g tn (nI 11)) (tn + 1) (nI 10)) ((tn + 1) + 1) (nI 22)) (((tn + 1) + 1) + 1) (nI 21)) (((tn + 1) + 1) + 2) (nI 20)))) t (oO 9 [.ref u, .int (nI ((tn + 1) + 1))])) u = some (oI 16 (upd (upd (upd (upd (upd g tn (nI 11)) (tn + 1) (nI 10)) ((tn + 1) + 1) (nI 22)) (((tn + 1) + 1) + 1) (nI 21)) (((tn + 1) + 1) + 2) (nI 20))) := (congrFun heq5 u).symm.trans (fx_up_s _ _ _)
  have heq6 : fx_up (fx_up (fx_up f u (oI 16 (upd (upd (upd (upd (upd g tn (nI 11)) (tn + 1) (nI 10)) ((tn + 1) + 1) (nI 22)) (((tn + 1) + 1) + 1) (nI 21)) (((tn + 1) + 1) + 2) (nI 20)))) t (oO 9 [.ref u, .int (nI ((tn + 1) + 1))])) t (oO 9 [.ref u, .int (nI (((tn + 1) + 1) + 3))]) = fx_up (fx_up f u (oI 16 (upd (upd (upd (upd (upd g tn (nI 11)) (tn + 1) (nI 10)) ((tn + 1) + 1) (nI 22)) (((tn + 1) + 1) + 1) (nI 21)) (((tn + 1) + 1) + 2) (nI 20)))) t (oO 9 [.ref u, .int (nI (((tn + 1) + 1) + 3))]) := by rw [fx_up_up]
  rw [heq6] at hH
  have h6_o : (fx_up (fx_up f u (oI 16 (upd (upd (upd (upd (upd g tn (nI 11)) (tn + 1) (nI 10)) ((tn + 1) + 1) (nI 22)) (((tn + 1) + 1) + 1) (nI 21)) (((tn + 1) + 1) + 2) (nI 20)))) t (oO 9 [.ref u, .int (nI (((tn + 1) + 1) + 3))])) o = some (oO 1 [.int nn, .int wi, .int ag]) := (congrFun heq6 o).symm.trans ((fx_up_n _ _ (fx_ne h5_o h5_t rfl)).trans h5_o)
  have h6_u : (fx_up (fx_up f u (oI 16 (upd (upd (upd (upd (upd g tn (nI 11)) (tn + 1) (nI 10)) ((tn + 1) + 1) (nI 22)) (((tn + 1) + 1) + 1) (nI 21)) (((tn + 1) + 1) + 2) (nI 20)))) t (oO 9 [.ref u, .int (nI (((tn + 1) + 1) + 3))])) u = some (oI 16 (upd (upd (upd (upd (upd g tn (nI 11)) (tn + 1) (nI 10)) ((tn + 1) + 1) (nI 22)) (((tn + 1) + 1) + 1) (nI 21)) (((tn + 1) + 1) + 2) (nI 20))) := (congrFun heq6 u).symm.trans ((fx_up_n _ _ (fx_ne h5_u h5_t rfl)).trans h5_u)
  have h6_t : (fx_up (fx_up f u (oI 16 (upd (upd (upd (upd (upd g tn (nI 11)) (tn + 1) (nI 10)) ((tn + 1) + 1) (nI 22)) (((tn + 1) + 1) + 1) (nI 21)) (((tn + 1) + 1) + 2) (nI 20)))) t (oO 9 [.ref u, .int (nI (((tn + 1) + 1) + 3))])) t = some (oO 9 [.ref u, .int (nI (((tn + 1) + 1) + 3))]) := (congrFun heq6 t).symm.trans (fx_up_s _ _ _)
  have hH : fx_H G base s (fx_up (fx_up f u (oI 16 (upd (upd (upd (upd (upd g tn (nI 11)) (tn + 1) (nI 10)) ((tn + 1) + 1) (nI 22)) (((tn + 1) + 1) + 1) (nI 21)) (((tn + 1) + 1) + 2) (nI 20)))) t (oO 9 [.ref u, .int (nI (((tn + 1) + 1) + 3))])) sz H locs := hH
  refine lv_iadd hx hb dX5_askSize_18 ?_
  exact fx_iret C hr hk hH rfl rfl rfl (Nat.zero_le _) (Nat.zero_le _) dX5_askSize_19
abbrev rm_X0_askSize : Room := { frames := 5, cells := 0, slots := 0, locals := 106 }
set_option maxHeartbeats 4000000 in
set_option maxRecDepth 100000 in
theorem c_X0_askSize {G : GG} {base : Nat} {l : Launch} {f : Hp} {sz : Nat} {o : Nat} {t : Nat} {nn : Int32} {wi : Int32} {ag : Int32} {u : Nat} {tn : Nat} {g : Nat → Int32} (h_o : f o = some (oO 0 [.int nn, .int wi, .int ag])) (h_t : f t = some (oO 9 [.ref u, .int (nI tn)])) (h_u : f u = some (oI 16 g)) (ht : tn + 6 ≤ 16) : fx_M G base l yX0_askSize cX0_askSize 2 (some .int) rm_X0_askSize [.ref o, .ref t] f sz (some (.int (-(wi + (nI 2 * (nn + ag)))))) (fx_up (fx_up f u (oI 16 (upd (upd (upd (upd (upd (upd g tn (nI 12)) (tn + 1) (nI 11)) (tn + 2) (nI 10)) (tn + 3) (nI 24)) (tn + 4) (nI 21)) (tn + 5) (nI 20)))) t (oO 9 [.ref u, .int (nI (tn + 6))])) sz := by
  refine fx_of (by decide +kernel) (Nat.le_of_ble_eq_true rfl) ?_
  intro p e s m args below meth c C hr hk hnm hH ls hl
  obtain ⟨locs, hlocs⟩ : ∃ L : List Loc, L = [] := ⟨_, rfl⟩
  rw [← hlocs] at hH ⊢
  generalize s.heap = H at hH ⊢
  have hx := C.1
  have hb := C.2.1
  have hl : lv_has ls 2 [(0, .ref o), (1, .ref t)] := hl
  refine lv_aload_n hx hb dX0_askSize_0 rfl (lv_at hl 1 rfl) ?_
  refine lv_bipush (v := nI 12) hx hb dX0_askSize_1 (by decide) ?_
  refine fx_go0 hH (fx_runV C hH hl.1 (As := [.int (nI 12)]) (rest := []) (c_X10_leave (G := G) (base := base) (l := l) (f := f) (sz := sz) (t := t) (b := nI 12) (u := u) (n := tn) (g := g) h_t h_u (by omega)) mY_X10_leave ml_X0_33 im_X10_leave se_X10_X10_leave h_t rfl rfl ⟨(Nat.le_of_ble_eq_true rfl), (Nat.le_of_ble_eq_true rfl)⟩ rfl (Nat.le_of_ble_eq_true rfl) ⟨(Nat.le_of_ble_eq_true rfl), (Nat.le_of_ble_eq_true rfl)⟩ dX0_askSize_3) (fun H locs hH => ?_)
  have hH : fx_H G base s (fx_up (fx_up f u (oI 16 (upd g tn (nI 12)))) t (oO 9 [.ref u, .int (nI (tn + 1))])) sz H locs := hH
  have h1_o : (fx_up f u (oI 16 (upd g tn (nI 12)))) o = some (oO 0 [.int nn, .int wi, .int ag]) := (fx_up_n _ _ (fx_ne h_o h_u rfl)).trans h_o
  have h1_t : (fx_up f u (oI 16 (upd g tn (nI 12)))) t = some (oO 9 [.ref u, .int (nI tn)]) := (fx_up_n _ _ (fx_ne h_t h_u rfl)).trans h_t
  have h1_u : (fx_up f u (oI 16 (upd g tn (nI 12)))) u = some (oI 16 (upd g tn (nI 12))) := fx_up_s _ _ _
  have h2_o : (fx_up (fx_up f u (oI 16 (upd g tn (nI 12)))) t (oO 9 [.ref u, .int (nI (tn + 1))])) o = some (oO 0 [.int nn, .int wi, .int ag]) := (fx_up_n _ _ (fx_ne h1_o h1_t rfl)).trans h1_o
  have h2_u : (fx_up (fx_up f u (oI 16 (upd g tn (nI 12)))) t (oO 9 [.ref u, .int (nI (tn + 1))])) u = some (oI 16 (upd g tn (nI 12))) := (fx_up_n _ _ (fx_ne h1_u h1_t rfl)).trans h1_u
  have h2_t : (fx_up (fx_up f u (oI 16 (upd g tn (nI 12)))) t (oO 9 [.ref u, .int (nI (tn + 1))])) t = some (oO 9 [.ref u, .int (nI (tn + 1))]) := fx_up_s _ _ _
  have hH : fx_H G base s (fx_up (fx_up f u (oI 16 (upd g tn (nI 12)))) t (oO 9 [.ref u, .int (nI (tn + 1))])) sz H locs := hH
  refine lv_aload_n hx hb dX0_askSize_6 rfl (lv_at hl 0 rfl) ?_
  refine lv_aload_n hx hb dX0_askSize_7 rfl (lv_at hl 1 rfl) ?_
  refine fx_go1 hH (fx_runSU C hH hl.1 (As := [.ref t]) (rest := []) (c_X5_askSize_Back (G := G) (base := base) (l := l) (f := fx_up (fx_up f u (oI 16 (upd g tn (nI 12)))) t (oO 9 [.ref u, .int (nI (tn + 1))])) (sz := sz) (o := o) (t := t) (nn := nn) (wi := wi) (ag := ag) (u := u) (tn := (tn + 1)) (g := (upd g tn (nI 12))) h2_o h2_t h2_u (by omega)) mY_X5_askSize ml_X0_39 sm_X5_askSize_X5 su_X0_X5 im_X5_askSize (by decide +kernel) h2_o rfl rfl ⟨(Nat.le_of_ble_eq_true rfl), (Nat.le_of_ble_eq_true rfl)⟩ rfl (Nat.le_of_ble_eq_true rfl) ⟨(Nat.le_of_ble_eq_true rfl), (Nat.le_of_ble_eq_true rfl)⟩ dX0_askSize_8) (fun H locs hH => ?_)
  have hH : fx_H G base s (fx_up (fx_up (fx_up (fx_up f u (oI 16 (upd g tn (nI 12)))) t (oO 9 [.ref u, .int (nI (tn + 1))])) u (oI 16 (upd (upd (upd (upd (upd (upd g tn (nI 12)) (tn + 1) (nI 11)) ((tn + 1) + 1) (nI 10)) ((tn + 1) + 2) (nI 24)) ((tn + 1) + 3) (nI 21)) ((tn + 1) + 4) (nI 20)))) t (oO 9 [.ref u, .int (nI ((tn + 1) + 5))])) sz H locs := hH
  have heq3 : fx_up (fx_up (fx_up f u (oI 16 (upd g tn (nI 12)))) t (oO 9 [.ref u, .int (nI (tn + 1))])) u (oI 16 (upd (upd (upd (upd (upd (upd g tn (nI 12)) (tn + 1) (nI 11)) ((tn + 1) + 1) (nI 10)) ((tn + 1) + 2) (nI 24)) ((tn + 1) + 3) (nI 21)) ((tn + 1) + 4) (nI 20))) = fx_up (fx_up f u (oI 16 (upd (upd (upd (upd (upd (upd g tn (nI 12)) (tn + 1) (nI 11)) ((tn + 1) + 1) (nI 10)) ((tn + 1) + 2) (nI 24)) ((tn + 1) + 3) (nI 21)) ((tn + 1) + 4) (nI 20)))) t (oO 9 [.ref u, .int (nI (tn + 1))]) := by rw [fx_up_c _ _ _ (fx_ne h2_t h2_u rfl), fx_up_up]
  rw [heq3] at hH
  have h3_o : (fx_up (fx_up f u (oI 16 (upd (upd (upd (upd (upd (upd g tn (nI 12)) (tn + 1) (nI 11)) ((tn + 1) + 1) (nI 10)) ((tn + 1) + 2) (nI 24)) ((tn + 1) + 3) (nI 21)) ((tn + 1) + 4) (nI 20)))) t (oO 9 [.ref u, .int (nI (tn + 1))])) o = some (oO 0 [.int nn, .int wi, .int ag]) := (congrFun heq3 o).symm.trans ((fx_up_n _ _ (fx_ne h2_o h2_u rfl)).trans h2_o)
  have h3_t : (fx_up (fx_up f u (oI 16 (upd (upd (upd (upd (upd (upd g tn (nI 12)) (tn + 1) (nI 11)) ((tn + 1) + 1) (nI 10)) ((tn + 1) + 2) (nI 24)) ((tn + 1) + 3) (nI 21)) ((tn + 1) + 4) (nI 20)))) t (oO 9 [.ref u, .int (nI (tn + 1))])) t = some (oO 9 [.ref u, .int (nI (tn + 1))]) := (congrFun heq3 t).symm.trans ((fx_up_n _ _ (fx_ne h2_t h2_u rfl)).trans h2_t)
  have h3_u : (fx_up (fx_up f u (oI 16 (upd (upd (upd (upd (upd (upd g tn (nI 12)) (tn + 1) (nI 11)) ((tn + 1) + 1) (nI 10)) ((tn + 1) + 2) (nI 24)) ((tn + 1) + 3) (nI 21)) ((tn + 1) + 4) (nI 20)))) t (oO 9 [.ref u, .int (nI (tn + 1))])) u = some (oI 16 (upd (upd (upd (upd (upd (upd g tn (nI 12)) (tn + 1) (nI 11)) ((tn + 1) + 1) (nI 10)) ((tn + 1) + 2) (nI 24)) ((tn + 1) + 3) (nI 21)) ((tn + 1) + 4) (nI 20))) := (congrFun heq3 u).symm.trans (fx_up_s _ _ _)
  have heq4 : fx_up (fx_up (fx_up f u (oI 16 (upd (upd (upd (upd (upd (upd g tn (nI 12)) (tn + 1) (nI 11)) ((tn + 1) + 1) (nI 10)) ((tn + 1) + 2) (nI 24)) ((tn + 1) + 3) (nI 21)) ((tn + 1) + 4) (nI 20)))) t (oO 9 [.ref u, .int (nI (tn + 1))])) t (oO 9 [.ref u, .int (nI ((tn + 1) + 5))]) = fx_up (fx_up f u (oI 16 (upd (upd (upd (upd (upd (upd g tn (nI 12)) (tn + 1) (nI 11)) ((tn + 1) + 1) (nI 10)) ((tn + 1) + 2) (nI 24)) ((tn + 1) + 3) (nI 21)) ((tn + 1) + 4) (nI 20)))) t (oO 9 [.ref u, .int (nI ((tn + 1) + 5))]) := by rw [fx_up_up]
  rw [heq4] at hH
  have h4_o : (fx_up (fx_up f u (oI 16 (upd (upd (upd (upd (upd (upd g tn (nI 12)) (tn + 1) (nI 11)) ((tn + 1) + 1) (nI 10)) ((tn + 1) + 2) (nI 24)) ((tn + 1) + 3) (nI 21)) ((tn + 1) + 4) (nI 20)))) t (oO 9 [.ref u, .int (nI ((tn + 1) + 5))])) o = some (oO 0 [.int nn, .int wi, .int ag]) := (congrFun heq4 o).symm.trans ((fx_up_n _ _ (fx_ne h3_o h3_t rfl)).trans h3_o)
  have h4_u : (fx_up (fx_up f u (oI 16 (upd (upd (upd (upd (upd (upd g tn (nI 12)) (tn + 1) (nI 11)) ((tn + 1) + 1) (nI 10)) ((tn + 1) + 2) (nI 24)) ((tn + 1) + 3) (nI 21)) ((tn + 1) + 4) (nI 20)))) t (oO 9 [.ref u, .int (nI ((tn + 1) + 5))])) u = some (oI 16 (upd (upd (upd (upd (upd (upd g tn (nI 12)) (tn + 1) (nI 11)) ((tn + 1) + 1) (nI 10)) ((tn + 1) + 2) (nI 24)) ((tn + 1) + 3) (nI 21)) ((tn + 1) + 4) (nI 20))) := (congrFun heq4 u).symm.trans ((fx_up_n _ _ (fx_ne h3_u h3_t rfl)).trans h3_u)
  have h4_t : (fx_up (fx_up f u (oI 16 (upd (upd (upd (upd (upd (upd g tn (nI 12)) (tn + 1) (nI 11)) ((tn + 1) + 1) (nI 10)) ((tn + 1) + 2) (nI 24)) ((tn + 1) + 3) (nI 21)) ((tn + 1) + 4) (nI 20)))) t (oO 9 [.ref u, .int (nI ((tn + 1) + 5))])) t = some (oO 9 [.ref u, .int (nI ((tn + 1) + 5))]) := (congrFun heq4 t).symm.trans (fx_up_s _ _ _)
  have hH : fx_H G base s (fx_up (fx_up f u (oI 16 (upd (upd (upd (upd (upd (upd g tn (nI 12)) (tn + 1) (nI 11)) ((tn + 1) + 1) (nI 10)) ((tn + 1) + 2) (nI 24)) ((tn + 1) + 3) (nI 21)) ((tn + 1) + 4) (nI 20)))) t (oO 9 [.ref u, .int (nI ((tn + 1) + 5))])) sz H locs := hH
  refine lv_ineg hx hb dX0_askSize_11 ?_
  exact fx_iret C hr hk hH rfl rfl rfl (Nat.zero_le _) (Nat.zero_le _) dX0_askSize_12
abbrev rm_X3_askSize : Room := { frames := 2, cells := 0, slots := 0, locals := 42 }
set_option maxHeartbeats 4000000 in
set_option maxRecDepth 100000 in
theorem c_X3_askSize_Likeliest {G : GG} {base : Nat} {l : Launch} {f : Hp} {sz : Nat} {o : Nat} {t : Nat} {nn : Int32} {wi : Int32} {ag : Int32} {u : Nat} {tn : Nat} {g : Nat → Int32} (h_o : f o = some (oO 3 [.int nn, .int wi, .int ag])) (h_t : f t = some (oO 9 [.ref u, .int (nI tn)])) (h_u : f u = some (oI 16 g)) (ht : tn + 2 ≤ 16) : fx_M G base l yX3_askSize cX3_askSize 2 (some .int) rm_X3_askSize [.ref o, .ref t] f sz (some (.int (wi - nI 100))) (fx_up (fx_up f u (oI 16 (upd (upd g tn (nI 13)) (tn + 1) (nI 10)))) t (oO 9 [.ref u, .int (nI (tn + 2))])) sz := by
  refine fx_of (by decide +kernel) (Nat.le_of_ble_eq_true rfl) ?_
  intro p e s m args below meth c C hr hk hnm hH ls hl
  obtain ⟨locs, hlocs⟩ : ∃ L : List Loc, L = [] := ⟨_, rfl⟩
  rw [← hlocs] at hH ⊢
  generalize s.heap = H at hH ⊢
  have hx := C.1
  have hb := C.2.1
  have hl : lv_has ls 2 [(0, .ref o), (1, .ref t)] := hl
  refine lv_aload_n hx hb dX3_askSize_0 rfl (lv_at hl 1 rfl) ?_
  refine lv_bipush (v := nI 13) hx hb dX3_askSize_1 (by decide) ?_
  refine fx_go0 hH (fx_runV C hH hl.1 (As := [.int (nI 13)]) (rest := []) (c_X10_leave (G := G) (base := base) (l := l) (f := f) (sz := sz) (t := t) (b := nI 13) (u := u) (n := tn) (g := g) h_t h_u (by omega)) mY_X10_leave ml_X3_17 im_X10_leave se_X10_X10_leave h_t rfl rfl ⟨(Nat.le_of_ble_eq_true rfl), (Nat.le_of_ble_eq_true rfl)⟩ rfl (Nat.le_of_ble_eq_true rfl) ⟨(Nat.le_of_ble_eq_true rfl), (Nat.le_of_ble_eq_true rfl)⟩ dX3_askSize_3) (fun H locs hH => ?_)
  have hH : fx_H G base s (fx_up (fx_up f u (oI 16 (upd g tn (nI 13)))) t (oO 9 [.ref u, .int (nI (tn + 1))])) sz H locs := hH
  have h1_o : (fx_up f u (oI 16 (upd g tn (nI 13)))) o = some (oO 3 [.int nn, .int wi, .int ag]) := (fx_up_n _ _ (fx_ne h_o h_u rfl)).trans h_o
  have h1_t : (fx_up f u (oI 16 (upd g tn (nI 13)))) t = some (oO 9 [.ref u, .int (nI tn)]) := (fx_up_n _ _ (fx_ne h_t h_u rfl)).trans h_t
  have h1_u : (fx_up f u (oI 16 (upd g tn (nI 13)))) u = some (oI 16 (upd g tn (nI 13))) := fx_up_s _ _ _
  have h2_o : (fx_up (fx_up f u (oI 16 (upd g tn (nI 13)))) t (oO 9 [.ref u, .int (nI (tn + 1))])) o = some (oO 3 [.int nn, .int wi, .int ag]) := (fx_up_n _ _ (fx_ne h1_o h1_t rfl)).trans h1_o
  have h2_u : (fx_up (fx_up f u (oI 16 (upd g tn (nI 13)))) t (oO 9 [.ref u, .int (nI (tn + 1))])) u = some (oI 16 (upd g tn (nI 13))) := (fx_up_n _ _ (fx_ne h1_u h1_t rfl)).trans h1_u
  have h2_t : (fx_up (fx_up f u (oI 16 (upd g tn (nI 13)))) t (oO 9 [.ref u, .int (nI (tn + 1))])) t = some (oO 9 [.ref u, .int (nI (tn + 1))]) := fx_up_s _ _ _
  have hH : fx_H G base s (fx_up (fx_up f u (oI 16 (upd g tn (nI 13)))) t (oO 9 [.ref u, .int (nI (tn + 1))])) sz H locs := hH
  refine lv_aload_n hx hb dX3_askSize_6 rfl (lv_at hl 0 rfl) ?_
  refine lv_aload_n hx hb dX3_askSize_7 rfl (lv_at hl 1 rfl) ?_
  refine fx_go1 hH (fx_runSU C hH hl.1 (As := [.ref t]) (rest := []) (c_X7_askSize_Likeliest (G := G) (base := base) (l := l) (f := fx_up (fx_up f u (oI 16 (upd g tn (nI 13)))) t (oO 9 [.ref u, .int (nI (tn + 1))])) (sz := sz) (o := o) (t := t) (nn := nn) (wi := wi) (ag := ag) (u := u) (tn := (tn + 1)) (g := (upd g tn (nI 13))) h2_o h2_t h2_u (by omega)) mY_X7_askSize ml_X3_23 sm_X7_askSize_X7 su_X3_X7 im_X7_askSize (by decide +kernel) h2_o rfl rfl ⟨(Nat.le_of_ble_eq_true rfl), (Nat.le_of_ble_eq_true rfl)⟩ rfl (Nat.le_of_ble_eq_true rfl) ⟨(Nat.le_of_ble_eq_true rfl), (Nat.le_of_ble_eq_true rfl)⟩ dX3_askSize_8) (fun H locs hH => ?_)
  have hH : fx_H G base s (fx_up (fx_up (fx_up (fx_up f u (oI 16 (upd g tn (nI 13)))) t (oO 9 [.ref u, .int (nI (tn + 1))])) u (oI 16 (upd (upd g tn (nI 13)) (tn + 1) (nI 10)))) t (oO 9 [.ref u, .int (nI ((tn + 1) + 1))])) sz H locs := hH
  have heq3 : fx_up (fx_up (fx_up f u (oI 16 (upd g tn (nI 13)))) t (oO 9 [.ref u, .int (nI (tn + 1))])) u (oI 16 (upd (upd g tn (nI 13)) (tn + 1) (nI 10))) = fx_up (fx_up f u (oI 16 (upd (upd g tn (nI 13)) (tn + 1) (nI 10)))) t (oO 9 [.ref u, .int (nI (tn + 1))]) := by rw [fx_up_c _ _ _ (fx_ne h2_t h2_u rfl), fx_up_up]
  rw [heq3] at hH
  have h3_o : (fx_up (fx_up f u (oI 16 (upd (upd g tn (nI 13)) (tn + 1) (nI 10)))) t (oO 9 [.ref u, .int (nI (tn + 1))])) o = some (oO 3 [.int nn, .int wi, .int ag]) := (congrFun heq3 o).symm.trans ((fx_up_n _ _ (fx_ne h2_o h2_u rfl)).trans h2_o)
  have h3_t : (fx_up (fx_up f u (oI 16 (upd (upd g tn (nI 13)) (tn + 1) (nI 10)))) t (oO 9 [.ref u, .int (nI (tn + 1))])) t = some (oO 9 [.ref u, .int (nI (tn + 1))]) := (congrFun heq3 t).symm.trans ((fx_up_n _ _ (fx_ne h2_t h2_u rfl)).trans h2_t)
  have h3_u : (fx_up (fx_up f u (oI 16 (upd (upd g tn (nI 13)) (tn + 1) (nI 10)))) t (oO 9 [.ref u, .int (nI (tn + 1))])) u = some (oI 16 (upd (upd g tn (nI 13)) (tn + 1) (nI 10))) := (congrFun heq3 u).symm.trans (fx_up_s _ _ _)
  have heq4 : fx_up (fx_up (fx_up f u (oI 16 (upd (upd g tn (nI 13)) (tn + 1) (nI 10)))) t (oO 9 [.ref u, .int (nI (tn + 1))])) t (oO 9 [.ref u, .int (nI ((tn + 1) + 1))]) = fx_up (fx_up f u (oI 16 (upd (upd g tn (nI 13)) (tn + 1) (nI 10)))) t (oO 9 [.ref u, .int (nI ((tn + 1) + 1))]) := by rw [fx_up_up]
  rw [heq4] at hH
  have h4_o : (fx_up (fx_up f u (oI 16 (upd (upd g tn (nI 13)) (tn + 1) (nI 10)))) t (oO 9 [.ref u, .int (nI ((tn + 1) + 1))])) o = some (oO 3 [.int nn, .int wi, .int ag]) := (congrFun heq4 o).symm.trans ((fx_up_n _ _ (fx_ne h3_o h3_t rfl)).trans h3_o)
  have h4_u : (fx_up (fx_up f u (oI 16 (upd (upd g tn (nI 13)) (tn + 1) (nI 10)))) t (oO 9 [.ref u, .int (nI ((tn + 1) + 1))])) u = some (oI 16 (upd (upd g tn (nI 13)) (tn + 1) (nI 10))) := (congrFun heq4 u).symm.trans ((fx_up_n _ _ (fx_ne h3_u h3_t rfl)).trans h3_u)
  have h4_t : (fx_up (fx_up f u (oI 16 (upd (upd g tn (nI 13)) (tn + 1) (nI 10)))) t (oO 9 [.ref u, .int (nI ((tn + 1) + 1))])) t = some (oO 9 [.ref u, .int (nI ((tn + 1) + 1))]) := (congrFun heq4 t).symm.trans (fx_up_s _ _ _)
  have hH : fx_H G base s (fx_up (fx_up f u (oI 16 (upd (upd g tn (nI 13)) (tn + 1) (nI 10)))) t (oO 9 [.ref u, .int (nI ((tn + 1) + 1))])) sz H locs := hH
  refine lv_bipush (v := nI 100) hx hb dX3_askSize_11 (by decide) ?_
  refine lv_isub hx hb dX3_askSize_13 ?_
  exact fx_iret C hr hk hH (by first | rfl | (simp [bI, *]; done) | ((repeat (first | rw [if_pos (by assumption)] | rw [if_neg (by assumption)])); done) | (unfold bI; grind)) rfl rfl (Nat.zero_le _) (Nat.zero_le _) dX3_askSize_14
set_option maxHeartbeats 4000000 in
set_option maxRecDepth 100000 in
theorem c_X3_askSize_Tabs {G : GG} {base : Nat} {l : Launch} {f : Hp} {sz : Nat} {o : Nat} {t : Nat} {nn : Int32} {wi : Int32} {ag : Int32} {u : Nat} {tn : Nat} {g : Nat → Int32} (h_o : f o = some (oO 7 [.int nn, .int wi, .int ag])) (h_t : f t = some (oO 9 [.ref u, .int (nI tn)])) (h_u : f u = some (oI 16 g)) (ht : tn + 2 ≤ 16) : fx_M G base l yX3_askSize cX3_askSize 2 (some .int) rm_X3_askSize [.ref o, .ref t] f sz (some (.int (wi - nI 100))) (fx_up (fx_up f u (oI 16 (upd (upd g tn (nI 13)) (tn + 1) (nI 10)))) t (oO 9 [.ref u, .int (nI (tn + 2))])) sz := by
  refine fx_of (by decide +kernel) (Nat.le_of_ble_eq_true rfl) ?_
  intro p e s m args below meth c C hr hk hnm hH ls hl
  obtain ⟨locs, hlocs⟩ : ∃ L : List Loc, L = [] := ⟨_, rfl⟩
  rw [← hlocs] at hH ⊢
  generalize s.heap = H at hH ⊢
  have hx := C.1
  have hb := C.2.1
  have hl : lv_has ls 2 [(0, .ref o), (1, .ref t)] := hl
  refine lv_aload_n hx hb dX3_askSize_0 rfl (lv_at hl 1 rfl) ?_
  refine lv_bipush (v := nI 13) hx hb dX3_askSize_1 (by decide) ?_
  refine fx_go0 hH (fx_runV C hH hl.1 (As := [.int (nI 13)]) (rest := []) (c_X10_leave (G := G) (base := base) (l := l) (f := f) (sz := sz) (t := t) (b := nI 13) (u := u) (n := tn) (g := g) h_t h_u (by omega)) mY_X10_leave ml_X3_17 im_X10_leave se_X10_X10_leave h_t rfl rfl ⟨(Nat.le_of_ble_eq_true rfl), (Nat.le_of_ble_eq_true rfl)⟩ rfl (Nat.le_of_ble_eq_true rfl) ⟨(Nat.le_of_ble_eq_true rfl), (Nat.le_of_ble_eq_true rfl)⟩ dX3_askSize_3) (fun H locs hH => ?_)
  have hH : fx_H G base s (fx_up (fx_up f u (oI 16 (upd g tn (nI 13)))) t (oO 9 [.ref u, .int (nI (tn + 1))])) sz H locs := hH
  have h1_o : (fx_up f u (oI 16 (upd g tn (nI 13)))) o = some (oO 7 [.int nn, .int wi, .int ag]) := (fx_up_n _ _ (fx_ne h_o h_u rfl)).trans h_o
  have h1_t : (fx_up f u (oI 16 (upd g tn (nI 13)))) t = some (oO 9 [.ref u, .int (nI tn)]) := (fx_up_n _ _ (fx_ne h_t h_u rfl)).trans h_t
  have h1_u : (fx_up f u (oI 16 (upd g tn (nI 13)))) u = some (oI 16 (upd g tn (nI 13))) := fx_up_s _ _ _
  have h2_o : (fx_up (fx_up f u (oI 16 (upd g tn (nI 13)))) t (oO 9 [.ref u, .int (nI (tn + 1))])) o = some (oO 7 [.int nn, .int wi, .int ag]) := (fx_up_n _ _ (fx_ne h1_o h1_t rfl)).trans h1_o
  have h2_u : (fx_up (fx_up f u (oI 16 (upd g tn (nI 13)))) t (oO 9 [.ref u, .int (nI (tn + 1))])) u = some (oI 16 (upd g tn (nI 13))) := (fx_up_n _ _ (fx_ne h1_u h1_t rfl)).trans h1_u
  have h2_t : (fx_up (fx_up f u (oI 16 (upd g tn (nI 13)))) t (oO 9 [.ref u, .int (nI (tn + 1))])) t = some (oO 9 [.ref u, .int (nI (tn + 1))]) := fx_up_s _ _ _
  have hH : fx_H G base s (fx_up (fx_up f u (oI 16 (upd g tn (nI 13)))) t (oO 9 [.ref u, .int (nI (tn + 1))])) sz H locs := hH
  refine lv_aload_n hx hb dX3_askSize_6 rfl (lv_at hl 0 rfl) ?_
  refine lv_aload_n hx hb dX3_askSize_7 rfl (lv_at hl 1 rfl) ?_
  refine fx_go1 hH (fx_runSU C hH hl.1 (As := [.ref t]) (rest := []) (c_X7_askSize_Tabs (G := G) (base := base) (l := l) (f := fx_up (fx_up f u (oI 16 (upd g tn (nI 13)))) t (oO 9 [.ref u, .int (nI (tn + 1))])) (sz := sz) (o := o) (t := t) (nn := nn) (wi := wi) (ag := ag) (u := u) (tn := (tn + 1)) (g := (upd g tn (nI 13))) h2_o h2_t h2_u (by omega)) mY_X7_askSize ml_X3_23 sm_X7_askSize_X7 su_X3_X7 im_X7_askSize (by decide +kernel) h2_o rfl rfl ⟨(Nat.le_of_ble_eq_true rfl), (Nat.le_of_ble_eq_true rfl)⟩ rfl (Nat.le_of_ble_eq_true rfl) ⟨(Nat.le_of_ble_eq_true rfl), (Nat.le_of_ble_eq_true rfl)⟩ dX3_askSize_8) (fun H locs hH => ?_)
  have hH : fx_H G base s (fx_up (fx_up (fx_up (fx_up f u (oI 16 (upd g tn (nI 13)))) t (oO 9 [.ref u, .int (nI (tn + 1))])) u (oI 16 (upd (upd g tn (nI 13)) (tn + 1) (nI 10)))) t (oO 9 [.ref u, .int (nI ((tn + 1) + 1))])) sz H locs := hH
  have heq3 : fx_up (fx_up (fx_up f u (oI 16 (upd g tn (nI 13)))) t (oO 9 [.ref u, .int (nI (tn + 1))])) u (oI 16 (upd (upd g tn (nI 13)) (tn + 1) (nI 10))) = fx_up (fx_up f u (oI 16 (upd (upd g tn (nI 13)) (tn + 1) (nI 10)))) t (oO 9 [.ref u, .int (nI (tn + 1))]) := by rw [fx_up_c _ _ _ (fx_ne h2_t h2_u rfl), fx_up_up]
  rw [heq3] at hH
  have h3_o : (fx_up (fx_up f u (oI 16 (upd (upd g tn (nI 13)) (tn + 1) (nI 10)))) t (oO 9 [.ref u, .int (nI (tn + 1))])) o = some (oO 7 [.int nn, .int wi, .int ag]) := (congrFun heq3 o).symm.trans ((fx_up_n _ _ (fx_ne h2_o h2_u rfl)).trans h2_o)
  have h3_t : (fx_up (fx_up f u (oI 16 (upd (upd g tn (nI 13)) (tn + 1) (nI 10)))) t (oO 9 [.ref u, .int (nI (tn + 1))])) t = some (oO 9 [.ref u, .int (nI (tn + 1))]) := (congrFun heq3 t).symm.trans ((fx_up_n _ _ (fx_ne h2_t h2_u rfl)).trans h2_t)
  have h3_u : (fx_up (fx_up f u (oI 16 (upd (upd g tn (nI 13)) (tn + 1) (nI 10)))) t (oO 9 [.ref u, .int (nI (tn + 1))])) u = some (oI 16 (upd (upd g tn (nI 13)) (tn + 1) (nI 10))) := (congrFun heq3 u).symm.trans (fx_up_s _ _ _)
  have heq4 : fx_up (fx_up (fx_up f u (oI 16 (upd (upd g tn (nI 13)) (tn + 1) (nI 10)))) t (oO 9 [.ref u, .int (nI (tn + 1))])) t (oO 9 [.ref u, .int (nI ((tn + 1) + 1))]) = fx_up (fx_up f u (oI 16 (upd (upd g tn (nI 13)) (tn + 1) (nI 10)))) t (oO 9 [.ref u, .int (nI ((tn + 1) + 1))]) := by rw [fx_up_up]
  rw [heq4] at hH
  have h4_o : (fx_up (fx_up f u (oI 16 (upd (upd g tn (nI 13)) (tn + 1) (nI 10)))) t (oO 9 [.ref u, .int (nI ((tn + 1) + 1))])) o = some (oO 7 [.int nn, .int wi, .int ag]) := (congrFun heq4 o).symm.trans ((fx_up_n _ _ (fx_ne h3_o h3_t rfl)).trans h3_o)
  have h4_u : (fx_up (fx_up f u (oI 16 (upd (upd g tn (nI 13)) (tn + 1) (nI 10)))) t (oO 9 [.ref u, .int (nI ((tn + 1) + 1))])) u = some (oI 16 (upd (upd g tn (nI 13)) (tn + 1) (nI 10))) := (congrFun heq4 u).symm.trans ((fx_up_n _ _ (fx_ne h3_u h3_t rfl)).trans h3_u)
  have h4_t : (fx_up (fx_up f u (oI 16 (upd (upd g tn (nI 13)) (tn + 1) (nI 10)))) t (oO 9 [.ref u, .int (nI ((tn + 1) + 1))])) t = some (oO 9 [.ref u, .int (nI ((tn + 1) + 1))]) := (congrFun heq4 t).symm.trans (fx_up_s _ _ _)
  have hH : fx_H G base s (fx_up (fx_up f u (oI 16 (upd (upd g tn (nI 13)) (tn + 1) (nI 10)))) t (oO 9 [.ref u, .int (nI ((tn + 1) + 1))])) sz H locs := hH
  refine lv_bipush (v := nI 100) hx hb dX3_askSize_11 (by decide) ?_
  refine lv_isub hx hb dX3_askSize_13 ?_
  exact fx_iret C hr hk hH (by first | rfl | (simp [bI, *]; done) | ((repeat (first | rw [if_pos (by assumption)] | rw [if_neg (by assumption)])); done) | (unfold bI; grind)) rfl rfl (Nat.zero_le _) (Nat.zero_le _) dX3_askSize_14
abbrev rm_X8_askSize : Room := { frames := 3, cells := 0, slots := 0, locals := 63 }
set_option maxHeartbeats 4000000 in
set_option maxRecDepth 100000 in
theorem c_X8_askSize {G : GG} {base : Nat} {l : Launch} {f : Hp} {sz : Nat} {o : Nat} {t : Nat} {nn : Int32} {wi : Int32} {ag : Int32} {u : Nat} {tn : Nat} {g : Nat → Int32} (h_o : f o = some (oO 7 [.int nn, .int wi, .int ag])) (h_t : f t = some (oO 9 [.ref u, .int (nI tn)])) (h_u : f u = some (oI 16 g)) (ht : tn + 3 ≤ 16) : fx_M G base l yX8_askSize cX8_askSize 2 (some .int) rm_X8_askSize [.ref o, .ref t] f sz (some (.int (nI 2 * (wi - nI 100)))) (fx_up (fx_up f u (oI 16 (upd (upd (upd g tn (nI 14)) (tn + 1) (nI 13)) (tn + 2) (nI 10)))) t (oO 9 [.ref u, .int (nI (tn + 3))])) sz := by
  refine fx_of (by decide +kernel) (Nat.le_of_ble_eq_true rfl) ?_
  intro p e s m args below meth c C hr hk hnm hH ls hl
  obtain ⟨locs, hlocs⟩ : ∃ L : List Loc, L = [] := ⟨_, rfl⟩
  rw [← hlocs] at hH ⊢
  generalize s.heap = H at hH ⊢
  have hx := C.1
  have hb := C.2.1
  have hl : lv_has ls 2 [(0, .ref o), (1, .ref t)] := hl
  refine lv_aload_n hx hb dX8_askSize_0 rfl (lv_at hl 1 rfl) ?_
  refine lv_bipush (v := nI 14) hx hb dX8_askSize_1 (by decide) ?_
  refine fx_go0 hH (fx_runV C hH hl.1 (As := [.int (nI 14)]) (rest := []) (c_X10_leave (G := G) (base := base) (l := l) (f := f) (sz := sz) (t := t) (b := nI 14) (u := u) (n := tn) (g := g) h_t h_u (by omega)) mY_X10_leave ml_X8_23 im_X10_leave se_X10_X10_leave h_t rfl rfl ⟨(Nat.le_of_ble_eq_true rfl), (Nat.le_of_ble_eq_true rfl)⟩ rfl (Nat.le_of_ble_eq_true rfl) ⟨(Nat.le_of_ble_eq_true rfl), (Nat.le_of_ble_eq_true rfl)⟩ dX8_askSize_3) (fun H locs hH => ?_)
  have hH : fx_H G base s (fx_up (fx_up f u (oI 16 (upd g tn (nI 14)))) t (oO 9 [.ref u, .int (nI (tn + 1))])) sz H locs := hH
  have h1_o : (fx_up f u (oI 16 (upd g tn (nI 14)))) o = some (oO 7 [.int nn, .int wi, .int ag]) := (fx_up_n _ _ (fx_ne h_o h_u rfl)).trans h_o
  have h1_t : (fx_up f u (oI 16 (upd g tn (nI 14)))) t = some (oO 9 [.ref u, .int (nI tn)]) := (fx_up_n _ _ (fx_ne h_t h_u rfl)).trans h_t
  have h1_u : (fx_up f u (oI 16 (upd g tn (nI 14)))) u = some (oI 16 (upd g tn (nI 14))) := fx_up_s _ _ _
  have h2_o : (fx_up (fx_up f u (oI 16 (upd g tn (nI 14)))) t (oO 9 [.ref u, .int (nI (tn + 1))])) o = some (oO 7 [.int nn, .int wi, .int ag]) := (fx_up_n _ _ (fx_ne h1_o h1_t rfl)).trans h1_o
  have h2_u : (fx_up (fx_up f u (oI 16 (upd g tn (nI 14)))) t (oO 9 [.ref u, .int (nI (tn + 1))])) u = some (oI 16 (upd g tn (nI 14))) := (fx_up_n _ _ (fx_ne h1_u h1_t rfl)).trans h1_u
  have h2_t : (fx_up (fx_up f u (oI 16 (upd g tn (nI 14)))) t (oO 9 [.ref u, .int (nI (tn + 1))])) t = some (oO 9 [.ref u, .int (nI (tn + 1))]) := fx_up_s _ _ _
  have hH : fx_H G base s (fx_up (fx_up f u (oI 16 (upd g tn (nI 14)))) t (oO 9 [.ref u, .int (nI (tn + 1))])) sz H locs := hH
  refine lv_iconst (v := nI 2) hx hb dX8_askSize_6 (by decide) ?_
  refine lv_aload_n hx hb dX8_askSize_7 rfl (lv_at hl 0 rfl) ?_
  refine lv_aload_n hx hb dX8_askSize_8 rfl (lv_at hl 1 rfl) ?_
  refine fx_go1 hH (fx_runSU C hH hl.1 (As := [.ref t]) (rest := [.int (nI 2)]) (c_X3_askSize_Tabs (G := G) (base := base) (l := l) (f := fx_up (fx_up f u (oI 16 (upd g tn (nI 14)))) t (oO 9 [.ref u, .int (nI (tn + 1))])) (sz := sz) (o := o) (t := t) (nn := nn) (wi := wi) (ag := ag) (u := u) (tn := (tn + 1)) (g := (upd g tn (nI 14))) h2_o h2_t h2_u (by omega)) mY_X3_askSize ml_X8_29 sm_X3_askSize_X3 su_X8_X3 im_X3_askSize (by decide +kernel) h2_o rfl rfl ⟨(Nat.le_of_ble_eq_true rfl), (Nat.le_of_ble_eq_true rfl)⟩ rfl (Nat.le_of_ble_eq_true rfl) ⟨(Nat.le_of_ble_eq_true rfl), (Nat.le_of_ble_eq_true rfl)⟩ dX8_askSize_9) (fun H locs hH => ?_)
  have hH : fx_H G base s (fx_up (fx_up (fx_up (fx_up f u (oI 16 (upd g tn (nI 14)))) t (oO 9 [.ref u, .int (nI (tn + 1))])) u (oI 16 (upd (upd (upd g tn (nI 14)) (tn + 1) (nI 13)) ((tn + 1) + 1) (nI 10)))) t (oO 9 [.ref u, .int (nI ((tn + 1) + 2))])) sz H locs := hH
  have heq3 : fx_up (fx_up (fx_up f u (oI 16 (upd g tn (nI 14)))) t (oO 9 [.ref u, .int (nI (tn + 1))])) u (oI 16 (upd (upd (upd g tn (nI 14)) (tn + 1) (nI 13)) ((tn + 1) + 1) (nI 10))) = fx_up (fx_up f u (oI 16 (upd (upd (upd g tn (nI 14)) (tn + 1) (nI 13)) ((tn + 1) + 1) (nI 10)))) t (oO 9 [.ref u, .int (nI (tn + 1))]) := by rw [fx_up_c _ _ _ (fx_ne h2_t h2_u rfl), fx_up_up]
  rw [heq3] at hH
  have h3_o : (fx_up (fx_up f u (oI 16 (upd (upd (upd g tn (nI 14)) (tn + 1) (nI 13)) ((tn + 1) + 1) (nI 10)))) t (oO 9 [.ref u, .int (nI (tn + 1))])) o = some (oO 7 [.int nn, .int wi, .int ag]) := (congrFun heq3 o).symm.trans ((fx_up_n _ _ (fx_ne h2_o h2_u rfl)).trans h2_o)
  have h3_t : (fx_up (fx_up f u (oI 16 (upd (upd (upd g tn (nI 14)) (tn + 1) (nI 13)) ((tn + 1) + 1) (nI 10)))) t (oO 9 [.ref u, .int (nI (tn + 1))])) t = some (oO 9 [.ref u, .int (nI (tn + 1))]) := (congrFun heq3 t).symm.trans ((fx_up_n _ _ (fx_ne h2_t h2_u rfl)).trans h2_t)
  have h3_u : (fx_up (fx_up f u (oI 16 (upd (upd (upd g tn (nI 14)) (tn + 1) (nI 13)) ((tn + 1) + 1) (nI 10)))) t (oO 9 [.ref u, .int (nI (tn + 1))])) u = some (oI 16 (upd (upd (upd g tn (nI 14)) (tn + 1) (nI 13)) ((tn + 1) + 1) (nI 10))) := (congrFun heq3 u).symm.trans (fx_up_s _ _ _)
  have heq4 : fx_up (fx_up (fx_up f u (oI 16 (upd (upd (upd g tn (nI 14)) (tn + 1) (nI 13)) ((tn + 1) + 1) (nI 10)))) t (oO 9 [.ref u, .int (nI (tn + 1))])) t (oO 9 [.ref u, .int (nI ((tn + 1) + 2))]) = fx_up (fx_up f u (oI 16 (upd (upd (upd g tn (nI 14)) (tn + 1) (nI 13)) ((tn + 1) + 1) (nI 10)))) t (oO 9 [.ref u, .int (nI ((tn + 1) + 2))]) := by rw [fx_up_up]
  rw [heq4] at hH
  have h4_o : (fx_up (fx_up f u (oI 16 (upd (upd (upd g tn (nI 14)) (tn + 1) (nI 13)) ((tn + 1) + 1) (nI 10)))) t (oO 9 [.ref u, .int (nI ((tn + 1) + 2))])) o = some (oO 7 [.int nn, .int wi, .int ag]) := (congrFun heq4 o).symm.trans ((fx_up_n _ _ (fx_ne h3_o h3_t rfl)).trans h3_o)
  have h4_u : (fx_up (fx_up f u (oI 16 (upd (upd (upd g tn (nI 14)) (tn + 1) (nI 13)) ((tn + 1) + 1) (nI 10)))) t (oO 9 [.ref u, .int (nI ((tn + 1) + 2))])) u = some (oI 16 (upd (upd (upd g tn (nI 14)) (tn + 1) (nI 13)) ((tn + 1) + 1) (nI 10))) := (congrFun heq4 u).symm.trans ((fx_up_n _ _ (fx_ne h3_u h3_t rfl)).trans h3_u)
  have h4_t : (fx_up (fx_up f u (oI 16 (upd (upd (upd g tn (nI 14)) (tn + 1) (nI 13)) ((tn + 1) + 1) (nI 10)))) t (oO 9 [.ref u, .int (nI ((tn + 1) + 2))])) t = some (oO 9 [.ref u, .int (nI ((tn + 1) + 2))]) := (congrFun heq4 t).symm.trans (fx_up_s _ _ _)
  have hH : fx_H G base s (fx_up (fx_up f u (oI 16 (upd (upd (upd g tn (nI 14)) (tn + 1) (nI 13)) ((tn + 1) + 1) (nI 10)))) t (oO 9 [.ref u, .int (nI ((tn + 1) + 2))])) sz H locs := hH
  refine lv_imul hx hb dX8_askSize_12 ?_
  exact fx_iret C hr hk hH (by first | rfl | (simp [bI, *]; done) | ((repeat (first | rw [if_pos (by assumption)] | rw [if_neg (by assumption)])); done) | (unfold bI; grind)) rfl rfl (Nat.zero_le _) (Nat.zero_le _) dX8_askSize_13
abbrev rm_X3_askMark : Room := { frames := 4, cells := 0, slots := 0, locals := 84 }
set_option maxHeartbeats 4000000 in
set_option maxRecDepth 100000 in
theorem c_X3_askMark_Likeliest {G : GG} {base : Nat} {l : Launch} {f : Hp} {sz : Nat} {o : Nat} {t : Nat} {nn : Int32} {wi : Int32} {ag : Int32} {u : Nat} {tn : Nat} {g : Nat → Int32} (h_o : f o = some (oO 3 [.int nn, .int wi, .int ag])) (h_t : f t = some (oO 9 [.ref u, .int (nI tn)])) (h_u : f u = some (oI 16 g)) (ht : tn + 4 ≤ 16) : fx_M G base l yX3_askMark cX3_askMark 3 (some .int) rm_X3_askMark [.ref o, .ref t] f sz (some (.int (nn - (wi - nI 100)))) (fx_up (fx_up f u (oI 16 (upd (upd (upd (upd g tn (nI 23)) (tn + 1) (nI 20)) (tn + 2) (nI 13)) (tn + 3) (nI 10)))) t (oO 9 [.ref u, .int (nI (tn + 4))])) sz := by
  refine fx_of (by decide +kernel) (Nat.le_of_ble_eq_true rfl) ?_
  intro p e s m args below meth c C hr hk hnm hH ls hl
  obtain ⟨locs, hlocs⟩ : ∃ L : List Loc, L = [] := ⟨_, rfl⟩
  rw [← hlocs] at hH ⊢
  generalize s.heap = H at hH ⊢
  have hx := C.1
  have hb := C.2.1
  have hl : lv_has ls 3 [(0, .ref o), (1, .ref t)] := hl
  refine lv_aload_n hx hb dX3_askMark_0 rfl (lv_at hl 1 rfl) ?_
  refine lv_bipush (v := nI 23) hx hb dX3_askMark_1 (by decide) ?_
  refine fx_go0 hH (fx_runV C hH hl.1 (As := [.int (nI 23)]) (rest := []) (c_X10_leave (G := G) (base := base) (l := l) (f := f) (sz := sz) (t := t) (b := nI 23) (u := u) (n := tn) (g := g) h_t h_u (by omega)) mY_X10_leave ml_X3_17 im_X10_leave se_X10_X10_leave h_t rfl rfl ⟨(Nat.le_of_ble_eq_true rfl), (Nat.le_of_ble_eq_true rfl)⟩ rfl (Nat.le_of_ble_eq_true rfl) ⟨(Nat.le_of_ble_eq_true rfl), (Nat.le_of_ble_eq_true rfl)⟩ dX3_askMark_3) (fun H locs hH => ?_)
  have hH : fx_H G base s (fx_up (fx_up f u (oI 16 (upd g tn (nI 23)))) t (oO 9 [.ref u, .int (nI (tn + 1))])) sz H locs := hH
  have h1_o : (fx_up f u (oI 16 (upd g tn (nI 23)))) o = some (oO 3 [.int nn, .int wi, .int ag]) := (fx_up_n _ _ (fx_ne h_o h_u rfl)).trans h_o
  have h1_t : (fx_up f u (oI 16 (upd g tn (nI 23)))) t = some (oO 9 [.ref u, .int (nI tn)]) := (fx_up_n _ _ (fx_ne h_t h_u rfl)).trans h_t
  have h1_u : (fx_up f u (oI 16 (upd g tn (nI 23)))) u = some (oI 16 (upd g tn (nI 23))) := fx_up_s _ _ _
  have h2_o : (fx_up (fx_up f u (oI 16 (upd g tn (nI 23)))) t (oO 9 [.ref u, .int (nI (tn + 1))])) o = some (oO 3 [.int nn, .int wi, .int ag]) := (fx_up_n _ _ (fx_ne h1_o h1_t rfl)).trans h1_o
  have h2_u : (fx_up (fx_up f u (oI 16 (upd g tn (nI 23)))) t (oO 9 [.ref u, .int (nI (tn + 1))])) u = some (oI 16 (upd g tn (nI 23))) := (fx_up_n _ _ (fx_ne h1_u h1_t rfl)).trans h1_u
  have h2_t : (fx_up (fx_up f u (oI 16 (upd g tn (nI 23)))) t (oO 9 [.ref u, .int (nI (tn + 1))])) t = some (oO 9 [.ref u, .int (nI (tn + 1))]) := fx_up_s _ _ _
  have hH : fx_H G base s (fx_up (fx_up f u (oI 16 (upd g tn (nI 23)))) t (oO 9 [.ref u, .int (nI (tn + 1))])) sz H locs := hH
  refine lv_aload_n hx hb dX3_askMark_6 rfl (lv_at hl 0 rfl) ?_
  refine lv_aload_n hx hb dX3_askMark_7 rfl (lv_at hl 1 rfl) ?_
  refine fx_go1 hH (fx_runSU C hH hl.1 (As := [.ref t]) (rest := []) (c_X7_askMark_Likeliest (G := G) (base := base) (l := l) (f := fx_up (fx_up f u (oI 16 (upd g tn (nI 23)))) t (oO 9 [.ref u, .int (nI (tn + 1))])) (sz := sz) (o := o) (t := t) (nn := nn) (wi := wi) (ag := ag) (u := u) (tn := (tn + 1)) (g := (upd g tn (nI 23))) h2_o h2_t h2_u (by omega)) mY_X7_askMark ml_X3_27 sm_X7_askMark_X7 su_X3_X7 im_X7_askMark (by decide +kernel) h2_o rfl rfl ⟨(Nat.le_of_ble_eq_true rfl), (Nat.le_of_ble_eq_true rfl)⟩ rfl (Nat.le_of_ble_eq_true rfl) ⟨(Nat.le_of_ble_eq_true rfl), (Nat.le_of_ble_eq_true rfl)⟩ dX3_askMark_8) (fun H locs hH => ?_)
  have hH : fx_H G base s (fx_up (fx_up (fx_up (fx_up f u (oI 16 (upd g tn (nI 23)))) t (oO 9 [.ref u, .int (nI (tn + 1))])) u (oI 16 (upd (upd g tn (nI 23)) (tn + 1) (nI 20)))) t (oO 9 [.ref u, .int (nI ((tn + 1) + 1))])) sz H locs := hH
  have heq3 : fx_up (fx_up (fx_up f u (oI 16 (upd g tn (nI 23)))) t (oO 9 [.ref u, .int (nI (tn + 1))])) u (oI 16 (upd (upd g tn (nI 23)) (tn + 1) (nI 20))) = fx_up (fx_up f u (oI 16 (upd (upd g tn (nI 23)) (tn + 1) (nI 20)))) t (oO 9 [.ref u, .int (nI (tn + 1))]) := by rw [fx_up_c _ _ _ (fx_ne h2_t h2_u rfl), fx_up_up]
  rw [heq3] at hH
  have h3_o : (fx_up (fx_up f u (oI 16 (upd (upd g tn (nI 23)) (tn + 1) (nI 20)))) t (oO 9 [.ref u, .int (nI (tn + 1))])) o = some (oO 3 [.int nn, .int wi, .int ag]) := (congrFun heq3 o).symm.trans ((fx_up_n _ _ (fx_ne h2_o h2_u rfl)).trans h2_o)
  have h3_t : (fx_up (fx_up f u (oI 16 (upd (upd g tn (nI 23)) (tn + 1) (nI 20)))) t (oO 9 [.ref u, .int (nI (tn + 1))])) t = some (oO 9 [.ref u, .int (nI (tn + 1))]) := (congrFun heq3 t).symm.trans ((fx_up_n _ _ (fx_ne h2_t h2_u rfl)).trans h2_t)
  have h3_u : (fx_up (fx_up f u (oI 16 (upd (upd g tn (nI 23)) (tn + 1) (nI 20)))) t (oO 9 [.ref u, .int (nI (tn + 1))])) u = some (oI 16 (upd (upd g tn (nI 23)) (tn + 1) (nI 20))) := (congrFun heq3 u).symm.trans (fx_up_s _ _ _)
  have heq4 : fx_up (fx_up (fx_up f u (oI 16 (upd (upd g tn (nI 23)) (tn + 1) (nI 20)))) t (oO 9 [.ref u, .int (nI (tn + 1))])) t (oO 9 [.ref u, .int (nI ((tn + 1) + 1))]) = fx_up (fx_up f u (oI 16 (upd (upd g tn (nI 23)) (tn + 1) (nI 20)))) t (oO 9 [.ref u, .int (nI ((tn + 1) + 1))]) := by rw [fx_up_up]
  rw [heq4] at hH
  have h4_o : (fx_up (fx_up f u (oI 16 (upd (upd g tn (nI 23)) (tn + 1) (nI 20)))) t (oO 9 [.ref u, .int (nI ((tn + 1) + 1))])) o = some (oO 3 [.int nn, .int wi, .int ag]) := (congrFun heq4 o).symm.trans ((fx_up_n _ _ (fx_ne h3_o h3_t rfl)).trans h3_o)
  have h4_u : (fx_up (fx_up f u (oI 16 (upd (upd g tn (nI 23)) (tn + 1) (nI 20)))) t (oO 9 [.ref u, .int (nI ((tn + 1) + 1))])) u = some (oI 16 (upd (upd g tn (nI 23)) (tn + 1) (nI 20))) := (congrFun heq4 u).symm.trans ((fx_up_n _ _ (fx_ne h3_u h3_t rfl)).trans h3_u)
  have h4_t : (fx_up (fx_up f u (oI 16 (upd (upd g tn (nI 23)) (tn + 1) (nI 20)))) t (oO 9 [.ref u, .int (nI ((tn + 1) + 1))])) t = some (oO 9 [.ref u, .int (nI ((tn + 1) + 1))]) := (congrFun heq4 t).symm.trans (fx_up_s _ _ _)
  have hH : fx_H G base s (fx_up (fx_up f u (oI 16 (upd (upd g tn (nI 23)) (tn + 1) (nI 20)))) t (oO 9 [.ref u, .int (nI ((tn + 1) + 1))])) sz H locs := hH
  refine lv_istore_n (lv' := [(2, .int nn), (0, .ref o), (1, .ref t)]) hx hb dX3_askMark_11 rfl hl (by decide) rfl (fun ls hl => ?_)
  refine lv_iload_n hx hb dX3_askMark_12 rfl (lv_at hl 0 rfl) ?_
  refine lv_aload_n hx hb dX3_askMark_13 rfl (lv_at hl 1 rfl) ?_
  refine lv_aload_n hx hb dX3_askMark_14 rfl (lv_at hl 2 rfl) ?_
  refine fx_go1 hH (fx_runV C hH hl.1 (As := [.ref t]) (rest := [.int nn]) (c_X3_askSize_Likeliest (G := G) (base := base) (l := l) (f := fx_up (fx_up f u (oI 16 (upd (upd g tn (nI 23)) (tn + 1) (nI 20)))) t (oO 9 [.ref u, .int (nI ((tn + 1) + 1))])) (sz := sz) (o := o) (t := t) (nn := nn) (wi := wi) (ag := ag) (u := u) (tn := ((tn + 1) + 1)) (g := (upd (upd g tn (nI 23)) (tn + 1) (nI 20))) h4_o h4_t h4_u (by omega)) mY_X3_askSize ml_X3_30 im_X3_askSize se_X3_X3_askSize h4_o rfl rfl ⟨(Nat.le_of_ble_eq_true rfl), (Nat.le_of_ble_eq_true rfl)⟩ rfl (Nat.le_of_ble_eq_true rfl) ⟨(Nat.le_of_ble_eq_true rfl), (Nat.le_of_ble_eq_true rfl)⟩ dX3_askMark_15) (fun H locs hH => ?_)
  have hH : fx_H G base s (fx_up (fx_up (fx_up (fx_up f u (oI 16 (upd (upd g tn (nI 23)) (tn + 1) (nI 20)))) t (oO 9 [.ref u, .int (nI ((tn + 1) + 1))])) u (oI 16 (upd (upd (upd (upd g tn (nI 23)) (tn + 1) (nI 20)) ((tn + 1) + 1) (nI 13)) (((tn + 1) + 1) + 1) (nI 10)))) t (oO 9 [.ref u, .int (nI (((tn + 1) + 1) + 2))])) sz H locs := hH
  have heq5 : fx_up (fx_up (fx_up f u (oI 16 (upd (upd g tn (nI 23)) (tn + 1) (nI 20)))) t (oO 9 [.ref u, .int (nI ((tn + 1) + 1))])) u (oI 16 (upd (upd (upd (upd g tn (nI 23)) (tn + 1) (nI 20)) ((tn + 1) + 1) (nI 13)) (((tn + 1) + 1) + 1) (nI 10))) = fx_up (fx_up f u (oI 16 (upd (upd (upd (upd g tn (nI 23)) (tn + 1) (nI 20)) ((tn + 1) + 1) (nI 13)) (((tn + 1) + 1) + 1) (nI 10)))) t (oO 9 [.ref u, .int (nI ((tn + 1) + 1))]) := by rw [fx_up_c _ _ _ (fx_ne h4_t h4_u rfl), fx_up_up]
  rw [heq5] at hH
  have h5_o : (fx_up (fx_up f u (oI 16 (upd (upd (upd (upd g tn (nI 23)) (tn + 1) (nI 20)) ((tn + 1) + 1) (nI 13)) (((tn + 1) + 1) + 1) (nI 10)))) t (oO 9 [.ref u, .int (nI ((tn + 1) + 1))])) o = some (oO 3 [.int nn, .int wi, .int ag]) := (congrFun heq5 o).symm.trans ((fx_up_n _ _ (fx_ne h4_o h4_u rfl)).trans h4_o)
  have h5_t : (fx_up (fx_up f u (oI 16 (upd (upd (upd (upd g tn (nI 23)) (tn + 1) (nI 20)) ((tn + 1) + 1) (nI 13)) (((tn + 1) + 1) + 1) (nI 10)))) t (oO 9 [.ref u, .int (nI ((tn + 1) + 1))])) t = some (oO 9 [.ref u, .int (nI ((tn + 1) + 1))]) := (congrFun heq5 t).symm.trans ((fx_up_n _ _ (fx_ne h4_t h4_u rfl)).trans h4_t)
  have h5_u : (fx_up (fx_up f u (oI 16 (upd (upd (upd (upd g tn (nI 23)) (tn + 1) (nI 20)) ((tn + 1) + 1) (nI 13)) (((tn + 1) + 1) + 1) (nI 10)))) t (oO 9 [.ref u, .int (nI ((tn + 1) + 1))])) u = some (oI 16 (upd (upd (upd (upd g tn (nI 23)) (tn + 1) (nI 20)) ((tn + 1) + 1) (nI 13)) (((tn + 1) + 1) + 1) (nI 10))) := (congrFun heq5 u).symm.trans (fx_up_s _ _ _)
  have heq6 : fx_up (fx_up (fx_up f u (oI 16 (upd (upd (upd (upd g tn (nI 23)) (tn + 1) (nI 20)) ((tn + 1) + 1) (nI 13)) (((tn + 1) + 1) + 1) (nI 10)))) t (oO 9 [.ref u, .int (nI ((tn + 1) + 1))])) t (oO 9 [.ref u, .int (nI (((tn + 1) + 1) + 2))]) = fx_up (fx_up f u (oI 16 (upd (upd (upd (upd g tn (nI 23)) (tn + 1) (nI 20)) ((tn + 1) + 1) (nI 13)) (((tn + 1) + 1) + 1) (nI 10)))) t (oO 9 [.ref u, .int (nI (((tn + 1) + 1) + 2))]) := by rw [fx_up_up]
  rw [heq6] at hH
  have h6_o : (fx_up (fx_up f u (oI 16 (upd (upd (upd (upd g tn (nI 23)) (tn + 1) (nI 20)) ((tn + 1) + 1) (nI 13)) (((tn + 1) + 1) + 1) (nI 10)))) t (oO 9 [.ref u, .int (nI (((tn + 1) + 1) + 2))])) o = some (oO 3 [.int nn, .int wi, .int ag]) := (congrFun heq6 o).symm.trans ((fx_up_n _ _ (fx_ne h5_o h5_t rfl)).trans h5_o)
  have h6_u : (fx_up (fx_up f u (oI 16 (upd (upd (upd (upd g tn (nI 23)) (tn + 1) (nI 20)) ((tn + 1) + 1) (nI 13)) (((tn + 1) + 1) + 1) (nI 10)))) t (oO 9 [.ref u, .int (nI (((tn + 1) + 1) + 2))])) u = some (oI 16 (upd (upd (upd (upd g tn (nI 23)) (tn + 1) (nI 20)) ((tn + 1) + 1) (nI 13)) (((tn + 1) + 1) + 1) (nI 10))) := (congrFun heq6 u).symm.trans ((fx_up_n _ _ (fx_ne h5_u h5_t rfl)).trans h5_u)
  have h6_t : (fx_up (fx_up f u (oI 16 (upd (upd (upd (upd g tn (nI 23)) (tn + 1) (nI 20)) ((tn + 1) + 1) (nI 13)) (((tn + 1) + 1) + 1) (nI 10)))) t (oO 9 [.ref u, .int (nI (((tn + 1) + 1) + 2))])) t = some (oO 9 [.ref u, .int (nI (((tn + 1) + 1) + 2))]) := (congrFun heq6 t).symm.trans (fx_up_s _ _ _)
  have hH : fx_H G base s (fx_up (fx_up f u (oI 16 (upd (upd (upd (upd g tn (nI 23)) (tn + 1) (nI 20)) ((tn + 1) + 1) (nI 13)) (((tn + 1) + 1) + 1) (nI 10)))) t (oO 9 [.ref u, .int (nI (((tn + 1) + 1) + 2))])) sz H locs := hH
  refine lv_isub hx hb dX3_askMark_18 ?_
  exact fx_iret C hr hk hH rfl rfl rfl (Nat.zero_le _) (Nat.zero_le _) dX3_askMark_19
set_option maxHeartbeats 4000000 in
set_option maxRecDepth 100000 in
theorem c_X3_askMark_Tabs {G : GG} {base : Nat} {l : Launch} {f : Hp} {sz : Nat} {o : Nat} {t : Nat} {nn : Int32} {wi : Int32} {ag : Int32} {u : Nat} {tn : Nat} {g : Nat → Int32} (h_o : f o = some (oO 7 [.int nn, .int wi, .int ag])) (h_t : f t = some (oO 9 [.ref u, .int (nI tn)])) (h_u : f u = some (oI 16 g)) (ht : tn + 5 ≤ 16) : fx_M G base l yX3_askMark cX3_askMark 3 (some .int) rm_X3_askMark [.ref o, .ref t] f sz (some (.int (nn - (nI 2 * (wi - nI 100))))) (fx_up (fx_up f u (oI 16 (upd (upd (upd (upd (upd g tn (nI 23)) (tn + 1) (nI 20)) (tn + 2) (nI 14)) (tn + 3) (nI 13)) (tn + 4) (nI 10)))) t (oO 9 [.ref u, .int (nI (tn + 5))])) sz := by
  refine fx_of (by decide +kernel) (Nat.le_of_ble_eq_true rfl) ?_
  intro p e s m args below meth c C hr hk hnm hH ls hl
  obtain ⟨locs, hlocs⟩ : ∃ L : List Loc, L = [] := ⟨_, rfl⟩
  rw [← hlocs] at hH ⊢
  generalize s.heap = H at hH ⊢
  have hx := C.1
  have hb := C.2.1
  have hl : lv_has ls 3 [(0, .ref o), (1, .ref t)] := hl
  refine lv_aload_n hx hb dX3_askMark_0 rfl (lv_at hl 1 rfl) ?_
  refine lv_bipush (v := nI 23) hx hb dX3_askMark_1 (by decide) ?_
  refine fx_go0 hH (fx_runV C hH hl.1 (As := [.int (nI 23)]) (rest := []) (c_X10_leave (G := G) (base := base) (l := l) (f := f) (sz := sz) (t := t) (b := nI 23) (u := u) (n := tn) (g := g) h_t h_u (by omega)) mY_X10_leave ml_X3_17 im_X10_leave se_X10_X10_leave h_t rfl rfl ⟨(Nat.le_of_ble_eq_true rfl), (Nat.le_of_ble_eq_true rfl)⟩ rfl (Nat.le_of_ble_eq_true rfl) ⟨(Nat.le_of_ble_eq_true rfl), (Nat.le_of_ble_eq_true rfl)⟩ dX3_askMark_3) (fun H locs hH => ?_)
  have hH : fx_H G base s (fx_up (fx_up f u (oI 16 (upd g tn (nI 23)))) t (oO 9 [.ref u, .int (nI (tn + 1))])) sz H locs := hH
  have h1_o : (fx_up f u (oI 16 (upd g tn (nI 23)))) o = some (oO 7 [.int nn, .int wi, .int ag]) := (fx_up_n _ _ (fx_ne h_o h_u rfl)).trans h_o
  have h1_t : (fx_up f u (oI 16 (upd g tn (nI 23)))) t = some (oO 9 [.ref u, .int (nI tn)]) := (fx_up_n _ _ (fx_ne h_t h_u rfl)).trans h_t
  have h1_u : (fx_up f u (oI 16 (upd g tn (nI 23)))) u = some (oI 16 (upd g tn (nI 23))) := fx_up_s _ _ _
  have h2_o : (fx_up (fx_up f u (oI 16 (upd g tn (nI 23)))) t (oO 9 [.ref u, .int (nI (tn + 1))])) o = some (oO 7 [.int nn, .int wi, .int ag]) := (fx_up_n _ _ (fx_ne h1_o h1_t rfl)).trans h1_o
  have h2_u : (fx_up (fx_up f u (oI 16 (upd g tn (nI 23)))) t (oO 9 [.ref u, .int (nI (tn + 1))])) u = some (oI 16 (upd g tn (nI 23))) := (fx_up_n _ _ (fx_ne h1_u h1_t rfl)).trans h1_u
  have h2_t : (fx_up (fx_up f u (oI 16 (upd g tn (nI 23)))) t (oO 9 [.ref u, .int (nI (tn + 1))])) t = some (oO 9 [.ref u, .int (nI (tn + 1))]) := fx_up_s _ _ _
  have hH : fx_H G base s (fx_up (fx_up f u (oI 16 (upd g tn (nI 23)))) t (oO 9 [.ref u, .int (nI (tn + 1))])) sz H locs := hH
  refine lv_aload_n hx hb dX3_askMark_6 rfl (lv_at hl 0 rfl) ?_
  refine lv_aload_n hx hb dX3_askMark_7 rfl (lv_at hl 1 rfl) ?_
  refine fx_go1 hH (fx_runSU C hH hl.1 (As := [.ref t]) (rest := []) (c_X7_askMark_Tabs (G := G) (base := base) (l := l) (f := fx_up (fx_up f u (oI 16 (upd g tn (nI 23)))) t (oO 9 [.ref u, .int (nI (tn + 1))])) (sz := sz) (o := o) (t := t) (nn := nn) (wi := wi) (ag := ag) (u := u) (tn := (tn + 1)) (g := (upd g tn (nI 23))) h2_o h2_t h2_u (by omega)) mY_X7_askMark ml_X3_27 sm_X7_askMark_X7 su_X3_X7 im_X7_askMark (by decide +kernel) h2_o rfl rfl ⟨(Nat.le_of_ble_eq_true rfl), (Nat.le_of_ble_eq_true rfl)⟩ rfl (Nat.le_of_ble_eq_true rfl) ⟨(Nat.le_of_ble_eq_true rfl), (Nat.le_of_ble_eq_true rfl)⟩ dX3_askMark_8) (fun H locs hH => ?_)
  have hH : fx_H G base s (fx_up (fx_up (fx_up (fx_up f u (oI 16 (upd g tn (nI 23)))) t (oO 9 [.ref u, .int (nI (tn + 1))])) u (oI 16 (upd (upd g tn (nI 23)) (tn + 1) (nI 20)))) t (oO 9 [.ref u, .int (nI ((tn + 1) + 1))])) sz H locs := hH
  have heq3 : fx_up (fx_up (fx_up f u (oI 16 (upd g tn (nI 23)))) t (oO 9 [.ref u, .int (nI (tn + 1))])) u (oI 16 (upd (upd g tn (nI 23)) (tn + 1) (nI 20))) = fx_up (fx_up f u (oI 16 (upd (upd g tn (nI 23)) (tn + 1) (nI 20)))) t (oO 9 [.ref u, .int (nI (tn + 1))]) := by rw [fx_up_c _ _ _ (fx_ne h2_t h2_u rfl), fx_up_up]
  rw [heq3] at hH
  have h3_o : (fx_up (fx_up f u (oI 16 (upd (upd g tn (nI 23)) (tn + 1) (nI 20)))) t (oO 9 [.ref u, .int (nI (tn + 1))])) o = some (oO 7 [.int nn, .int wi, .int ag]) := (congrFun heq3 o).symm.trans ((fx_up_n _ _ (fx_ne h2_o h2_u rfl)).trans h2_o)
  have h3_t : (fx_up (fx_up f u (oI 16 (upd (upd g tn (nI 23)) (tn + 1) (nI 20)))) t (oO 9 [.ref u, .int (nI (tn + 1))])) t = some (oO 9 [.ref u, .int (nI (tn + 1))]) := (congrFun heq3 t).symm.trans ((fx_up_n _ _ (fx_ne h2_t h2_u rfl)).trans h2_t)
  have h3_u : (fx_up (fx_up f u (oI 16 (upd (upd g tn (nI 23)) (tn + 1) (nI 20)))) t (oO 9 [.ref u, .int (nI (tn + 1))])) u = some (oI 16 (upd (upd g tn (nI 23)) (tn + 1) (nI 20))) := (congrFun heq3 u).symm.trans (fx_up_s _ _ _)
  have heq4 : fx_up (fx_up (fx_up f u (oI 16 (upd (upd g tn (nI 23)) (tn + 1) (nI 20)))) t (oO 9 [.ref u, .int (nI (tn + 1))])) t (oO 9 [.ref u, .int (nI ((tn + 1) + 1))]) = fx_up (fx_up f u (oI 16 (upd (upd g tn (nI 23)) (tn + 1) (nI 20)))) t (oO 9 [.ref u, .int (nI ((tn + 1) + 1))]) := by rw [fx_up_up]
  rw [heq4] at hH
  have h4_o : (fx_up (fx_up f u (oI 16 (upd (upd g tn (nI 23)) (tn + 1) (nI 20)))) t (oO 9 [.ref u, .int (nI ((tn + 1) + 1))])) o = some (oO 7 [.int nn, .int wi, .int ag]) := (congrFun heq4 o).symm.trans ((fx_up_n _ _ (fx_ne h3_o h3_t rfl)).trans h3_o)
  have h4_u : (fx_up (fx_up f u (oI 16 (upd (upd g tn (nI 23)) (tn + 1) (nI 20)))) t (oO 9 [.ref u, .int (nI ((tn + 1) + 1))])) u = some (oI 16 (upd (upd g tn (nI 23)) (tn + 1) (nI 20))) := (congrFun heq4 u).symm.trans ((fx_up_n _ _ (fx_ne h3_u h3_t rfl)).trans h3_u)
  have h4_t : (fx_up (fx_up f u (oI 16 (upd (upd g tn (nI 23)) (tn + 1) (nI 20)))) t (oO 9 [.ref u, .int (nI ((tn + 1) + 1))])) t = some (oO 9 [.ref u, .int (nI ((tn + 1) + 1))]) := (congrFun heq4 t).symm.trans (fx_up_s _ _ _)
  have hH : fx_H G base s (fx_up (fx_up f u (oI 16 (upd (upd g tn (nI 23)) (tn + 1) (nI 20)))) t (oO 9 [.ref u, .int (nI ((tn + 1) + 1))])) sz H locs := hH
  refine lv_istore_n (lv' := [(2, .int nn), (0, .ref o), (1, .ref t)]) hx hb dX3_askMark_11 rfl hl (by decide) rfl (fun ls hl => ?_)
  refine lv_iload_n hx hb dX3_askMark_12 rfl (lv_at hl 0 rfl) ?_
  refine lv_aload_n hx hb dX3_askMark_13 rfl (lv_at hl 1 rfl) ?_
  refine lv_aload_n hx hb dX3_askMark_14 rfl (lv_at hl 2 rfl) ?_
  refine fx_go1 hH (fx_runU C hH hl.1 (As := [.ref t]) (rest := [.int nn]) (owner := RX3) (c_X8_askSize (G := G) (base := base) (l := l) (f := fx_up (fx_up f u (oI 16 (upd (upd g tn (nI 23)) (tn + 1) (nI 20)))) t (oO 9 [.ref u, .int (nI ((tn + 1) + 1))])) (sz := sz) (o := o) (t := t) (nn := nn) (wi := wi) (ag := ag) (u := u) (tn := ((tn + 1) + 1)) (g := (upd (upd g tn (nI 23)) (tn + 1) (nI 20))) h4_o h4_t h4_u (by omega)) mY_X8_askSize ml_X3_30 sm_X3_askSize_X3 (Or.inr ⟨im_X3_askSize, _, _, _, cd_X3_askSize⟩) (by decide +kernel) rfl se_X8_X3_askSize_X8_askSize im_X8_askSize h4_o rfl rfl ⟨(Nat.le_of_ble_eq_true rfl), (Nat.le_of_ble_eq_true rfl)⟩ rfl (Nat.le_of_ble_eq_true rfl) ⟨(Nat.le_of_ble_eq_true rfl), (Nat.le_of_ble_eq_true rfl)⟩ dX3_askMark_15) (fun H locs hH => ?_)
  have hH : fx_H G base s (fx_up (fx_up (fx_up (fx_up f u (oI 16 (upd (upd g tn (nI 23)) (tn + 1) (nI 20)))) t (oO 9 [.ref u, .int (nI ((tn + 1) + 1))])) u (oI 16 (upd (upd (upd (upd (upd g tn (nI 23)) (tn + 1) (nI 20)) ((tn + 1) + 1) (nI 14)) (((tn + 1) + 1) + 1) (nI 13)) (((tn + 1) + 1) + 2) (nI 10)))) t (oO 9 [.ref u, .int (nI (((tn + 1) + 1) + 3))])) sz H locs := hH
  have heq5 : fx_up (fx_up (fx_up f u (oI 16 (upd (upd g tn (nI 23)) (tn + 1) (nI 20)))) t (oO 9 [.ref u, .int (nI ((tn + 1) + 1))])) u (oI 16 (upd (upd (upd (upd (upd g tn (nI 23)) (tn + 1) (nI 20)) ((tn + 1) + 1) (nI 14)) (((tn + 1) + 1) + 1) (nI 13)) (((tn + 1) + 1) + 2) (nI 10))) = fx_up (fx_up f u (oI 16 (upd (upd (upd (upd (upd g tn (nI 23)) (tn + 1) (nI 20)) ((tn + 1) + 1) (nI 14)) (((tn + 1) + 1) + 1) (nI 13)) (((tn + 1) + 1) + 2) (nI 10)))) t (oO 9 [.ref u, .int (nI ((tn + 1) + 1))]) := by rw [fx_up_c _ _ _ (fx_ne h4_t h4_u rfl), fx_up_up]
  rw [heq5] at hH
  have h5_o : (fx_up (fx_up f u (oI 16 (upd (upd (upd (upd (upd g tn (nI 23)) (tn + 1) (nI 20)) ((tn + 1) + 1) (nI 14)) (((tn + 1) + 1) + 1) (nI 13)) (((tn + 1) + 1) + 2) (nI 10)))) t (oO 9 [.ref u, .int (nI ((tn + 1) + 1))])) o = some (oO 7 [.int nn, .int wi, .int ag]) := (congrFun heq5 o).symm.trans ((fx_up_n _ _ (fx_ne h4_o h4_u rfl)).trans h4_o)
  have h5_t : (fx_up (fx_up f u (oI 16 (upd (upd (upd (upd (upd g tn (nI 23)) (tn + 1) (nI 20)) ((tn + 1) + 1) (nI 14)) (((tn + 1) + 1) + 1) (nI 13)) (((tn + 1) + 1) + 2) (nI 10)))) t (oO 9 [.ref u, .int (nI ((tn + 1) + 1))])) t = some (oO 9 [.ref u, .int (nI ((tn + 1) + 1))]) := (congrFun heq5 t).symm.trans ((fx_up_n _ _ (fx_ne h4_t h4_u rfl)).trans h4_t)
  have h5_u : (fx_up (fx_up f u (oI 16 (upd (upd (upd (upd (upd g tn (nI 23)) (tn + 1) (nI 20)) ((tn + 1) + 1) (nI 14)) (((tn + 1) + 1) + 1) (nI 13)) (((tn + 1) + 1) + 2) (nI 10)))) t (oO 9 [.ref u, .int (nI ((tn + 1) + 1))])) u = some (oI 16 (upd (upd (upd (upd (upd g tn (nI 23)) (tn + 1) (nI 20)) ((tn + 1) + 1) (nI 14)) (((tn + 1) + 1) + 1) (nI 13)) (((tn + 1) + 1) + 2) (nI 10))) := (congrFun heq5 u).symm.trans (fx_up_s _ _ _)
  have heq6 : fx_up (fx_up (fx_up f u (oI 16 (upd (upd (upd (upd (upd g tn (nI 23)) (tn + 1) (nI 20)) ((tn + 1) + 1) (nI 14)) (((tn + 1) + 1) + 1) (nI 13)) (((tn + 1) + 1) + 2) (nI 10)))) t (oO 9 [.ref u, .int (nI ((tn + 1) + 1))])) t (oO 9 [.ref u, .int (nI (((tn + 1) + 1) + 3))]) = fx_up (fx_up f u (oI 16 (upd (upd (upd (upd (upd g tn (nI 23)) (tn + 1) (nI 20)) ((tn + 1) + 1) (nI 14)) (((tn + 1) + 1) + 1) (nI 13)) (((tn + 1) + 1) + 2) (nI 10)))) t (oO 9 [.ref u, .int (nI (((tn + 1) + 1) + 3))]) := by rw [fx_up_up]
  rw [heq6] at hH
  have h6_o : (fx_up (fx_up f u (oI 16 (upd (upd (upd (upd (upd g tn (nI 23)) (tn + 1) (nI 20)) ((tn + 1) + 1) (nI 14)) (((tn + 1) + 1) + 1) (nI 13)) (((tn + 1) + 1) + 2) (nI 10)))) t (oO 9 [.ref u, .int (nI (((tn + 1) + 1) + 3))])) o = some (oO 7 [.int nn, .int wi, .int ag]) := (congrFun heq6 o).symm.trans ((fx_up_n _ _ (fx_ne h5_o h5_t rfl)).trans h5_o)
  have h6_u : (fx_up (fx_up f u (oI 16 (upd (upd (upd (upd (upd g tn (nI 23)) (tn + 1) (nI 20)) ((tn + 1) + 1) (nI 14)) (((tn + 1) + 1) + 1) (nI 13)) (((tn + 1) + 1) + 2) (nI 10)))) t (oO 9 [.ref u, .int (nI (((tn + 1) + 1) + 3))])) u = some (oI 16 (upd (upd (upd (upd (upd g tn (nI 23)) (tn + 1) (nI 20)) ((tn + 1) + 1) (nI 14)) (((tn + 1) + 1) + 1) (nI 13)) (((tn + 1) + 1) + 2) (nI 10))) := (congrFun heq6 u).symm.trans ((fx_up_n _ _ (fx_ne h5_u h5_t rfl)).trans h5_u)
  have h6_t : (fx_up (fx_up f u (oI 16 (upd (upd (upd (upd (upd g tn (nI 23)) (tn + 1) (nI 20)) ((tn + 1) + 1) (nI 14)) (((tn + 1) + 1) + 1) (nI 13)) (((tn + 1) + 1) + 2) (nI 10)))) t (oO 9 [.ref u, .int (nI (((tn + 1) + 1) + 3))])) t = some (oO 9 [.ref u, .int (nI (((tn + 1) + 1) + 3))]) := (congrFun heq6 t).symm.trans (fx_up_s _ _ _)
  have hH : fx_H G base s (fx_up (fx_up f u (oI 16 (upd (upd (upd (upd (upd g tn (nI 23)) (tn + 1) (nI 20)) ((tn + 1) + 1) (nI 14)) (((tn + 1) + 1) + 1) (nI 13)) (((tn + 1) + 1) + 2) (nI 10)))) t (oO 9 [.ref u, .int (nI (((tn + 1) + 1) + 3))])) sz H locs := hH
  refine lv_isub hx hb dX3_askMark_18 ?_
  exact fx_iret C hr hk hH rfl rfl rfl (Nat.zero_le _) (Nat.zero_le _) dX3_askMark_19
