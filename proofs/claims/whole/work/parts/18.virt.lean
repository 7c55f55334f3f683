theorem fx_neK {f : Hp} {a b K : Nat} {n w v : Int32} {e : CE} (ha : f a = some (skC K n w v)) (hb : f b = some e) (h : (Nat.beq (fx_k e) 5 || Nat.beq (fx_k e) 0 || Nat.beq (fx_k e) 1 || Nat.beq (fx_k e) 3 || Nat.beq (fx_k e) 7) = false) : a ≠ b := by
  intro hab
  subst hab
  have h1 := Option.some.inj (ha.symm.trans hb)
  subst h1
  have hk : kci K = 5 ∨ kci K = 0 ∨ kci K = 1 ∨ kci K = 3 ∨ kci K = 7 := by
    unfold kci
    split <;> simp
  have h2 : fx_k (skC K n w v) = kci K := rfl
  rw [h2] at h
  rcases hk with q | q | q | q | q <;> rw [q] at h <;> exact absurd h (by decide)
set_option maxHeartbeats 4000000 in
set_option maxRecDepth 100000 in
theorem vk_feel {p : Program} {l : Launch} {e : Env} {R : Room} {s : State} {m : MethodId} {args : Array Value} {below : List Frame} {meth : Method} {c : Code} {H : Heap} {locs : List Loc} {cells slots : Nat} {cc : ByteArray} {nL pc : Nat} {own : String} {ls : Array Slot} {rest : List Value} {G : GG} {base sz index : Nat} {f : Hp} (C : fx_C G p s m c cc nL own) (hH : fx_H G base s f sz H locs) (hls : ls.size = nL) {o : Nat} {wy : Int32} {K : Nat} {nn : Int32} {wi : Nat} {ag : Nat} (h_o : f o = some (skC K nn (nI wi) (nI ag))) (hK : 1 ≤ K ∧ K ≤ 5) (hwi : wi ≤ 10) (hag : ag ≤ 10) (hl : Cond.methodLink own index yX7_feel ∈ lw_tbl) (hfr : 2 ≤ R.frames) (hlo : 42 ≤ R.locals) (hw : (rest.map fun v => v.category).sum ≤ 8) (hcs : cells + 0 ≤ R.cells ∧ slots + 0 ≤ R.slots) (hdg : decode cc pc = .ok (.invokevirtual index, 3)) : fx_Run p l e R s m args below meth c H locs cells slots rm_X7_feel (F0 m pc ls (.int wy :: .ref o :: rest)) rest G base (some (.int (nI (feN K wi ag wy)))) f sz (Value.ref o :: [.int wy]).toArray := by
  have hk5 : K = 1 ∨ K = 2 ∨ K = 3 ∨ K = 4 ∨ K = 5 := by omega
  rcases hk5 with rfl | rfl | rfl | rfl | rfl
  · rw [feN_1 (by decide)]
    exact fx_runU C hH hls (As := [.int wy]) (rest := rest) (owner := RX7) (rm := rm_X7_feel) (c_X7_feel_Round (G := G) (base := base) (l := l) (wy := wy) h_o) mY_X7_feel hl sm_X7_feel_X7 (Or.inr ⟨im_X7_feel, _, _, _, cd_X7_feel⟩) (by decide +kernel) rfl se_X5_X7_feel im_X7_feel h_o rfl rfl ⟨Nat.le_trans (Nat.le_of_ble_eq_true rfl) hfr, Nat.le_trans (Nat.le_of_ble_eq_true rfl) hlo⟩ rfl hw hcs hdg
  · rw [feN_1 (by decide)]
    exact fx_runU C hH hls (As := [.int wy]) (rest := rest) (owner := RX7) (rm := rm_X7_feel) (c_X7_feel_Back (G := G) (base := base) (l := l) (wy := wy) h_o) mY_X7_feel hl sm_X7_feel_X7 (Or.inr ⟨im_X7_feel, _, _, _, cd_X7_feel⟩) (by decide +kernel) rfl se_X0_X7_feel im_X7_feel h_o rfl rfl ⟨Nat.le_trans (Nat.le_of_ble_eq_true rfl) hfr, Nat.le_trans (Nat.le_of_ble_eq_true rfl) hlo⟩ rfl hw hcs hdg
  · rw [feN_3]
    exact fx_runU C hH hls (As := [.int wy]) (rest := rest) (owner := RX7) (rm := rm_X1_feel) (c_X1_feel (G := G) (base := base) (l := l) (wy := wy) h_o hwi hag) mY_X1_feel hl sm_X7_feel_X7 (Or.inr ⟨im_X7_feel, _, _, _, cd_X7_feel⟩) (by decide +kernel) rfl se_X1_X7_feel_X1_feel im_X1_feel h_o rfl rfl ⟨Nat.le_trans (Nat.le_of_ble_eq_true rfl) hfr, Nat.le_trans (Nat.le_of_ble_eq_true rfl) hlo⟩ rfl hw hcs hdg
  · rw [feN_1 (by decide)]
    exact fx_runU C hH hls (As := [.int wy]) (rest := rest) (owner := RX7) (rm := rm_X7_feel) (c_X7_feel_Likeliest (G := G) (base := base) (l := l) (wy := wy) h_o) mY_X7_feel hl sm_X7_feel_X7 (Or.inr ⟨im_X7_feel, _, _, _, cd_X7_feel⟩) (by decide +kernel) rfl se_X3_X7_feel im_X7_feel h_o rfl rfl ⟨Nat.le_trans (Nat.le_of_ble_eq_true rfl) hfr, Nat.le_trans (Nat.le_of_ble_eq_true rfl) hlo⟩ rfl hw hcs hdg
  · rw [feN_1 (by decide)]
    exact fx_runU C hH hls (As := [.int wy]) (rest := rest) (owner := RX7) (rm := rm_X7_feel) (c_X7_feel_Tabs (G := G) (base := base) (l := l) (wy := wy) h_o) mY_X7_feel hl sm_X7_feel_X7 (Or.inr ⟨im_X7_feel, _, _, _, cd_X7_feel⟩) (by decide +kernel) rfl se_X8_X7_feel im_X7_feel h_o rfl rfl ⟨Nat.le_trans (Nat.le_of_ble_eq_true rfl) hfr, Nat.le_trans (Nat.le_of_ble_eq_true rfl) hlo⟩ rfl hw hcs hdg
set_option maxHeartbeats 4000000 in
set_option maxRecDepth 100000 in
theorem vk_kindTold {p : Program} {l : Launch} {e : Env} {R : Room} {s : State} {m : MethodId} {args : Array Value} {below : List Frame} {meth : Method} {c : Code} {H : Heap} {locs : List Loc} {cells slots : Nat} {cc : ByteArray} {nL pc : Nat} {own : String} {ls : Array Slot} {rest : List Value} {G : GG} {base sz index : Nat} {f : Hp} (C : fx_C G p s m c cc nL own) (hH : fx_H G base s f sz H locs) (hls : ls.size = nL) {o : Nat} {K : Nat} {nn : Int32} {wi : Int32} {ag : Int32} (h_o : f o = some (skC K nn wi ag)) (hK : 1 ≤ K ∧ K ≤ 5) (hl : Cond.methodLink own index yX7_kindTold ∈ lw_tbl) (hfr : 1 ≤ R.frames) (hlo : 20 ≤ R.locals) (hw : (rest.map fun v => v.category).sum ≤ 8) (hcs : cells + 0 ≤ R.cells ∧ slots + 0 ≤ R.slots) (hdg : decode cc pc = .ok (.invokevirtual index, 3)) : fx_Run p l e R s m args below meth c H locs cells slots rm_X7_feel (F0 m pc ls (.ref o :: rest)) rest G base (some (.int (nI K))) f sz (Value.ref o :: []).toArray := by
  have hk5 : K = 1 ∨ K = 2 ∨ K = 3 ∨ K = 4 ∨ K = 5 := by omega
  rcases hk5 with rfl | rfl | rfl | rfl | rfl
  · exact fx_runU C hH hls (As := []) (rest := rest) (owner := RX7) (rm := rm_X5_kindTold) (c_X5_kindTold (G := G) (base := base) (l := l) h_o) mY_X5_kindTold hl sm_X7_kindTold_X7 (Or.inl de_X7_kindTold) (by decide +kernel) rfl se_X5_X7_kindTold_X5_kindTold im_X5_kindTold h_o rfl rfl ⟨Nat.le_trans (Nat.le_of_ble_eq_true rfl) hfr, Nat.le_trans (Nat.le_of_ble_eq_true rfl) hlo⟩ rfl hw hcs hdg
  · exact fx_runU C hH hls (As := []) (rest := rest) (owner := RX7) (rm := rm_X0_kindTold) (c_X0_kindTold (G := G) (base := base) (l := l) h_o) mY_X0_kindTold hl sm_X7_kindTold_X7 (Or.inl de_X7_kindTold) (by decide +kernel) rfl se_X0_X7_kindTold_X0_kindTold im_X0_kindTold h_o rfl rfl ⟨Nat.le_trans (Nat.le_of_ble_eq_true rfl) hfr, Nat.le_trans (Nat.le_of_ble_eq_true rfl) hlo⟩ rfl hw hcs hdg
  · exact fx_runU C hH hls (As := []) (rest := rest) (owner := RX7) (rm := rm_X1_kindTold) (c_X1_kindTold (G := G) (base := base) (l := l) h_o) mY_X1_kindTold hl sm_X7_kindTold_X7 (Or.inl de_X7_kindTold) (by decide +kernel) rfl se_X1_X7_kindTold_X1_kindTold im_X1_kindTold h_o rfl rfl ⟨Nat.le_trans (Nat.le_of_ble_eq_true rfl) hfr, Nat.le_trans (Nat.le_of_ble_eq_true rfl) hlo⟩ rfl hw hcs hdg
  · exact fx_runU C hH hls (As := []) (rest := rest) (owner := RX7) (rm := rm_X3_kindTold) (c_X3_kindTold (G := G) (base := base) (l := l) h_o) mY_X3_kindTold hl sm_X7_kindTold_X7 (Or.inl de_X7_kindTold) (by decide +kernel) rfl se_X3_X7_kindTold_X3_kindTold im_X3_kindTold h_o rfl rfl ⟨Nat.le_trans (Nat.le_of_ble_eq_true rfl) hfr, Nat.le_trans (Nat.le_of_ble_eq_true rfl) hlo⟩ rfl hw hcs hdg
  · exact fx_runU C hH hls (As := []) (rest := rest) (owner := RX7) (rm := rm_X8_kindTold) (c_X8_kindTold (G := G) (base := base) (l := l) h_o) mY_X8_kindTold hl sm_X7_kindTold_X7 (Or.inl de_X7_kindTold) (by decide +kernel) rfl se_X8_X7_kindTold_X8_kindTold im_X8_kindTold h_o rfl rfl ⟨Nat.le_trans (Nat.le_of_ble_eq_true rfl) hfr, Nat.le_trans (Nat.le_of_ble_eq_true rfl) hlo⟩ rfl hw hcs hdg
set_option maxHeartbeats 4000000 in
set_option maxRecDepth 100000 in
theorem vk_nextPlace {p : Program} {l : Launch} {e : Env} {R : Room} {s : State} {m : MethodId} {args : Array Value} {below : List Frame} {meth : Method} {c : Code} {H : Heap} {locs : List Loc} {cells slots : Nat} {cc : ByteArray} {nL pc : Nat} {own : String} {ls : Array Slot} {rest : List Value} {G : GG} {base sz index : Nat} {f : Hp} (C : fx_C G p s m c cc nL own) (hH : fx_H G base s f sz H locs) (hls : ls.size = nL) {o : Nat} {r : Nat} {K : Nat} {nn : Int32} {wi : Int32} {ag : Int32} {k : Nat} {w : Nat} {pl : Nat} {wy : Int32} {se : Int32} {to : Int32} {lf : Nat} {ta : Int32} {q : Nat → Int64} {wt : Nat} {ch : Nat} {sk : Nat} {P : Nat} {st : Nat} {ov : Int32} {mi : Int32} {ri : Int32} {tl : Int32} (h_o : f o = some (skC K nn wi ag)) (h_r : f r = some (oO 4 [.ref k, .ref w, .int (nI pl), .int wy, .int se, .int to, .int (nI lf), .int ta])) (h_k : f k = some (oJ 13 q)) (h_w : f w = some (oO 2 [.ref wt, .ref ch, .ref sk, .int (nI P), .int (nI st), .int ov, .int mi, .int ri, .int tl])) (hK : 1 ≤ K ∧ K ≤ 5) (hP : 1 ≤ P ∧ P ≤ 12) (hlf : lf ≤ 1) (hl : Cond.methodLink own index yX7_nextPlace ∈ lw_tbl) (hfr : 4 ≤ R.frames) (hlo : 85 ≤ R.locals) (hw : (rest.map fun v => v.category).sum ≤ 8) (hcs : cells + 0 ≤ R.cells ∧ slots + 0 ≤ R.slots) (hdg : decode cc pc = .ok (.invokevirtual index, 3)) : fx_Run p l e R s m args below meth c H locs cells slots rm_X7_feel (F0 m pc ls (.ref r :: .ref o :: rest)) rest G base (some (.int (nxI K q pl wy lf ta P))) f sz (Value.ref o :: [.ref r]).toArray := by
  have hk5 : K = 1 ∨ K = 2 ∨ K = 3 ∨ K = 4 ∨ K = 5 := by omega
  rcases hk5 with rfl | rfl | rfl | rfl | rfl
  · rw [nxI_1]
    exact fx_runU C hH hls (As := [.ref r]) (rest := rest) (owner := RX7) (rm := rm_X5_nextPlace) (c_X5_nextPlace_Round (G := G) (base := base) (l := l) h_o h_r h_w hP) mY_X5_nextPlace hl sm_X7_nextPlace_X7 (Or.inl de_X7_nextPlace) (by decide +kernel) rfl se_X5_X7_nextPlace_X5_nextPlace im_X5_nextPlace h_o rfl rfl ⟨Nat.le_trans (Nat.le_of_ble_eq_true rfl) hfr, Nat.le_trans (Nat.le_of_ble_eq_true rfl) hlo⟩ rfl hw hcs hdg
  · rw [nxI_2]
    exact fx_runU C hH hls (As := [.ref r]) (rest := rest) (owner := RX7) (rm := rm_X0_nextPlace) (c_X0_nextPlace (G := G) (base := base) (l := l) h_o h_r h_w hP hlf) mY_X0_nextPlace hl sm_X7_nextPlace_X7 (Or.inl de_X7_nextPlace) (by decide +kernel) rfl se_X0_X7_nextPlace_X0_nextPlace im_X0_nextPlace h_o rfl rfl ⟨Nat.le_trans (Nat.le_of_ble_eq_true rfl) hfr, Nat.le_trans (Nat.le_of_ble_eq_true rfl) hlo⟩ rfl hw hcs hdg
  · rw [nxI_3]
    exact fx_runU C hH hls (As := [.ref r]) (rest := rest) (owner := RX7) (rm := rm_X5_nextPlace) (c_X5_nextPlace_Lamp (G := G) (base := base) (l := l) h_o h_r h_w hP) mY_X5_nextPlace hl sm_X7_nextPlace_X7 (Or.inl de_X7_nextPlace) (by decide +kernel) rfl se_X1_X7_nextPlace_X5_nextPlace im_X5_nextPlace h_o rfl rfl ⟨Nat.le_trans (Nat.le_of_ble_eq_true rfl) hfr, Nat.le_trans (Nat.le_of_ble_eq_true rfl) hlo⟩ rfl hw hcs hdg
  · rw [nxI_4]
    exact fx_runU C hH hls (As := [.ref r]) (rest := rest) (owner := RX7) (rm := rm_X3_nextPlace) (c_X3_nextPlace_Likeliest (G := G) (base := base) (l := l) h_o h_r h_k h_w hP) mY_X3_nextPlace hl sm_X7_nextPlace_X7 (Or.inl de_X7_nextPlace) (by decide +kernel) rfl se_X3_X7_nextPlace_X3_nextPlace im_X3_nextPlace h_o rfl rfl ⟨Nat.le_trans (Nat.le_of_ble_eq_true rfl) hfr, Nat.le_trans (Nat.le_of_ble_eq_true rfl) hlo⟩ rfl hw hcs hdg
  · rw [nxI_5]
    exact fx_runU C hH hls (As := [.ref r]) (rest := rest) (owner := RX7) (rm := rm_X8_nextPlace) (c_X8_nextPlace (G := G) (base := base) (l := l) h_o h_r h_k h_w hP) mY_X8_nextPlace hl sm_X7_nextPlace_X7 (Or.inl de_X7_nextPlace) (by decide +kernel) rfl se_X8_X7_nextPlace_X8_nextPlace im_X8_nextPlace h_o rfl rfl ⟨Nat.le_trans (Nat.le_of_ble_eq_true rfl) hfr, Nat.le_trans (Nat.le_of_ble_eq_true rfl) hlo⟩ rfl hw hcs hdg
abbrev rm_X4_takeTouch : Room := { frames := 2, cells := 0, slots := 0, locals := 42 }
set_option maxHeartbeats 4000000 in
set_option maxRecDepth 100000 in
theorem c_X4_takeTouch {G : GG} {base : Nat} {l : Launch} {f : Hp} {sz : Nat} {cv : Nat} {r : Nat} {o : Nat} {fe : Nat} {k : Nat} {w : Nat} {pl : Nat} {wy : Int32} {se : Int32} {to : Int32} {lf : Int32} {ta : Int32} {q : Nat → Int64} {wt : Nat} {ch : Nat} {sk : Nat} {P : Nat} {st : Nat} {ov : Int32} {mi : Int32} {ri : Int32} {tl : Int32} {gc : Nat → Int32} {K : Nat} {nn : Int32} {wi : Nat} {ag : Nat} (h_r : f r = some (oO 4 [.ref k, .ref w, .int (nI pl), .int wy, .int se, .int to, .int lf, .int ta])) (h_k : f k = some (oJ 13 q)) (h_w : f w = some (oO 2 [.ref wt, .ref ch, .ref sk, .int (nI P), .int (nI st), .int ov, .int mi, .int ri, .int tl])) (h_ch : f ch = some (oI 12 gc)) (h_o : f o = some (skC K nn (nI wi) (nI ag))) (hK : 1 ≤ K ∧ K ≤ 5) (hwi : wi ≤ 10) (hag : ag ≤ 10) (hP : 1 ≤ P ∧ P ≤ 12) (hpl : pl < P) (hcv : gc pl = nI cv) (hcv2 : cv ≤ 10) (hfe : fe ≤ 1) : fx_M G base l yX4_takeTouch cX4_takeTouch 5 none rm_X4_takeTouch [.ref r, .ref o, .int (nI fe)] f sz none (fx_up (fx_up f k (oJ 13 (wg q pl (if fe = 1 then feN K wi ag wy else 10 - feN K wi ag wy) (if fe = 1 then cv else 10 - cv) (P + 1)))) r (oO 4 [.ref k, .ref w, .int (nI pl), .int wy, .int (se + nI 1), .int (to + nI 1), .int (nI fe), .int ta])) sz := by
  refine fx_of (by decide +kernel) (Nat.le_of_ble_eq_true rfl) ?_
  intro p e s m args below meth c C hr hk hnm hH ls hl
  obtain ⟨locs, hlocs⟩ : ∃ L : List Loc, L = [] := ⟨_, rfl⟩
  rw [← hlocs] at hH ⊢
  generalize s.heap = H at hH ⊢
  have hx := C.1
  have hb := C.2.1
  have hl : lv_has ls 5 [(0, .ref r), (1, .ref o), (2, .int (nI fe))] := hl
  have hfl : feN K wi ag wy ≤ 10 := feN_le hwi hag
  refine lv_aload_n hx hb dX4_takeTouch_0 rfl (lv_at hl 1 rfl) ?_
  refine lv_aload_n hx hb dX4_takeTouch_1 rfl (lv_at hl 0 rfl) ?_
  refine fx_get C hH (k := 3) (v := .int wy) h_r ff_X4_15_4 rfl dX4_takeTouch_2 ?_
  refine fx_go1 hH (vk_feel C hH hl.1 (f := f) (sz := sz) (o := o) (wy := wy) (K := K) (nn := nn) (wi := wi) (ag := ag) h_o (by omega) (by omega) (by omega)  (rest := []) ml_X4_57 (Nat.le_of_ble_eq_true rfl) (Nat.le_of_ble_eq_true rfl) (Nat.le_of_ble_eq_true rfl) ⟨(Nat.le_of_ble_eq_true rfl), (Nat.le_of_ble_eq_true rfl)⟩ dX4_takeTouch_5) (fun H locs hH => ?_)
  refine lv_istore_n (lv' := [(3, .int (nI (feN K wi ag wy))), (0, .ref r), (1, .ref o), (2, .int (nI fe))]) hx hb dX4_takeTouch_8 rfl hl (by decide) rfl (fun ls hl => ?_)
  refine lv_aload_n hx hb dX4_takeTouch_9 rfl (lv_at hl 1 rfl) ?_
  refine fx_get C hH (k := 1) (v := .ref w) h_r ff_X4_23_4 rfl dX4_takeTouch_10 ?_
  refine fx_get C hH (k := 1) (v := .ref ch) h_w ff_X4_63_2 rfl dX4_takeTouch_13 ?_
  refine lv_aload_n hx hb dX4_takeTouch_16 rfl (lv_at hl 1 rfl) ?_
  refine fx_get C hH (k := 2) (v := .int (nI pl)) h_r ff_X4_27_4 rfl dX4_takeTouch_17 ?_
  refine fx_ialdN C hH h_ch (by omega) (by omega) dX4_takeTouch_20 ?_
  refine fx_ti (y := nI cv) hcv ?_
  refine lv_istore (lv' := [(4, .int (nI cv)), (3, .int (nI (feN K wi ag wy))), (0, .ref r), (1, .ref o), (2, .int (nI fe))]) hx hb dX4_takeTouch_21 hl (by decide) rfl (fun ls hl => ?_)
  refine lv_iload_n hx hb dX4_takeTouch_23 rfl (lv_at hl 4 rfl) ?_
  refine lv_iconst (v := nI 1) hx hb dX4_takeTouch_24 (by decide) ?_
  refine fx_N_ne (a := fe) (b := 1) hx hb (by omega) (by omega) (tgt := 38) dX4_takeTouch_25 (by decide) (fun c25 => ?_) (fun c25 => ?_)
  · refine lv_aload_n hx hb dX4_takeTouch_38 rfl (lv_at hl 2 rfl) ?_
    refine lv_bipush (v := nI 10) hx hb dX4_takeTouch_39 (by decide) ?_
    refine lv_iload_n hx hb dX4_takeTouch_41 rfl (lv_at hl 1 rfl) ?_
    refine lv_isub hx hb dX4_takeTouch_42 ?_
    refine fx_ti (y := nI (10 - (feN K wi ag wy))) (pk_sub (by omega)) ?_
    refine lv_bipush (v := nI 10) hx hb dX4_takeTouch_43 (by decide) ?_
    refine lv_iload hx hb dX4_takeTouch_45 (lv_at hl 0 rfl) ?_
    refine lv_isub hx hb dX4_takeTouch_47 ?_
    refine fx_ti (y := nI (10 - cv)) (pk_sub (by omega)) ?_
    refine fx_go0 hH (fx_runV C hH hl.1 (As := [.int (nI (10 - (feN K wi ag wy))), .int (nI (10 - cv))]) (rest := []) (c_X4_weigh (G := G) (base := base) (l := l) (f := f) (sz := sz) (r := r) (h := 10 - (feN K wi ag wy)) (e_ := 10 - cv) (k := k) (w := w) (pl := pl) (wy := wy) (se := se) (to := to) (lf := lf) (ta := ta) (q := q) (wt := wt) (ch := ch) (sk := sk) (P := P) (st := st) (ov := ov) (mi := mi) (ri := ri) (tl := tl) h_r h_k h_w (by omega) (by omega) (by omega) (by omega)) mY_X4_weigh ml_X4_66 im_X4_weigh se_X4_X4_weigh h_r rfl rfl ⟨(Nat.le_of_ble_eq_true rfl), (Nat.le_of_ble_eq_true rfl)⟩ rfl (Nat.le_of_ble_eq_true rfl) ⟨(Nat.le_of_ble_eq_true rfl), (Nat.le_of_ble_eq_true rfl)⟩ dX4_takeTouch_48) (fun H locs hH => ?_)
    have hH : fx_H G base s (fx_up f k (oJ 13 (wg q pl (10 - (feN K wi ag wy)) (10 - cv) (P + 1)))) sz H locs := hH
    have h1_r : (fx_up f k (oJ 13 (wg q pl (10 - (feN K wi ag wy)) (10 - cv) (P + 1)))) r = some (oO 4 [.ref k, .ref w, .int (nI pl), .int wy, .int se, .int to, .int lf, .int ta]) := (fx_up_n _ _ (fx_ne h_r h_k rfl)).trans h_r
    have h1_w : (fx_up f k (oJ 13 (wg q pl (10 - (feN K wi ag wy)) (10 - cv) (P + 1)))) w = some (oO 2 [.ref wt, .ref ch, .ref sk, .int (nI P), .int (nI st), .int ov, .int mi, .int ri, .int tl]) := (fx_up_n _ _ (fx_ne h_w h_k rfl)).trans h_w
    have h1_ch : (fx_up f k (oJ 13 (wg q pl (10 - (feN K wi ag wy)) (10 - cv) (P + 1)))) ch = some (oI 12 gc) := (fx_up_n _ _ (fx_ne h_ch h_k rfl)).trans h_ch
    have h1_o : (fx_up f k (oJ 13 (wg q pl (10 - (feN K wi ag wy)) (10 - cv) (P + 1)))) o = some (skC K nn (nI wi) (nI ag)) := (fx_up_n _ _ (fx_neK h_o h_k rfl)).trans h_o
    have h1_k : (fx_up f k (oJ 13 (wg q pl (10 - (feN K wi ag wy)) (10 - cv) (P + 1)))) k = some (oJ 13 (wg q pl (10 - (feN K wi ag wy)) (10 - cv) (P + 1))) := fx_up_s _ _ _
    have hH : fx_H G base s (fx_up f k (oJ 13 (wg q pl (10 - (feN K wi ag wy)) (10 - cv) (P + 1)))) sz H locs := hH
    refine lv_aload_n hx hb dX4_takeTouch_51 rfl (lv_at hl 2 rfl) ?_
    refine lv_dup hx hb dX4_takeTouch_52 rfl ?_
    refine fx_get C hH (k := 4) (v := .int se) h1_r ff_X4_30_4 rfl dX4_takeTouch_53 ?_
    refine lv_iconst (v := nI 1) hx hb dX4_takeTouch_56 (by decide) ?_
    refine lv_iadd hx hb dX4_takeTouch_57 ?_
    refine fx_putT C hH (k := 4) h1_r ff_X4_30_4 fL_4 fT_4_4 rfl rfl (Nat.le_of_ble_eq_true rfl) dX4_takeTouch_58 (fun H locs hH => ?_)
    have hH : fx_H G base s (fx_up (fx_up f k (oJ 13 (wg q pl (10 - (feN K wi ag wy)) (10 - cv) (P + 1)))) r (oO 4 [.ref k, .ref w, .int (nI pl), .int wy, .int (se + (nI 1)), .int to, .int lf, .int ta])) sz H locs := hH
    have h2_w : (fx_up (fx_up f k (oJ 13 (wg q pl (10 - (feN K wi ag wy)) (10 - cv) (P + 1)))) r (oO 4 [.ref k, .ref w, .int (nI pl), .int wy, .int (se + (nI 1)), .int to, .int lf, .int ta])) w = some (oO 2 [.ref wt, .ref ch, .ref sk, .int (nI P), .int (nI st), .int ov, .int mi, .int ri, .int tl]) := (fx_up_n _ _ (fx_ne h1_w h1_r rfl)).trans h1_w
    have h2_ch : (fx_up (fx_up f k (oJ 13 (wg q pl (10 - (feN K wi ag wy)) (10 - cv) (P + 1)))) r (oO 4 [.ref k, .ref w, .int (nI pl), .int wy, .int (se + (nI 1)), .int to, .int lf, .int ta])) ch = some (oI 12 gc) := (fx_up_n _ _ (fx_ne h1_ch h1_r rfl)).trans h1_ch
    have h2_o : (fx_up (fx_up f k (oJ 13 (wg q pl (10 - (feN K wi ag wy)) (10 - cv) (P + 1)))) r (oO 4 [.ref k, .ref w, .int (nI pl), .int wy, .int (se + (nI 1)), .int to, .int lf, .int ta])) o = some (skC K nn (nI wi) (nI ag)) := (fx_up_n _ _ (fx_neK h1_o h1_r rfl)).trans h1_o
    have h2_k : (fx_up (fx_up f k (oJ 13 (wg q pl (10 - (feN K wi ag wy)) (10 - cv) (P + 1)))) r (oO 4 [.ref k, .ref w, .int (nI pl), .int wy, .int (se + (nI 1)), .int to, .int lf, .int ta])) k = some (oJ 13 (wg q pl (10 - (feN K wi ag wy)) (10 - cv) (P + 1))) := (fx_up_n _ _ (fx_ne h1_k h1_r rfl)).trans h1_k
    have h2_r : (fx_up (fx_up f k (oJ 13 (wg q pl (10 - (feN K wi ag wy)) (10 - cv) (P + 1)))) r (oO 4 [.ref k, .ref w, .int (nI pl), .int wy, .int (se + (nI 1)), .int to, .int lf, .int ta])) r = some (oO 4 [.ref k, .ref w, .int (nI pl), .int wy, .int (se + (nI 1)), .int to, .int lf, .int ta]) := fx_up_s _ _ _
    refine lv_aload_n hx hb dX4_takeTouch_61 rfl (lv_at hl 2 rfl) ?_
    refine lv_dup hx hb dX4_takeTouch_62 rfl ?_
    refine fx_get C hH (k := 5) (v := .int to) h2_r ff_X4_33_4 rfl dX4_takeTouch_63 ?_
    refine lv_iconst (v := nI 1) hx hb dX4_takeTouch_66 (by decide) ?_
    refine lv_iadd hx hb dX4_takeTouch_67 ?_
    refine fx_putT C hH (k := 5) h2_r ff_X4_33_4 fL_4 fT_4_5 rfl rfl (Nat.le_of_ble_eq_true rfl) dX4_takeTouch_68 (fun H locs hH => ?_)
    have hH : fx_H G base s (fx_up (fx_up (fx_up f k (oJ 13 (wg q pl (10 - (feN K wi ag wy)) (10 - cv) (P + 1)))) r (oO 4 [.ref k, .ref w, .int (nI pl), .int wy, .int (se + (nI 1)), .int to, .int lf, .int ta])) r (oO 4 [.ref k, .ref w, .int (nI pl), .int wy, .int (se + (nI 1)), .int (to + (nI 1)), .int lf, .int ta])) sz H locs := hH
    rw [fx_up_up] at hH
    have hH : fx_H G base s (fx_up (fx_up f k (oJ 13 (wg q pl (10 - (feN K wi ag wy)) (10 - cv) (P + 1)))) r (oO 4 [.ref k, .ref w, .int (nI pl), .int wy, .int (se + (nI 1)), .int (to + (nI 1)), .int lf, .int ta])) sz H locs := hH
    have heq3 : fx_up (fx_up (fx_up f k (oJ 13 (wg q pl (10 - (feN K wi ag wy)) (10 - cv) (P + 1)))) r (oO 4 [.ref k, .ref w, .int (nI pl), .int wy, .int (se + (nI 1)), .int to, .int lf, .int ta])) r (oO 4 [.ref k, .ref w, .int (nI pl), .int wy, .int (se + (nI 1)), .int (to + (nI 1)), .int lf, .int ta]) = fx_up (fx_up f k (oJ 13 (wg q pl (10 - (feN K wi ag wy)) (10 - cv) (P + 1)))) r (oO 4 [.ref k, .ref w, .int (nI pl), .int wy, .int (se + (nI 1)), .int (to + (nI 1)), .int lf, .int ta]) := by rw [fx_up_up]
    have h3_w : (fx_up (fx_up f k (oJ 13 (wg q pl (10 - (feN K wi ag wy)) (10 - cv) (P + 1)))) r (oO 4 [.ref k, .ref w, .int (nI pl), .int wy, .int (se + (nI 1)), .int (to + (nI 1)), .int lf, .int ta])) w = some (oO 2 [.ref wt, .ref ch, .ref sk, .int (nI P), .int (nI st), .int ov, .int mi, .int ri, .int tl]) := (congrFun heq3 w).symm.trans ((fx_up_n _ _ (fx_ne h2_w h2_r rfl)).trans h2_w)
    have h3_ch : (fx_up (fx_up f k (oJ 13 (wg q pl (10 - (feN K wi ag wy)) (10 - cv) (P + 1)))) r (oO 4 [.ref k, .ref w, .int (nI pl), .int wy, .int (se + (nI 1)), .int (to + (nI 1)), .int lf, .int ta])) ch = some (oI 12 gc) := (congrFun heq3 ch).symm.trans ((fx_up_n _ _ (fx_ne h2_ch h2_r rfl)).trans h2_ch)
    have h3_o : (fx_up (fx_up f k (oJ 13 (wg q pl (10 - (feN K wi ag wy)) (10 - cv) (P + 1)))) r (oO 4 [.ref k, .ref w, .int (nI pl), .int wy, .int (se + (nI 1)), .int (to + (nI 1)), .int lf, .int ta])) o = some (skC K nn (nI wi) (nI ag)) := (congrFun heq3 o).symm.trans ((fx_up_n _ _ (fx_neK h2_o h2_r rfl)).trans h2_o)
    have h3_k : (fx_up (fx_up f k (oJ 13 (wg q pl (10 - (feN K wi ag wy)) (10 - cv) (P + 1)))) r (oO 4 [.ref k, .ref w, .int (nI pl), .int wy, .int (se + (nI 1)), .int (to + (nI 1)), .int lf, .int ta])) k = some (oJ 13 (wg q pl (10 - (feN K wi ag wy)) (10 - cv) (P + 1))) := (congrFun heq3 k).symm.trans ((fx_up_n _ _ (fx_ne h2_k h2_r rfl)).trans h2_k)
    have h3_r : (fx_up (fx_up f k (oJ 13 (wg q pl (10 - (feN K wi ag wy)) (10 - cv) (P + 1)))) r (oO 4 [.ref k, .ref w, .int (nI pl), .int wy, .int (se + (nI 1)), .int (to + (nI 1)), .int lf, .int ta])) r = some (oO 4 [.ref k, .ref w, .int (nI pl), .int wy, .int (se + (nI 1)), .int (to + (nI 1)), .int lf, .int ta]) := (congrFun heq3 r).symm.trans (fx_up_s _ _ _)
    refine lv_aload_n hx hb dX4_takeTouch_71 rfl (lv_at hl 2 rfl) ?_
    refine lv_iload_n hx hb dX4_takeTouch_72 rfl (lv_at hl 4 rfl) ?_
    refine fx_putT C hH (k := 6) h3_r ff_X4_36_4 fL_4 fT_4_6 rfl rfl (Nat.le_of_ble_eq_true rfl) dX4_takeTouch_73 (fun H locs hH => ?_)
    have hH : fx_H G base s (fx_up (fx_up (fx_up f k (oJ 13 (wg q pl (10 - (feN K wi ag wy)) (10 - cv) (P + 1)))) r (oO 4 [.ref k, .ref w, .int (nI pl), .int wy, .int (se + (nI 1)), .int (to + (nI 1)), .int lf, .int ta])) r (oO 4 [.ref k, .ref w, .int (nI pl), .int wy, .int (se + (nI 1)), .int (to + (nI 1)), .int (nI fe), .int ta])) sz H locs := hH
    rw [fx_up_up] at hH
    have hH : fx_H G base s (fx_up (fx_up f k (oJ 13 (wg q pl (10 - (feN K wi ag wy)) (10 - cv) (P + 1)))) r (oO 4 [.ref k, .ref w, .int (nI pl), .int wy, .int (se + (nI 1)), .int (to + (nI 1)), .int (nI fe), .int ta])) sz H locs := hH
    have heq4 : fx_up (fx_up (fx_up f k (oJ 13 (wg q pl (10 - (feN K wi ag wy)) (10 - cv) (P + 1)))) r (oO 4 [.ref k, .ref w, .int (nI pl), .int wy, .int (se + (nI 1)), .int (to + (nI 1)), .int lf, .int ta])) r (oO 4 [.ref k, .ref w, .int (nI pl), .int wy, .int (se + (nI 1)), .int (to + (nI 1)), .int (nI fe), .int ta]) = fx_up (fx_up f k (oJ 13 (wg q pl (10 - (feN K wi ag wy)) (10 - cv) (P + 1)))) r (oO 4 [.ref k, .ref w, .int (nI pl), .int wy, .int (se + (nI 1)), .int (to + (nI 1)), .int (nI fe), .int ta]) := by rw [fx_up_up]
    have h4_w : (fx_up (fx_up f k (oJ 13 (wg q pl (10 - (feN K wi ag wy)) (10 - cv) (P + 1)))) r (oO 4 [.ref k, .ref w, .int (nI pl), .int wy, .int (se + (nI 1)), .int (to + (nI 1)), .int (nI fe), .int ta])) w = some (oO 2 [.ref wt, .ref ch, .ref sk, .int (nI P), .int (nI st), .int ov, .int mi, .int ri, .int tl]) := (congrFun heq4 w).symm.trans ((fx_up_n _ _ (fx_ne h3_w h3_r rfl)).trans h3_w)
    have h4_ch : (fx_up (fx_up f k (oJ 13 (wg q pl (10 - (feN K wi ag wy)) (10 - cv) (P + 1)))) r (oO 4 [.ref k, .ref w, .int (nI pl), .int wy, .int (se + (nI 1)), .int (to + (nI 1)), .int (nI fe), .int ta])) ch = some (oI 12 gc) := (congrFun heq4 ch).symm.trans ((fx_up_n _ _ (fx_ne h3_ch h3_r rfl)).trans h3_ch)
    have h4_o : (fx_up (fx_up f k (oJ 13 (wg q pl (10 - (feN K wi ag wy)) (10 - cv) (P + 1)))) r (oO 4 [.ref k, .ref w, .int (nI pl), .int wy, .int (se + (nI 1)), .int (to + (nI 1)), .int (nI fe), .int ta])) o = some (skC K nn (nI wi) (nI ag)) := (congrFun heq4 o).symm.trans ((fx_up_n _ _ (fx_neK h3_o h3_r rfl)).trans h3_o)
    have h4_k : (fx_up (fx_up f k (oJ 13 (wg q pl (10 - (feN K wi ag wy)) (10 - cv) (P + 1)))) r (oO 4 [.ref k, .ref w, .int (nI pl), .int wy, .int (se + (nI 1)), .int (to + (nI 1)), .int (nI fe), .int ta])) k = some (oJ 13 (wg q pl (10 - (feN K wi ag wy)) (10 - cv) (P + 1))) := (congrFun heq4 k).symm.trans ((fx_up_n _ _ (fx_ne h3_k h3_r rfl)).trans h3_k)
    have h4_r : (fx_up (fx_up f k (oJ 13 (wg q pl (10 - (feN K wi ag wy)) (10 - cv) (P + 1)))) r (oO 4 [.ref k, .ref w, .int (nI pl), .int wy, .int (se + (nI 1)), .int (to + (nI 1)), .int (nI fe), .int ta])) r = some (oO 4 [.ref k, .ref w, .int (nI pl), .int wy, .int (se + (nI 1)), .int (to + (nI 1)), .int (nI fe), .int ta]) := (congrFun heq4 r).symm.trans (fx_up_s _ _ _)
    exact fx_vret C hr hk hH (by rw [if_neg c25, if_neg c25]) rfl (Nat.zero_le _) (Nat.zero_le _) dX4_takeTouch_76
  · refine lv_aload_n hx hb dX4_takeTouch_28 rfl (lv_at hl 2 rfl) ?_
    refine lv_iload_n hx hb dX4_takeTouch_29 rfl (lv_at hl 1 rfl) ?_
    refine lv_iload hx hb dX4_takeTouch_30 (lv_at hl 0 rfl) ?_
    refine fx_go0 hH (fx_runV C hH hl.1 (As := [.int (nI (feN K wi ag wy)), .int (nI cv)]) (rest := []) (c_X4_weigh (G := G) (base := base) (l := l) (f := f) (sz := sz) (r := r) (h := feN K wi ag wy) (e_ := cv) (k := k) (w := w) (pl := pl) (wy := wy) (se := se) (to := to) (lf := lf) (ta := ta) (q := q) (wt := wt) (ch := ch) (sk := sk) (P := P) (st := st) (ov := ov) (mi := mi) (ri := ri) (tl := tl) h_r h_k h_w (by omega) (by omega) (by omega) (by omega)) mY_X4_weigh ml_X4_66 im_X4_weigh se_X4_X4_weigh h_r rfl rfl ⟨(Nat.le_of_ble_eq_true rfl), (Nat.le_of_ble_eq_true rfl)⟩ rfl (Nat.le_of_ble_eq_true rfl) ⟨(Nat.le_of_ble_eq_true rfl), (Nat.le_of_ble_eq_true rfl)⟩ dX4_takeTouch_32) (fun H locs hH => ?_)
    have hH : fx_H G base s (fx_up f k (oJ 13 (wg q pl (feN K wi ag wy) cv (P + 1)))) sz H locs := hH
    have h5_r : (fx_up f k (oJ 13 (wg q pl (feN K wi ag wy) cv (P + 1)))) r = some (oO 4 [.ref k, .ref w, .int (nI pl), .int wy, .int se, .int to, .int lf, .int ta]) := (fx_up_n _ _ (fx_ne h_r h_k rfl)).trans h_r
    have h5_w : (fx_up f k (oJ 13 (wg q pl (feN K wi ag wy) cv (P + 1)))) w = some (oO 2 [.ref wt, .ref ch, .ref sk, .int (nI P), .int (nI st), .int ov, .int mi, .int ri, .int tl]) := (fx_up_n _ _ (fx_ne h_w h_k rfl)).trans h_w
    have h5_ch : (fx_up f k (oJ 13 (wg q pl (feN K wi ag wy) cv (P + 1)))) ch = some (oI 12 gc) := (fx_up_n _ _ (fx_ne h_ch h_k rfl)).trans h_ch
    have h5_o : (fx_up f k (oJ 13 (wg q pl (feN K wi ag wy) cv (P + 1)))) o = some (skC K nn (nI wi) (nI ag)) := (fx_up_n _ _ (fx_neK h_o h_k rfl)).trans h_o
    have h5_k : (fx_up f k (oJ 13 (wg q pl (feN K wi ag wy) cv (P + 1)))) k = some (oJ 13 (wg q pl (feN K wi ag wy) cv (P + 1))) := fx_up_s _ _ _
    have hH : fx_H G base s (fx_up f k (oJ 13 (wg q pl (feN K wi ag wy) cv (P + 1)))) sz H locs := hH
    refine lv_goto (tgt := 51) hx hb dX4_takeTouch_35 (by decide) ?_
    refine lv_aload_n hx hb dX4_takeTouch_51 rfl (lv_at hl 2 rfl) ?_
    refine lv_dup hx hb dX4_takeTouch_52 rfl ?_
    refine fx_get C hH (k := 4) (v := .int se) h5_r ff_X4_30_4 rfl dX4_takeTouch_53 ?_
    refine lv_iconst (v := nI 1) hx hb dX4_takeTouch_56 (by decide) ?_
    refine lv_iadd hx hb dX4_takeTouch_57 ?_
    refine fx_putT C hH (k := 4) h5_r ff_X4_30_4 fL_4 fT_4_4 rfl rfl (Nat.le_of_ble_eq_true rfl) dX4_takeTouch_58 (fun H locs hH => ?_)
    have hH : fx_H G base s (fx_up (fx_up f k (oJ 13 (wg q pl (feN K wi ag wy) cv (P + 1)))) r (oO 4 [.ref k, .ref w, .int (nI pl), .int wy, .int (se + (nI 1)), .int to, .int lf, .int ta])) sz H locs := hH
    have h6_w : (fx_up (fx_up f k (oJ 13 (wg q pl (feN K wi ag wy) cv (P + 1)))) r (oO 4 [.ref k, .ref w, .int (nI pl), .int wy, .int (se + (nI 1)), .int to, .int lf, .int ta])) w = some (oO 2 [.ref wt, .ref ch, .ref sk, .int (nI P), .int (nI st), .int ov, .int mi, .int ri, .int tl]) := (fx_up_n _ _ (fx_ne h5_w h5_r rfl)).trans h5_w
    have h6_ch : (fx_up (fx_up f k (oJ 13 (wg q pl (feN K wi ag wy) cv (P + 1)))) r (oO 4 [.ref k, .ref w, .int (nI pl), .int wy, .int (se + (nI 1)), .int to, .int lf, .int ta])) ch = some (oI 12 gc) := (fx_up_n _ _ (fx_ne h5_ch h5_r rfl)).trans h5_ch
    have h6_o : (fx_up (fx_up f k (oJ 13 (wg q pl (feN K wi ag wy) cv (P + 1)))) r (oO 4 [.ref k, .ref w, .int (nI pl), .int wy, .int (se + (nI 1)), .int to, .int lf, .int ta])) o = some (skC K nn (nI wi) (nI ag)) := (fx_up_n _ _ (fx_neK h5_o h5_r rfl)).trans h5_o
    have h6_k : (fx_up (fx_up f k (oJ 13 (wg q pl (feN K wi ag wy) cv (P + 1)))) r (oO 4 [.ref k, .ref w, .int (nI pl), .int wy, .int (se + (nI 1)), .int to, .int lf, .int ta])) k = some (oJ 13 (wg q pl (feN K wi ag wy) cv (P + 1))) := (fx_up_n _ _ (fx_ne h5_k h5_r rfl)).trans h5_k
    have h6_r : (fx_up (fx_up f k (oJ 13 (wg q pl (feN K wi ag wy) cv (P + 1)))) r (oO 4 [.ref k, .ref w, .int (nI pl), .int wy, .int (se + (nI 1)), .int to, .int lf, .int ta])) r = some (oO 4 [.ref k, .ref w, .int (nI pl), .int wy, .int (se + (nI 1)), .int to, .int lf, .int ta]) := fx_up_s _ _ _
    refine lv_aload_n hx hb dX4_takeTouch_61 rfl (lv_at hl 2 rfl) ?_
    refine lv_dup hx hb dX4_takeTouch_62 rfl ?_
    refine fx_get C hH (k := 5) (v := .int to) h6_r ff_X4_33_4 rfl dX4_takeTouch_63 ?_
    refine lv_iconst (v := nI 1) hx hb dX4_takeTouch_66 (by decide) ?_
    refine lv_iadd hx hb dX4_takeTouch_67 ?_
    refine fx_putT C hH (k := 5) h6_r ff_X4_33_4 fL_4 fT_4_5 rfl rfl (Nat.le_of_ble_eq_true rfl) dX4_takeTouch_68 (fun H locs hH => ?_)
    have hH : fx_H G base s (fx_up (fx_up (fx_up f k (oJ 13 (wg q pl (feN K wi ag wy) cv (P + 1)))) r (oO 4 [.ref k, .ref w, .int (nI pl), .int wy, .int (se + (nI 1)), .int to, .int lf, .int ta])) r (oO 4 [.ref k, .ref w, .int (nI pl), .int wy, .int (se + (nI 1)), .int (to + (nI 1)), .int lf, .int ta])) sz H locs := hH
    rw [fx_up_up] at hH
    have hH : fx_H G base s (fx_up (fx_up f k (oJ 13 (wg q pl (feN K wi ag wy) cv (P + 1)))) r (oO 4 [.ref k, .ref w, .int (nI pl), .int wy, .int (se + (nI 1)), .int (to + (nI 1)), .int lf, .int ta])) sz H locs := hH
    have heq7 : fx_up (fx_up (fx_up f k (oJ 13 (wg q pl (feN K wi ag wy) cv (P + 1)))) r (oO 4 [.ref k, .ref w, .int (nI pl), .int wy, .int (se + (nI 1)), .int to, .int lf, .int ta])) r (oO 4 [.ref k, .ref w, .int (nI pl), .int wy, .int (se + (nI 1)), .int (to + (nI 1)), .int lf, .int ta]) = fx_up (fx_up f k (oJ 13 (wg q pl (feN K wi ag wy) cv (P + 1)))) r (oO 4 [.ref k, .ref w, .int (nI pl), .int wy, .int (se + (nI 1)), .int (to + (nI 1)), .int lf, .int ta]) := by rw [fx_up_up]
    have h7_w : (fx_up (fx_up f k (oJ 13 (wg q pl (feN K wi ag wy) cv (P + 1)))) r (oO 4 [.ref k, .ref w, .int (nI pl), .int wy, .int (se + (nI 1)), .int (to + (nI 1)), .int lf, .int ta])) w = some (oO 2 [.ref wt, .ref ch, .ref sk, .int (nI P), .int (nI st), .int ov, .int mi, .int ri, .int tl]) := (congrFun heq7 w).symm.trans ((fx_up_n _ _ (fx_ne h6_w h6_r rfl)).trans h6_w)
    have h7_ch : (fx_up (fx_up f k (oJ 13 (wg q pl (feN K wi ag wy) cv (P + 1)))) r (oO 4 [.ref k, .ref w, .int (nI pl), .int wy, .int (se + (nI 1)), .int (to + (nI 1)), .int lf, .int ta])) ch = some (oI 12 gc) := (congrFun heq7 ch).symm.trans ((fx_up_n _ _ (fx_ne h6_ch h6_r rfl)).trans h6_ch)
    have h7_o : (fx_up (fx_up f k (oJ 13 (wg q pl (feN K wi ag wy) cv (P + 1)))) r (oO 4 [.ref k, .ref w, .int (nI pl), .int wy, .int (se + (nI 1)), .int (to + (nI 1)), .int lf, .int ta])) o = some (skC K nn (nI wi) (nI ag)) := (congrFun heq7 o).symm.trans ((fx_up_n _ _ (fx_neK h6_o h6_r rfl)).trans h6_o)
    have h7_k : (fx_up (fx_up f k (oJ 13 (wg q pl (feN K wi ag wy) cv (P + 1)))) r (oO 4 [.ref k, .ref w, .int (nI pl), .int wy, .int (se + (nI 1)), .int (to + (nI 1)), .int lf, .int ta])) k = some (oJ 13 (wg q pl (feN K wi ag wy) cv (P + 1))) := (congrFun heq7 k).symm.trans ((fx_up_n _ _ (fx_ne h6_k h6_r rfl)).trans h6_k)
    have h7_r : (fx_up (fx_up f k (oJ 13 (wg q pl (feN K wi ag wy) cv (P + 1)))) r (oO 4 [.ref k, .ref w, .int (nI pl), .int wy, .int (se + (nI 1)), .int (to + (nI 1)), .int lf, .int ta])) r = some (oO 4 [.ref k, .ref w, .int (nI pl), .int wy, .int (se + (nI 1)), .int (to + (nI 1)), .int lf, .int ta]) := (congrFun heq7 r).symm.trans (fx_up_s _ _ _)
    refine lv_aload_n hx hb dX4_takeTouch_71 rfl (lv_at hl 2 rfl) ?_
    refine lv_iload_n hx hb dX4_takeTouch_72 rfl (lv_at hl 4 rfl) ?_
    refine fx_putT C hH (k := 6) h7_r ff_X4_36_4 fL_4 fT_4_6 rfl rfl (Nat.le_of_ble_eq_true rfl) dX4_takeTouch_73 (fun H locs hH => ?_)
    have hH : fx_H G base s (fx_up (fx_up (fx_up f k (oJ 13 (wg q pl (feN K wi ag wy) cv (P + 1)))) r (oO 4 [.ref k, .ref w, .int (nI pl), .int wy, .int (se + (nI 1)), .int (to + (nI 1)), .int lf, .int ta])) r (oO 4 [.ref k, .ref w, .int (nI pl), .int wy, .int (se + (nI 1)), .int (to + (nI 1)), .int (nI fe), .int ta])) sz H locs := hH
    rw [fx_up_up] at hH
    have hH : fx_H G base s (fx_up (fx_up f k (oJ 13 (wg q pl (feN K wi ag wy) cv (P + 1)))) r (oO 4 [.ref k, .ref w, .int (nI pl), .int wy, .int (se + (nI 1)), .int (to + (nI 1)), .int (nI fe), .int ta])) sz H locs := hH
    have heq8 : fx_up (fx_up (fx_up f k (oJ 13 (wg q pl (feN K wi ag wy) cv (P + 1)))) r (oO 4 [.ref k, .ref w, .int (nI pl), .int wy, .int (se + (nI 1)), .int (to + (nI 1)), .int lf, .int ta])) r (oO 4 [.ref k, .ref w, .int (nI pl), .int wy, .int (se + (nI 1)), .int (to + (nI 1)), .int (nI fe), .int ta]) = fx_up (fx_up f k (oJ 13 (wg q pl (feN K wi ag wy) cv (P + 1)))) r (oO 4 [.ref k, .ref w, .int (nI pl), .int wy, .int (se + (nI 1)), .int (to + (nI 1)), .int (nI fe), .int ta]) := by rw [fx_up_up]
    have h8_w : (fx_up (fx_up f k (oJ 13 (wg q pl (feN K wi ag wy) cv (P + 1)))) r (oO 4 [.ref k, .ref w, .int (nI pl), .int wy, .int (se + (nI 1)), .int (to + (nI 1)), .int (nI fe), .int ta])) w = some (oO 2 [.ref wt, .ref ch, .ref sk, .int (nI P), .int (nI st), .int ov, .int mi, .int ri, .int tl]) := (congrFun heq8 w).symm.trans ((fx_up_n _ _ (fx_ne h7_w h7_r rfl)).trans h7_w)
    have h8_ch : (fx_up (fx_up f k (oJ 13 (wg q pl (feN K wi ag wy) cv (P + 1)))) r (oO 4 [.ref k, .ref w, .int (nI pl), .int wy, .int (se + (nI 1)), .int (to + (nI 1)), .int (nI fe), .int ta])) ch = some (oI 12 gc) := (congrFun heq8 ch).symm.trans ((fx_up_n _ _ (fx_ne h7_ch h7_r rfl)).trans h7_ch)
    have h8_o : (fx_up (fx_up f k (oJ 13 (wg q pl (feN K wi ag wy) cv (P + 1)))) r (oO 4 [.ref k, .ref w, .int (nI pl), .int wy, .int (se + (nI 1)), .int (to + (nI 1)), .int (nI fe), .int ta])) o = some (skC K nn (nI wi) (nI ag)) := (congrFun heq8 o).symm.trans ((fx_up_n _ _ (fx_neK h7_o h7_r rfl)).trans h7_o)
    have h8_k : (fx_up (fx_up f k (oJ 13 (wg q pl (feN K wi ag wy) cv (P + 1)))) r (oO 4 [.ref k, .ref w, .int (nI pl), .int wy, .int (se + (nI 1)), .int (to + (nI 1)), .int (nI fe), .int ta])) k = some (oJ 13 (wg q pl (feN K wi ag wy) cv (P + 1))) := (congrFun heq8 k).symm.trans ((fx_up_n _ _ (fx_ne h7_k h7_r rfl)).trans h7_k)
    have h8_r : (fx_up (fx_up f k (oJ 13 (wg q pl (feN K wi ag wy) cv (P + 1)))) r (oO 4 [.ref k, .ref w, .int (nI pl), .int wy, .int (se + (nI 1)), .int (to + (nI 1)), .int (nI fe), .int ta])) r = some (oO 4 [.ref k, .ref w, .int (nI pl), .int wy, .int (se + (nI 1)), .int (to + (nI 1)), .int (nI fe), .int ta]) := (congrFun heq8 r).symm.trans (fx_up_s _ _ _)
    exact fx_vret C hr hk hH (by rw [if_pos c25, if_pos c25]) rfl (Nat.zero_le _) (Nat.zero_le _) dX4_takeTouch_76
abbrev rm_X4_secondsOfAll : Room := { frames := 2, cells := 0, slots := 0, locals := 51 }
set_option maxHeartbeats 4000000 in
set_option maxRecDepth 100000 in
theorem c_X4_secondsOfAll {G : GG} {base : Nat} {l : Launch} {f : Hp} {sz : Nat} {r : Nat} {o : Nat} {fr : Nat} {wr : Int32} {n : Nat} {k : Nat} {w : Nat} {pl : Nat} {wy : Int32} {se : Int32} {to : Int32} {lf : Int32} {ta : Int32} {q : Nat → Int64} {wt : Nat} {ch : Nat} {sk : Nat} {P : Nat} {st : Nat} {ov : Int32} {mi : Int32} {ri : Int32} {tl : Int32} {K : Nat} {nn : Int32} {wi : Nat} {ag : Nat} (h_r : f r = some (oO 4 [.ref k, .ref w, .int (nI pl), .int wy, .int se, .int to, .int lf, .int ta])) (h_k : f k = some (oJ 13 q)) (h_w : f w = some (oO 2 [.ref wt, .ref ch, .ref sk, .int (nI P), .int (nI st), .int ov, .int mi, .int ri, .int tl])) (h_o : f o = some (skC K nn (nI wi) (nI ag))) (hK : 1 ≤ K ∧ K ≤ 5) (hwi : wi ≤ 10) (hag : ag ≤ 10) (hP : 1 ≤ P ∧ P ≤ 12) (hst : st ≤ 9) (hfr : fr < P) (hwr : wr = nI 1 ∨ wr = -1) (hn : 1 ≤ n ∧ n ≤ 3) : fx_M G base l yX4_secondsOfAll cX4_secondsOfAll 9 (some .long) rm_X4_secondsOfAll [.ref r, .ref o, .int (nI fr), .int wr, .int (nI n)] f sz (some (.long (soA q P st (feN K wi ag wr) n fr wr P))) f sz := by
  refine fx_of (by decide +kernel) (Nat.le_of_ble_eq_true rfl) ?_
  intro p e s m args below meth c C hr hk hnm hH ls hl
  obtain ⟨locs, hlocs⟩ : ∃ L : List Loc, L = [] := ⟨_, rfl⟩
  rw [← hlocs] at hH ⊢
  generalize s.heap = H at hH ⊢
  have hx := C.1
  have hb := C.2.1
  have hl : lv_has ls 9 [(0, .ref r), (1, .ref o), (2, .int (nI fr)), (3, .int wr), (4, .int (nI n))] := hl
  have hfl : feN K wi ag wr ≤ 10 := feN_le hwi hag
  have b1 : sT st (n * P - 1) < 2 ^ 31 := sT_lt hst (by have : n * P ≤ 3 * 12 := Nat.mul_le_mul (by omega) (by omega); omega)
  have b2 : 1 ≤ n * P := Nat.mul_pos (by omega) (by omega)
  have b3 : n * P ≤ 3 * 12 := Nat.mul_le_mul (by omega) (by omega)
  refine lv_aload_n hx hb dX4_secondsOfAll_0 rfl (lv_at hl 1 rfl) ?_
  refine lv_iload_n hx hb dX4_secondsOfAll_1 rfl (lv_at hl 3 rfl) ?_
  refine fx_go1 hH (vk_feel C hH hl.1 (f := f) (sz := sz) (o := o) (wy := wr) (K := K) (nn := nn) (wi := wi) (ag := ag) h_o (by omega) (by omega) (by omega)  (rest := []) ml_X4_57 (Nat.le_of_ble_eq_true rfl) (Nat.le_of_ble_eq_true rfl) (Nat.le_of_ble_eq_true rfl) ⟨(Nat.le_of_ble_eq_true rfl), (Nat.le_of_ble_eq_true rfl)⟩ dX4_secondsOfAll_2) (fun H locs hH => ?_)
  refine lv_istore (lv' := [(5, .int (nI (feN K wi ag wr))), (0, .ref r), (1, .ref o), (2, .int (nI fr)), (3, .int wr), (4, .int (nI n))]) hx hb dX4_secondsOfAll_5 hl (by decide) rfl (fun ls hl => ?_)
  refine lv_aload_n hx hb dX4_secondsOfAll_7 rfl (lv_at hl 1 rfl) ?_
  refine fx_get C hH (k := 0) (v := .ref k) h_r ff_X4_9_4 rfl dX4_secondsOfAll_8 ?_
  refine lv_aload_n hx hb dX4_secondsOfAll_11 rfl (lv_at hl 1 rfl) ?_
  refine fx_get C hH (k := 1) (v := .ref w) h_r ff_X4_23_4 rfl dX4_secondsOfAll_12 ?_
  refine fx_get C hH (k := 3) (v := .int (nI P)) h_w ff_X4_39_2 rfl dX4_secondsOfAll_15 ?_
  refine fx_laldN C hH h_k (by omega) (by omega) dX4_secondsOfAll_18 ?_
  refine lv_iload hx hb dX4_secondsOfAll_19 (lv_at hl 5 rfl) ?_
  refine fx_go1 hH (fx_runSN C hH hl.1 (As := [.int (nI n)]) (rest := [.long (q P)]) (c_X11_tens (G := G) (base := base) (l := l) (f := f) (sz := sz) (n := n) (by omega)) mY_X11_tens mn_X4_97 st_X11_tens rfl ⟨(Nat.le_of_ble_eq_true rfl), (Nat.le_of_ble_eq_true rfl)⟩ rfl (Nat.le_of_ble_eq_true rfl) ⟨(Nat.le_of_ble_eq_true rfl), (Nat.le_of_ble_eq_true rfl)⟩ dX4_secondsOfAll_21) (fun H locs hH => ?_)
  refine lv_lmul hx hb dX4_secondsOfAll_24 ?_
  refine lv_aload_n hx hb dX4_secondsOfAll_25 rfl (lv_at hl 1 rfl) ?_
  refine lv_iload hx hb dX4_secondsOfAll_26 (lv_at hl 5 rfl) ?_
  refine lv_aload_n hx hb dX4_secondsOfAll_28 rfl (lv_at hl 1 rfl) ?_
  refine fx_get C hH (k := 1) (v := .ref w) h_r ff_X4_23_4 rfl dX4_secondsOfAll_29 ?_
  refine fx_get C hH (k := 3) (v := .int (nI P)) h_w ff_X4_39_2 rfl dX4_secondsOfAll_32 ?_
  refine lv_imul hx hb dX4_secondsOfAll_35 ?_
  refine fx_ti (y := nI (n * P)) (pk_mul _ _) ?_
  refine lv_iconst (v := nI 1) hx hb dX4_secondsOfAll_36 (by decide) ?_
  refine lv_isub hx hb dX4_secondsOfAll_37 ?_
  refine fx_ti (y := nI ((n * P) - 1)) (pk_sub (by omega)) ?_
  refine fx_go1 hH (fx_runV C hH hl.1 (As := [.int (nI ((n * P) - 1))]) (rest := [.long ((q P) * (lN (10 ^ n)))]) (c_X4_secondsTill (G := G) (base := base) (l := l) (f := f) (sz := sz) (r := r) (t := (n * P) - 1) (k := k) (w := w) (pl := pl) (wy := wy) (se := se) (to := to) (lf := lf) (ta := ta) (wt := wt) (ch := ch) (sk := sk) (P := P) (st := st) (ov := ov) (mi := mi) (ri := ri) (tl := tl) h_r h_w) mY_X4_secondsTill ml_X4_101 im_X4_secondsTill se_X4_X4_secondsTill h_r rfl rfl ⟨(Nat.le_of_ble_eq_true rfl), (Nat.le_of_ble_eq_true rfl)⟩ rfl (Nat.le_of_ble_eq_true rfl) ⟨(Nat.le_of_ble_eq_true rfl), (Nat.le_of_ble_eq_true rfl)⟩ dX4_secondsOfAll_38) (fun H locs hH => ?_)
  refine lv_i2l (v := lN (sT st ((n * P) - 1))) hx hb dX4_secondsOfAll_41 (nI_l (by omega)) ?_
  refine lv_lmul hx hb dX4_secondsOfAll_42 ?_
  refine lv_lstore (lv' := [(6, .long (((q P) * (lN (10 ^ n))) * (lN (sT st ((n * P) - 1))))), (5, .int (nI (feN K wi ag wr))), (0, .ref r), (1, .ref o), (2, .int (nI fr)), (3, .int wr), (4, .int (nI n))]) hx hb dX4_secondsOfAll_43 hl (by decide) rfl (fun ls hl => ?_)
  refine lv_iconst (v := nI 0) hx hb dX4_secondsOfAll_45 (by decide) ?_
  refine lv_istore (lv' := [(8, .int (nI 0)), (6, .long (((q P) * (lN (10 ^ n))) * (lN (sT st ((n * P) - 1))))), (5, .int (nI (feN K wi ag wr))), (0, .ref r), (1, .ref o), (2, .int (nI fr)), (3, .int wr), (4, .int (nI n))]) hx hb dX4_secondsOfAll_46 hl (by decide) rfl (fun ls hl => ?_)
  have loop_48 : ∀ (N_48 : Nat) (i : Nat) (hi : i ≤ P) (hm_48 : P - i < N_48) (H : Heap) (locs : List Loc) (hH : fx_H G base s f sz H locs) (ls : Array Slot) (hl : lv_has ls 9 [(0, .ref r), (1, .ref o), (2, .int (nI fr)), (3, .int wr), (4, .int (nI n)), (5, .int (nI (feN K wi ag wr))), (6, .long (soA q P st (feN K wi ag wr) n fr wr i)), (8, .int (nI i))]), W p l e rm_X4_secondsOfAll s m args below meth c H locs 0 0 (MQ below (fx_Q G base (some (.long (soA q P st (feN K wi ag wr) n fr wr P))) f sz) args s rm_X4_secondsOfAll.cells rm_X4_secondsOfAll.slots (fun q => base ≤ q)) (F0 m 48 ls []) := by
    intro N_48
    induction N_48 with
    | zero => intro i hi hm_48; exact absurd hm_48 (Nat.not_lt_zero _)
    | succ N_48 ih_48 =>
      intro i hi hm_48 H locs hH ls hl
      have b6 : arN P fr wr i < P := arN_lt (by omega)
      refine lv_iload hx hb dX4_secondsOfAll_48 (lv_at hl 7 rfl) ?_
      refine lv_aload_n hx hb dX4_secondsOfAll_50 rfl (lv_at hl 0 rfl) ?_
      refine fx_get C hH (k := 1) (v := .ref w) h_r ff_X4_23_4 rfl dX4_secondsOfAll_51 ?_
      refine fx_get C hH (k := 3) (v := .int (nI P)) h_w ff_X4_39_2 rfl dX4_secondsOfAll_54 ?_
      refine fx_N_ge (a := i) (b := P) hx hb (by omega) (by omega) (tgt := 100) dX4_secondsOfAll_57 (by decide) (fun c57 => ?_) (fun c57 => ?_)
      · refine lv_lload hx hb dX4_secondsOfAll_100 (lv_at hl 6 rfl) ?_
        exact fx_lret C hr hk hH (by rw [show i = P from by omega]) rfl rfl (Nat.zero_le _) (Nat.zero_le _) dX4_secondsOfAll_102
      · refine lv_lload hx hb dX4_secondsOfAll_60 (lv_at hl 6 rfl) ?_
        refine lv_aload_n hx hb dX4_secondsOfAll_62 rfl (lv_at hl 0 rfl) ?_
        refine fx_get C hH (k := 0) (v := .ref k) h_r ff_X4_9_4 rfl dX4_secondsOfAll_63 ?_
        refine lv_aload_n hx hb dX4_secondsOfAll_66 rfl (lv_at hl 0 rfl) ?_
        refine fx_get C hH (k := 1) (v := .ref w) h_r ff_X4_23_4 rfl dX4_secondsOfAll_67 ?_
        refine lv_iload_n hx hb dX4_secondsOfAll_70 rfl (lv_at hl 2 rfl) ?_
        refine lv_iload_n hx hb dX4_secondsOfAll_71 rfl (lv_at hl 3 rfl) ?_
        refine lv_iload hx hb dX4_secondsOfAll_72 (lv_at hl 7 rfl) ?_
        refine lv_imul hx hb dX4_secondsOfAll_74 ?_
        refine lv_iadd hx hb dX4_secondsOfAll_75 ?_
        refine fx_go1 hH (fx_runV C hH hl.1 (As := [.int ((nI fr) + (wr * (nI i)))]) (rest := [.ref k, .long (soA q P st (feN K wi ag wr) n fr wr i)]) (c_X2_around (G := G) (base := base) (l := l) (f := f) (sz := sz) (w := w) (x := (nI fr) + (wr * (nI i))) (wt := wt) (ch := ch) (sk := sk) (P := P) (st := st) (ov := ov) (mi := mi) (ri := ri) (tl := tl) h_w (by omega)) mY_X2_around ml_X4_70 im_X2_around se_X2_X2_around h_w rfl rfl ⟨(Nat.le_of_ble_eq_true rfl), (Nat.le_of_ble_eq_true rfl)⟩ rfl (Nat.le_of_ble_eq_true rfl) ⟨(Nat.le_of_ble_eq_true rfl), (Nat.le_of_ble_eq_true rfl)⟩ dX4_secondsOfAll_76) (fun H locs hH => ?_)
        refine fx_ti (y := nI (arN P fr wr i)) (arN_eq hwr (by omega) hfr (by omega)) ?_
        refine fx_laldN C hH h_k (by omega) (by omega) dX4_secondsOfAll_79 ?_
        refine lv_aload_n hx hb dX4_secondsOfAll_80 rfl (lv_at hl 0 rfl) ?_
        refine lv_iload hx hb dX4_secondsOfAll_81 (lv_at hl 7 rfl) ?_
        refine lv_iload hx hb dX4_secondsOfAll_83 (lv_at hl 5 rfl) ?_
        refine lv_iload hx hb dX4_secondsOfAll_85 (lv_at hl 4 rfl) ?_
        refine fx_go1 hH (fx_runV C hH hl.1 (As := [.int (nI i), .int (nI (feN K wi ag wr)), .int (nI n)]) (rest := [.long (q (arN P fr wr i)), .long (soA q P st (feN K wi ag wr) n fr wr i)]) (c_X4_secondsIfAt (G := G) (base := base) (l := l) (f := f) (sz := sz) (r := r) (kk := i) (fe := feN K wi ag wr) (n := n) (k := k) (w := w) (pl := pl) (wy := wy) (se := se) (to := to) (lf := lf) (ta := ta) (wt := wt) (ch := ch) (sk := sk) (P := P) (st := st) (ov := ov) (mi := mi) (ri := ri) (tl := tl) h_r h_w (by omega) (by omega) (by omega) (by omega) (by omega)) mY_X4_secondsIfAt ml_X4_104 im_X4_secondsIfAt se_X4_X4_secondsIfAt h_r rfl rfl ⟨(Nat.le_of_ble_eq_true rfl), (Nat.le_of_ble_eq_true rfl)⟩ rfl (Nat.le_of_ble_eq_true rfl) ⟨(Nat.le_of_ble_eq_true rfl), (Nat.le_of_ble_eq_true rfl)⟩ dX4_secondsOfAll_87) (fun H locs hH => ?_)
        refine lv_lmul hx hb dX4_secondsOfAll_90 ?_
        refine lv_ladd hx hb dX4_secondsOfAll_91 ?_
        refine lv_lstore (lv' := [(6, .long ((soA q P st (feN K wi ag wr) n fr wr i) + ((q (arN P fr wr i)) * (lN (sIA st P i (feN K wi ag wr) n))))), (0, .ref r), (1, .ref o), (2, .int (nI fr)), (3, .int wr), (4, .int (nI n)), (5, .int (nI (feN K wi ag wr))), (8, .int (nI i))]) hx hb dX4_secondsOfAll_92 hl (by decide) rfl (fun ls hl => ?_)
        refine lv_iinc (v := nI (i + 1)) (lv' := [(8, .int (nI (i + 1))), (6, .long ((soA q P st (feN K wi ag wr) n fr wr i) + ((q (arN P fr wr i)) * (lN (sIA st P i (feN K wi ag wr) n))))), (0, .ref r), (1, .ref o), (2, .int (nI fr)), (3, .int wr), (4, .int (nI n)), (5, .int (nI (feN K wi ag wr)))]) hx hb dX4_secondsOfAll_94 hl (k := 7) rfl (nI_1 _) (by decide) rfl (fun ls hl => ?_)
        refine lv_goto (tgt := 48) hx hb dX4_secondsOfAll_97 (by decide) ?_
        have hl : lv_has ls 9 [(0, .ref r), (1, .ref o), (2, .int (nI fr)), (3, .int wr), (4, .int (nI n)), (5, .int (nI (feN K wi ag wr))), (6, .long ((soA q P st (feN K wi ag wr) n fr wr i) + ((q (arN P fr wr i)) * (lN (sIA st P i (feN K wi ag wr) n))))), (8, .int (nI (i + 1)))] := lv_sub hl [2, 3, 4, 5, 6, 7, 1, 0] rfl
        have hl : lv_has ls 9 [(0, .ref r), (1, .ref o), (2, .int (nI fr)), (3, .int wr), (4, .int (nI n)), (5, .int (nI (feN K wi ag wr))), (6, .long (soA q P st (feN K wi ag wr) n fr wr (i + 1))), (8, .int (nI (i + 1)))] := hl
        exact ih_48 (i + 1) (by omega) (by omega) _ _ hH _ hl
  have hl : lv_has ls 9 [(0, .ref r), (1, .ref o), (2, .int (nI fr)), (3, .int wr), (4, .int (nI n)), (5, .int (nI (feN K wi ag wr))), (6, .long (((q P) * (lN (10 ^ n))) * (lN (sT st ((n * P) - 1))))), (8, .int (nI 0))] := lv_sub hl [3, 4, 5, 6, 7, 2, 1, 0] rfl
  have hl : lv_has ls 9 [(0, .ref r), (1, .ref o), (2, .int (nI fr)), (3, .int wr), (4, .int (nI n)), (5, .int (nI (feN K wi ag wr))), (6, .long (soA q P st (feN K wi ag wr) n fr wr 0)), (8, .int (nI 0))] := hl
  exact loop_48 _ 0 (by omega) (Nat.lt_succ_self _) _ _ hH _ hl
