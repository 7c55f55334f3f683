/-! ===== contracts that serve in all cases ===== -/
theorem gl_D : ∀ (n a b : Nat), b < a → (b * 5 ^ n < 8 ^ n ∨ a * 5 ^ (n + 1) < 8 ^ (n + 1)) → gl n a b = Nat.gcd a b
  | 0, a, b, h, hh => by
    have hb : b = 0 := by
      simp only [Nat.pow_zero, Nat.zero_add, Nat.pow_one] at hh
      omega
    subst hb
    rw [gl, Nat.gcd_zero_right]
  | n + 1, a, b, h, hh => by
    rw [gl]
    by_cases hb : b = 0
    · rw [if_pos hb, hb, Nat.gcd_zero_right]
    · rw [if_neg hb, gl_D n b (a % b) (Nat.mod_lt _ (by omega)) ?_, Nat.gcd_comm a b, Nat.gcd_rec b a, Nat.gcd_comm]
      by_cases hc : b * 5 ^ (n + 1) < 8 ^ (n + 1)
      · exact Or.inr hc
      · refine Or.inl ?_
        have h1 := hh.resolve_left hc
        have h2 : a % b + b ≤ a := by
          have := Nat.div_add_mod a b
          have h3 : 1 ≤ a / b := (Nat.one_le_div_iff (by omega)).mpr (by omega)
          have h4 : b * 1 ≤ b * (a / b) := Nat.mul_le_mul_left _ h3
          omega
        have h5 : a % b * 5 ^ n + b * 5 ^ n ≤ a * 5 ^ n := by rw [← Nat.add_mul]; exact Nat.mul_le_mul_right _ h2
        rw [Nat.pow_succ, Nat.pow_succ, Nat.pow_succ, Nat.pow_succ, ← Nat.mul_assoc, ← Nat.mul_assoc] at h1
        rw [Nat.pow_succ, Nat.pow_succ, ← Nat.mul_assoc] at hc
        generalize a % b * 5 ^ n = u at *
        generalize b * 5 ^ n = v at *
        generalize a * 5 ^ n = w at *
        generalize 8 ^ n = y at *
        omega
theorem gl_gcd {a b : Nat} (hb : b < 2 ^ 63) : gl 100 a b = Nat.gcd a b := by
  rw [show (100 : Nat) = 99 + 1 from rfl, gl]
  by_cases h : b = 0
  · rw [if_pos h, h, Nat.gcd_zero_right]
  · rw [if_neg h, gl_D 99 b (a % b) (Nat.mod_lt _ (by omega)) (Or.inr ?_), Nat.gcd_comm a b, Nat.gcd_rec b a, Nat.gcd_comm]
    exact Nat.lt_of_lt_of_le (Nat.mul_lt_mul_of_pos_right hb (Nat.pow_pos (by omega))) (Nat.le_of_ble_eq_true rfl)
def ksl (oa ak : Nat) : Nat := if ak < 24 then (oa + ak) % 24 else oa
def keO (oa ak : Nat) : Nat := if ak < 24 then oa else (oa + 1) % 24
def keK (ak : Nat) : Nat := if ak < 24 then ak + 1 else 24
def kpW (g : Nat → Int32) (ac : Nat) (rho : Nat → Int32) : Nat → Int32 := if ac < 24 then fI g (48 * ac) rho 48 else fI (fI g 0 (fun z => g (z + 48)) 1104) (48 * 23) rho 48
def kpL (g : Nat → Int64) (ac : Nat) (lam : Nat → Int64) : Nat → Int64 := if ac < 24 then fJ g (13 * ac) lam 13 else fJ (fJ g 0 (fun z => g (z + 13)) 299) (13 * 23) lam 13
def isKd (K kd : Nat) : Prop := kd = 0 ∨ kd = K ∨ kd = 1 ∧ (K = 2 ∨ K = 3) ∨ kd = 4 ∧ K = 5
theorem isKd_d (K kd : Nat) : (kd = 0 ∨ kd = K ∨ kd = 1 ∧ (K = 2 ∨ K = 3) ∨ kd = 4 ∧ K = 5) ↔ isKd K kd := Iff.rfl
set_option maxHeartbeats 1000000 in
theorem gk_X11_207 {p : Program} {l : Launch} {e : Env} {R : Room} {s : State} {m : MethodId} {args : Array Value} {below : List Frame} {meth : Method} {c : Code} {H : Heap} {locs : List Loc} {cells slots : Nat} {Q : State → Prop} {cc : ByteArray} {nL pc : Nat} {ls : Array Slot} {rest : List Value} {G : GG} {base sz : Nat} {f : Hp} (C : fx_C G p s m c cc nL "TapeEnd") (hH : fx_H G base s f sz H locs) {o K : Nat} {n w a : Int32} (hf : f o = some (skC K n w a)) (hK : 1 ≤ K ∧ K ≤ 5) (hdg : decode cc pc = .ok (.getfield 207, 3)) (kk : W p l e R s m args below meth c H locs cells slots Q (F0 m (pc + 3) ls (.int w :: rest))) : W p l e R s m args below meth c H locs cells slots Q (F0 m pc ls (.ref o :: rest)) := by
  have hk5 : K = 1 ∨ K = 2 ∨ K = 3 ∨ K = 4 ∨ K = 5 := by omega
  rcases hk5 with rfl | rfl | rfl | rfl | rfl
  · exact fx_get C hH (k := 1) (v := .int w) hf ff_X11_207_5 rfl hdg kk
  · exact fx_get C hH (k := 1) (v := .int w) hf ff_X11_207_0 rfl hdg kk
  · exact fx_get C hH (k := 1) (v := .int w) hf ff_X11_207_1 rfl hdg kk
  · exact fx_get C hH (k := 1) (v := .int w) hf ff_X11_207_3 rfl hdg kk
  · exact fx_get C hH (k := 1) (v := .int w) hf ff_X11_207_7 rfl hdg kk
set_option maxHeartbeats 1000000 in
theorem gk_X11_210 {p : Program} {l : Launch} {e : Env} {R : Room} {s : State} {m : MethodId} {args : Array Value} {below : List Frame} {meth : Method} {c : Code} {H : Heap} {locs : List Loc} {cells slots : Nat} {Q : State → Prop} {cc : ByteArray} {nL pc : Nat} {ls : Array Slot} {rest : List Value} {G : GG} {base sz : Nat} {f : Hp} (C : fx_C G p s m c cc nL "TapeEnd") (hH : fx_H G base s f sz H locs) {o K : Nat} {n w a : Int32} (hf : f o = some (skC K n w a)) (hK : 1 ≤ K ∧ K ≤ 5) (hdg : decode cc pc = .ok (.getfield 210, 3)) (kk : W p l e R s m args below meth c H locs cells slots Q (F0 m (pc + 3) ls (.int a :: rest))) : W p l e R s m args below meth c H locs cells slots Q (F0 m pc ls (.ref o :: rest)) := by
  have hk5 : K = 1 ∨ K = 2 ∨ K = 3 ∨ K = 4 ∨ K = 5 := by omega
  rcases hk5 with rfl | rfl | rfl | rfl | rfl
  · exact fx_get C hH (k := 2) (v := .int a) hf ff_X11_210_5 rfl hdg kk
  · exact fx_get C hH (k := 2) (v := .int a) hf ff_X11_210_0 rfl hdg kk
  · exact fx_get C hH (k := 2) (v := .int a) hf ff_X11_210_1 rfl hdg kk
  · exact fx_get C hH (k := 2) (v := .int a) hf ff_X11_210_3 rfl hdg kk
  · exact fx_get C hH (k := 2) (v := .int a) hf ff_X11_210_7 rfl hdg kk
set_option maxHeartbeats 1000000 in
theorem gk_X11_292 {p : Program} {l : Launch} {e : Env} {R : Room} {s : State} {m : MethodId} {args : Array Value} {below : List Frame} {meth : Method} {c : Code} {H : Heap} {locs : List Loc} {cells slots : Nat} {Q : State → Prop} {cc : ByteArray} {nL pc : Nat} {ls : Array Slot} {rest : List Value} {G : GG} {base sz : Nat} {f : Hp} (C : fx_C G p s m c cc nL "TapeEnd") (hH : fx_H G base s f sz H locs) {o K : Nat} {n w a : Int32} (hf : f o = some (skC K n w a)) (hK : 1 ≤ K ∧ K ≤ 5) (hdg : decode cc pc = .ok (.getfield 292, 3)) (kk : W p l e R s m args below meth c H locs cells slots Q (F0 m (pc + 3) ls (.int n :: rest))) : W p l e R s m args below meth c H locs cells slots Q (F0 m pc ls (.ref o :: rest)) := by
  have hk5 : K = 1 ∨ K = 2 ∨ K = 3 ∨ K = 4 ∨ K = 5 := by omega
  rcases hk5 with rfl | rfl | rfl | rfl | rfl
  · exact fx_get C hH (k := 0) (v := .int n) hf ff_X11_292_5 rfl hdg kk
  · exact fx_get C hH (k := 0) (v := .int n) hf ff_X11_292_0 rfl hdg kk
  · exact fx_get C hH (k := 0) (v := .int n) hf ff_X11_292_1 rfl hdg kk
  · exact fx_get C hH (k := 0) (v := .int n) hf ff_X11_292_3 rfl hdg kk
  · exact fx_get C hH (k := 0) (v := .int n) hf ff_X11_292_7 rfl hdg kk
set_option maxHeartbeats 4000000 in
set_option maxRecDepth 100000 in
theorem c_X11_lowest_g {G : GG} {base : Nat} {l : Launch} {f : Hp} {sz : Nat} {aa_ : Nat} {bb : Nat} {wh : Nat} (ha : aa_ < 2 ^ 63) (hb0 : bb < 2 ^ 63) (hw : wh ≤ 1) (hbp : 0 < bb) : fx_M G base l yX11_lowest cX11_lowest 7 (some .long) rm_X11_lowest [.long (lN aa_), .long (lN bb), .int (nI wh)] f sz (some (.long (lN ((if wh = 0 then aa_ else bb) / Nat.gcd aa_ bb)))) f sz := by
  have e := gl_gcd (a := aa_) (b := bb) hb0
  rw [← e]
  exact c_X11_lowest ha hb0 hw (by rw [e]; exact Nat.gcd_pos_of_pos_right _ hbp) (by rw [e]; exact Nat.lt_of_le_of_lt (Nat.le_of_dvd hbp (Nat.gcd_dvd_right _ _)) hb0)
set_option maxHeartbeats 4000000 in
set_option maxRecDepth 100000 in
theorem c_X11_keepAct_u {G : GG} {base : Nat} {l : Launch} {f : Hp} {sz : Nat} {x : Nat} {ra : Nat} {tp : Nat} {tc : Nat} {ro : Nat} {tr : Nat} {ia : Nat} {aa : Nat} {oa : Nat} {ak : Nat} {fa : Int32} {fi : Int32} {k : Nat} {w : Nat} {pl : Int32} {wy : Int32} {se : Int32} {to : Int32} {lf : Int32} {ta : Int32} {q : Nat → Int64} {ga : Nat → Option Nat} {tg : Nat} {k2 : Nat} {w2 : Nat} {pl2 : Int32} {wy2 : Int32} {se2 : Int32} {to2 : Int32} {lf2 : Int32} {ta2 : Int32} {q2 : Nat → Int64} (h_x : f x = some (oO 10 [.ref ra, .ref tp, .ref tc, .ref ro, .ref tr, .ref ia, .ref aa, .int (nI oa), .int (nI ak), .int fa, .int fi])) (h_ro : f ro = some (oO 4 [.ref k, .ref w, .int pl, .int wy, .int se, .int to, .int lf, .int ta])) (h_k : f k = some (oJ 13 q)) (h_aa : f aa = some (oR 3 24 ga)) (h_tg : f tg = some (oO 4 [.ref k2, .ref w2, .int pl2, .int wy2, .int se2, .int to2, .int lf2, .int ta2])) (h_k2 : f k2 = some (oJ 13 q2)) (hne_0 : ro ≠ tg) (hne_1 : k ≠ k2) (hoa : oa < 24) (hak : ak ≤ 24) (hga : ga (ksl oa ak) = some tg) : fx_M G base l yX11_keepAct cX11_keepAct 1 none rm_X11_keepAct [.ref x] f sz none (fx_up (fx_up (fx_up f tg (oO 4 [.ref k2, .ref w, .int pl, .int wy, .int se, .int to, .int lf, .int ta])) k2 (oJ 13 (cpJ q q2))) x (oO 10 [.ref ra, .ref tp, .ref tc, .ref ro, .ref tr, .ref ia, .ref aa, .int (nI (keO oa ak)), .int (nI (keK ak)), .int fa, .int fi])) sz := by
  by_cases h : ak < 24
  · rw [keO, keK, if_pos h, if_pos h]
    rw [ksl, if_pos h] at hga
    exact c_X11_keepAct_lt h_x h_ro h_k h_aa h_tg h_k2 hne_0 hne_1 hoa h hga
  · have h24 : ak = 24 := by omega
    rw [keO, keK, if_neg h, if_neg h]
    rw [ksl, if_neg h] at hga
    have := c_X11_keepAct_ge (G := G) (base := base) (l := l) (sz := sz) h_x h_ro h_k h_aa h_tg h_k2 hne_0 hne_1 hoa h24 (by rw [h24, show ((oa + 1) % 24 + (24 - 1)) % 24 = oa from (by omega)]; exact hga)
    rw [fx_up_c _ _ _ (fx_ne h_x h_tg rfl), fx_up_c _ _ _ (fx_ne h_x h_k2 rfl), h24] at this
    exact this
set_option maxHeartbeats 4000000 in
set_option maxRecDepth 100000 in
theorem c_X12_keep_u {G : GG} {base : Nat} {l : Launch} {f : Hp} {sz : Nat} {mo : Nat} {th : Int32} {sa : Int32} {la : Nat} {ma : Nat} {it : Nat} {rl : Nat} {fr : Nat} {li : Nat} {wa : Nat} {ld : Nat} {ac : Nat} {tp : Nat} {tn : Int32} {cu : Int32} {sr : Int32} {tk : Int32} {va : Int32} {ft : Int32} {fA : Int32} {lt : Int32} {so : Nat} {ik : Nat} {kp : Nat} {kl : Nat} {tc : Nat} {tt : Int32} {rho : Nat → Int32} {lam : Nat → Int64} {gwa : Nat → Int32} {gld : Nat → Int64} (h_mo : f mo = some (oO 11 [.int th, .int sa, .ref la, .ref ma, .ref it, .ref rl, .ref fr, .ref li, .ref wa, .ref ld, .int (nI ac), .ref tp, .int tn, .int cu, .int sr, .int tk, .int va, .int ft, .int fA, .int lt, .ref so, .ref ik, .ref kp, .ref kl, .ref tc, .int tt])) (h_rl : f rl = some (oI 48 rho)) (h_li : f li = some (oJ 13 lam)) (h_wa : f wa = some (oI 1152 gwa)) (h_ld : f ld = some (oJ 312 gld)) (hne_0 : rl ≠ wa) (hne_1 : li ≠ ld) (hac : ac ≤ 24) : fx_M G base l yX12_keep cX12_keep 2 none rm_X12_keep [.ref mo] f sz none (fx_up (fx_up (fx_up f wa (oI 1152 (kpW gwa ac rho))) ld (oJ 312 (kpL gld ac lam))) mo (oO 11 [.int th, .int sa, .ref la, .ref ma, .ref it, .ref rl, .ref fr, .ref li, .ref wa, .ref ld, .int (nI (keK ac)), .ref tp, .int tn, .int cu, .int sr, .int tk, .int va, .int ft, .int fA, .int lt, .ref so, .ref ik, .ref kp, .ref kl, .ref tc, .int tt])) sz := by
  by_cases h : ac < 24
  · rw [kpW, kpL, keK, if_pos h, if_pos h, if_pos h]
    exact c_X12_keep_lt h_mo h_rl h_li h_wa h_ld hne_0 hne_1 h
  · have h24 : ac = 24 := by omega
    rw [kpW, kpL, keK, if_neg h, if_neg h, if_neg h]
    have := c_X12_keep_eq (G := G) (base := base) (l := l) (sz := sz) h_mo h_rl h_li h_wa h_ld hne_0 hne_1 h24
    rw [h24] at this
    exact this
set_option maxHeartbeats 4000000 in
set_option maxRecDepth 100000 in
theorem c_X11_isOfKind_u {G : GG} {base : Nat} {l : Launch} {f : Hp} {sz : Nat} {o : Nat} {kd : Nat} {K : Nat} {nn : Int32} {wi : Int32} {ag : Int32} (h_o : f o = some (skC K nn wi ag)) (hK : 1 ≤ K ∧ K ≤ 5) (hkd : kd ≤ 5) : fx_M G base l yX11_isOfKind cX11_isOfKind 2 (some .boolean) rm_X11_isOfKind [.ref o, .int (nI kd)] f sz (some (.int (bI (kd = 0 ∨ kd = K ∨ kd = 1 ∧ (K = 2 ∨ K = 3) ∨ kd = 4 ∧ K = 5)))) f sz := by
  have hk5 : K = 1 ∨ K = 2 ∨ K = 3 ∨ K = 4 ∨ K = 5 := by omega
  have hd6 : kd = 0 ∨ kd = 1 ∨ kd = 2 ∨ kd = 3 ∨ kd = 4 ∨ kd = 5 := by omega
  rcases hk5 with rfl | rfl | rfl | rfl | rfl <;> rcases hd6 with rfl | rfl | rfl | rfl | rfl | rfl
  · rw [bI_t (by decide)]; exact c_X11_isOfKind_1_0 h_o
  · rw [bI_t (by decide)]; exact c_X11_isOfKind_1_1 h_o
  · rw [bI_f (by decide)]; exact c_X11_isOfKind_1_2 h_o
  · rw [bI_f (by decide)]; exact c_X11_isOfKind_1_3 h_o
  · rw [bI_f (by decide)]; exact c_X11_isOfKind_1_4 h_o
  · rw [bI_f (by decide)]; exact c_X11_isOfKind_1_5 h_o
  · rw [bI_t (by decide)]; exact c_X11_isOfKind_2_0 h_o
  · rw [bI_t (by decide)]; exact c_X11_isOfKind_2_1 h_o
  · rw [bI_t (by decide)]; exact c_X11_isOfKind_2_2 h_o
  · rw [bI_f (by decide)]; exact c_X11_isOfKind_2_3 h_o
  · rw [bI_f (by decide)]; exact c_X11_isOfKind_2_4 h_o
  · rw [bI_f (by decide)]; exact c_X11_isOfKind_2_5 h_o
  · rw [bI_t (by decide)]; exact c_X11_isOfKind_3_0 h_o
  · rw [bI_t (by decide)]; exact c_X11_isOfKind_3_1 h_o
  · rw [bI_f (by decide)]; exact c_X11_isOfKind_3_2 h_o
  · rw [bI_t (by decide)]; exact c_X11_isOfKind_3_3 h_o
  · rw [bI_f (by decide)]; exact c_X11_isOfKind_3_4 h_o
  · rw [bI_f (by decide)]; exact c_X11_isOfKind_3_5 h_o
  · rw [bI_t (by decide)]; exact c_X11_isOfKind_4_0 h_o
  · rw [bI_f (by decide)]; exact c_X11_isOfKind_4_1 h_o
  · rw [bI_f (by decide)]; exact c_X11_isOfKind_4_2 h_o
  · rw [bI_f (by decide)]; exact c_X11_isOfKind_4_3 h_o
  · rw [bI_t (by decide)]; exact c_X11_isOfKind_4_4 h_o
  · rw [bI_f (by decide)]; exact c_X11_isOfKind_4_5 h_o
  · rw [bI_t (by decide)]; exact c_X11_isOfKind_5_0 h_o
  · rw [bI_f (by decide)]; exact c_X11_isOfKind_5_1 h_o
  · rw [bI_f (by decide)]; exact c_X11_isOfKind_5_2 h_o
  · rw [bI_f (by decide)]; exact c_X11_isOfKind_5_3 h_o
  · rw [bI_t (by decide)]; exact c_X11_isOfKind_5_4 h_o
  · rw [bI_t (by decide)]; exact c_X11_isOfKind_5_5 h_o
set_option maxHeartbeats 4000000 in
set_option maxRecDepth 100000 in
theorem c_X12_isOf_u {G : GG} {base : Nat} {l : Launch} {f : Hp} {sz : Nat} {K : Nat} {kd : Nat} (hK : 1 ≤ K ∧ K ≤ 5) (hkd : kd ≤ 5) : fx_M G base l yX12_isOf cX12_isOf 2 (some .boolean) rm_X12_isOf [.int (nI K), .int (nI kd)] f sz (some (.int (bI (kd = 0 ∨ kd = K ∨ kd = 1 ∧ (K = 2 ∨ K = 3) ∨ kd = 4 ∧ K = 5)))) f sz := by
  have hk5 : K = 1 ∨ K = 2 ∨ K = 3 ∨ K = 4 ∨ K = 5 := by omega
  rcases hk5 with rfl | rfl | rfl | rfl | rfl
  · rw [bI_c (show (kd = 0 ∨ kd = 1 ∨ kd = 1 ∧ (1 = 2 ∨ 1 = 3) ∨ kd = 4 ∧ 1 = 5) ↔ (kd = 0 ∨ kd = 1) from by omega)]; exact c_X12_isOf_1 hkd
  · rw [bI_c (show (kd = 0 ∨ kd = 2 ∨ kd = 1 ∧ (2 = 2 ∨ 2 = 3) ∨ kd = 4 ∧ 2 = 5) ↔ (kd = 0 ∨ kd = 2 ∨ kd = 1) from by omega)]; exact c_X12_isOf_2 hkd
  · rw [bI_c (show (kd = 0 ∨ kd = 3 ∨ kd = 1 ∧ (3 = 2 ∨ 3 = 3) ∨ kd = 4 ∧ 3 = 5) ↔ (kd = 0 ∨ kd = 3 ∨ kd = 1) from by omega)]; exact c_X12_isOf_3 hkd
  · rw [bI_c (show (kd = 0 ∨ kd = 4 ∨ kd = 1 ∧ (4 = 2 ∨ 4 = 3) ∨ kd = 4 ∧ 4 = 5) ↔ (kd = 0 ∨ kd = 4) from by omega)]; exact c_X12_isOf_4 hkd
  · rw [bI_c (show (kd = 0 ∨ kd = 5 ∨ kd = 1 ∧ (5 = 2 ∨ 5 = 3) ∨ kd = 4 ∧ 5 = 5) ↔ (kd = 0 ∨ kd = 5 ∨ kd = 4) from by omega)]; exact c_X12_isOf_5 hkd
