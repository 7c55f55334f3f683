abbrev rm_X12_nextOf : Room := { frames := 1, cells := 0, slots := 0, locals := 23 }
set_option maxHeartbeats 4000000 in
set_option maxRecDepth 100000 in
theorem c_X12_nextOf {G : GG} {base : Nat} {l : Launch} {f : Hp} {sz : Nat} {K : Nat} {wi : Nat} {ag : Nat} {P : Nat} {mo : Nat} {j : Nat} {nl : Nat} {fe : Nat} {th : Int32} {sa : Int32} {la : Nat} {ma : Nat} {it : Nat} {rl : Nat} {fr : Nat} {li : Nat} {wa : Nat} {ld : Nat} {ac : Int32} {tp : Nat} {tn : Int32} {cu : Int32} {sr : Int32} {tk : Int32} {va : Int32} {ft : Int32} {fA : Int32} {lt : Int32} {so : Nat} {ik : Nat} {kp : Nat} {kl : Nat} {tc : Nat} {tt : Int32} {rho : Nat → Int32} {q : Nat → Int64} (h_mo : f mo = some (oO 11 [.int th, .int sa, .ref la, .ref ma, .ref it, .ref rl, .ref fr, .ref li, .ref wa, .ref ld, .int ac, .ref tp, .int tn, .int cu, .int sr, .int tk, .int va, .int ft, .int fA, .int lt, .ref so, .ref ik, .ref kp, .ref kl, .ref tc, .int tt])) (h_rl : f rl = some (oI 48 rho)) (h_so : f so = some (oJ 13 q)) (hj : j < 4) (hk0 : rho (36 + (3 * j) + 0) = nI K) (hk1 : rho (36 + (3 * j) + 1) = nI wi) (hk2 : rho (36 + (3 * j) + 2) = nI ag) (hK : 1 ≤ K ∧ K ≤ 5) (hwi : wi ≤ 10) (hag : ag ≤ 10) (hP : rho 0 = nI P) (hP2 : 1 ≤ P ∧ P ≤ 12) (hfe : fe ≤ 1) : fx_M G base l yX12_nextOf cX12_nextOf 4 (some .int) rm_X12_nextOf [.ref mo, .int (nI j), .int (nI nl), .int (nI fe)] f sz (some (.int (nxR K q nl (rho 7) fe (rho 11) P))) f sz := by
  refine fx_of (by decide +kernel) (Nat.le_of_ble_eq_true rfl) ?_
  intro p e s m args below meth c C hr hk hnm hH ls hl
  obtain ⟨locs, hlocs⟩ : ∃ L : List Loc, L = [] := ⟨_, rfl⟩
  rw [← hlocs] at hH ⊢
  generalize s.heap = H at hH ⊢
  have hx := C.1
  have hb := C.2.1
  have hl : lv_has ls 4 [(0, .ref mo), (1, .int (nI j)), (2, .int (nI nl)), (3, .int (nI fe))] := hl
  refine lv_aload_n hx hb dX12_nextOf_0 rfl (lv_at hl 0 rfl) ?_
  refine lv_iload_n hx hb dX12_nextOf_1 rfl (lv_at hl 1 rfl) ?_
  refine lv_iconst (v := nI 0) hx hb dX12_nextOf_2 (by decide) ?_
  refine fx_go1 hH (fx_runV C hH hl.1 (As := [.int (nI j), .int (nI 0)]) (rest := []) (c_X12_of (G := G) (base := base) (l := l) (f := f) (sz := sz) (mo := mo) (j := j) (wh := 0) (th := th) (sa := sa) (la := la) (ma := ma) (it := it) (rl := rl) (fr := fr) (li := li) (wa := wa) (ld := ld) (ac := ac) (tp := tp) (tn := tn) (cu := cu) (sr := sr) (tk := tk) (va := va) (ft := ft) (fA := fA) (lt := lt) (so := so) (ik := ik) (kp := kp) (kl := kl) (tc := tc) (tt := tt) (rho := rho) h_mo h_rl (by omega) (by omega)) mY_X12_of ml_X12_159 im_X12_of se_X12_X12_of h_mo rfl rfl ⟨(Nat.le_of_ble_eq_true rfl), (Nat.le_of_ble_eq_true rfl)⟩ rfl (Nat.le_of_ble_eq_true rfl) ⟨(Nat.le_of_ble_eq_true rfl), (Nat.le_of_ble_eq_true rfl)⟩ dX12_nextOf_3) (fun H locs hH => ?_)
  refine fx_ti (y := nI K) hk0 ?_
  by_cases s6_2 : K = 2
  · refine fx_ti (y := nI 2) (by rw [s6_2]) ?_
    refine lv_tableIn (off := 30) (tgt := 36) hx hb dX12_nextOf_6 (by decide) (by decide) (by decide) (by decide) ?_
    refine lv_aload_n hx hb dX12_nextOf_36 rfl (lv_at hl 0 rfl) ?_
    refine lv_iload_n hx hb dX12_nextOf_37 rfl (lv_at hl 3 rfl) ?_
    refine lv_iconst (v := nI 1) hx hb dX12_nextOf_38 (by decide) ?_
    refine fx_N_ne (a := fe) (b := 1) hx hb (by omega) (by omega) (tgt := 54) dX12_nextOf_39 (by decide) (fun c39 => ?_) (fun c39 => ?_)
    · refine lv_iload_n hx hb dX12_nextOf_54 rfl (lv_at hl 2 rfl) ?_
      refine lv_aload_n hx hb dX12_nextOf_55 rfl (lv_at hl 0 rfl) ?_
      refine fx_get C hH (k := 5) (v := .ref rl) h_mo ff_X12_19_11 rfl dX12_nextOf_56 ?_
      refine lv_bipush (v := nI 7) hx hb dX12_nextOf_59 (by decide) ?_
      refine fx_ialdN C hH h_rl (by omega) (by omega) dX12_nextOf_61 ?_
      refine lv_iadd hx hb dX12_nextOf_62 ?_
      refine fx_go1 hH (fx_runV C hH hl.1 (As := [.int ((nI nl) + (rho 7))]) (rest := []) (c_X12_around (G := G) (base := base) (l := l) (f := f) (sz := sz) (P := P) (mo := mo) (pp := (nI nl) + (rho 7)) (th := th) (sa := sa) (la := la) (ma := ma) (it := it) (rl := rl) (fr := fr) (li := li) (wa := wa) (ld := ld) (ac := ac) (tp := tp) (tn := tn) (cu := cu) (sr := sr) (tk := tk) (va := va) (ft := ft) (fA := fA) (lt := lt) (so := so) (ik := ik) (kp := kp) (kl := kl) (tc := tc) (tt := tt) (rho := rho) h_mo h_rl hP (by omega)) mY_X12_around ml_X12_181 im_X12_around se_X12_X12_around h_mo rfl rfl ⟨(Nat.le_of_ble_eq_true rfl), (Nat.le_of_ble_eq_true rfl)⟩ rfl (Nat.le_of_ble_eq_true rfl) ⟨(Nat.le_of_ble_eq_true rfl), (Nat.le_of_ble_eq_true rfl)⟩ dX12_nextOf_63) (fun H locs hH => ?_)
      exact fx_iret C hr hk hH (by rw [nxR, if_pos s6_2, if_neg c39]) rfl rfl (Nat.zero_le _) (Nat.zero_le _) dX12_nextOf_66
    · refine lv_iload_n hx hb dX12_nextOf_42 rfl (lv_at hl 2 rfl) ?_
      refine lv_aload_n hx hb dX12_nextOf_43 rfl (lv_at hl 0 rfl) ?_
      refine fx_get C hH (k := 5) (v := .ref rl) h_mo ff_X12_19_11 rfl dX12_nextOf_44 ?_
      refine lv_bipush (v := nI 7) hx hb dX12_nextOf_47 (by decide) ?_
      refine fx_ialdN C hH h_rl (by omega) (by omega) dX12_nextOf_49 ?_
      refine lv_isub hx hb dX12_nextOf_50 ?_
      refine lv_goto (tgt := 63) hx hb dX12_nextOf_51 (by decide) ?_
      refine fx_go1 hH (fx_runV C hH hl.1 (As := [.int ((nI nl) - (rho 7))]) (rest := []) (c_X12_around (G := G) (base := base) (l := l) (f := f) (sz := sz) (P := P) (mo := mo) (pp := (nI nl) - (rho 7)) (th := th) (sa := sa) (la := la) (ma := ma) (it := it) (rl := rl) (fr := fr) (li := li) (wa := wa) (ld := ld) (ac := ac) (tp := tp) (tn := tn) (cu := cu) (sr := sr) (tk := tk) (va := va) (ft := ft) (fA := fA) (lt := lt) (so := so) (ik := ik) (kp := kp) (kl := kl) (tc := tc) (tt := tt) (rho := rho) h_mo h_rl hP (by omega)) mY_X12_around ml_X12_181 im_X12_around se_X12_X12_around h_mo rfl rfl ⟨(Nat.le_of_ble_eq_true rfl), (Nat.le_of_ble_eq_true rfl)⟩ rfl (Nat.le_of_ble_eq_true rfl) ⟨(Nat.le_of_ble_eq_true rfl), (Nat.le_of_ble_eq_true rfl)⟩ dX12_nextOf_63) (fun H locs hH => ?_)
      exact fx_iret C hr hk hH (by rw [nxR, if_pos s6_2, if_pos c39]) rfl rfl (Nat.zero_le _) (Nat.zero_le _) dX12_nextOf_66
  by_cases s6_3 : K = 3
  · refine fx_ti (y := nI 3) (by rw [s6_3]) ?_
    refine lv_tableIn (off := 106) (tgt := 112) hx hb dX12_nextOf_6 (by decide) (by decide) (by decide) (by decide) ?_
    refine lv_aload_n hx hb dX12_nextOf_112 rfl (lv_at hl 0 rfl) ?_
    refine lv_iload_n hx hb dX12_nextOf_113 rfl (lv_at hl 2 rfl) ?_
    refine lv_aload_n hx hb dX12_nextOf_114 rfl (lv_at hl 0 rfl) ?_
    refine fx_get C hH (k := 5) (v := .ref rl) h_mo ff_X12_19_11 rfl dX12_nextOf_115 ?_
    refine lv_bipush (v := nI 7) hx hb dX12_nextOf_118 (by decide) ?_
    refine fx_ialdN C hH h_rl (by omega) (by omega) dX12_nextOf_120 ?_
    refine lv_iadd hx hb dX12_nextOf_121 ?_
    refine fx_go1 hH (fx_runV C hH hl.1 (As := [.int ((nI nl) + (rho 7))]) (rest := []) (c_X12_around (G := G) (base := base) (l := l) (f := f) (sz := sz) (P := P) (mo := mo) (pp := (nI nl) + (rho 7)) (th := th) (sa := sa) (la := la) (ma := ma) (it := it) (rl := rl) (fr := fr) (li := li) (wa := wa) (ld := ld) (ac := ac) (tp := tp) (tn := tn) (cu := cu) (sr := sr) (tk := tk) (va := va) (ft := ft) (fA := fA) (lt := lt) (so := so) (ik := ik) (kp := kp) (kl := kl) (tc := tc) (tt := tt) (rho := rho) h_mo h_rl hP (by omega)) mY_X12_around ml_X12_181 im_X12_around se_X12_X12_around h_mo rfl rfl ⟨(Nat.le_of_ble_eq_true rfl), (Nat.le_of_ble_eq_true rfl)⟩ rfl (Nat.le_of_ble_eq_true rfl) ⟨(Nat.le_of_ble_eq_true rfl), (Nat.le_of_ble_eq_true rfl)⟩ dX12_nextOf_122) (fun H locs hH => ?_)
    exact fx_iret C hr hk hH (by rw [nxR, if_neg s6_2, if_neg (by omega), if_neg (by omega)]) rfl rfl (Nat.zero_le _) (Nat.zero_le _) dX12_nextOf_125
  by_cases s6_4 : K = 4
  · refine fx_ti (y := nI 4) (by rw [s6_4]) ?_
    refine lv_tableIn (off := 61) (tgt := 67) hx hb dX12_nextOf_6 (by decide) (by decide) (by decide) (by decide) ?_
    refine lv_aload_n hx hb dX12_nextOf_67 rfl (lv_at hl 0 rfl) ?_
    refine lv_iload_n hx hb dX12_nextOf_68 rfl (lv_at hl 2 rfl) ?_
    refine fx_go1 hH (fx_runV C hH hl.1 (As := [.int (nI nl)]) (rest := []) (c_X12_likeliestBut (G := G) (base := base) (l := l) (f := f) (sz := sz) (P := P) (mo := mo) (xx := nI nl) (th := th) (sa := sa) (la := la) (ma := ma) (it := it) (rl := rl) (fr := fr) (li := li) (wa := wa) (ld := ld) (ac := ac) (tp := tp) (tn := tn) (cu := cu) (sr := sr) (tk := tk) (va := va) (ft := ft) (fA := fA) (lt := lt) (so := so) (ik := ik) (kp := kp) (kl := kl) (tc := tc) (tt := tt) (rho := rho) (q := q) h_mo h_rl h_so hP (by omega)) mY_X12_likeliestBut ml_X12_184 im_X12_likeliestBut se_X12_X12_likeliestBut h_mo rfl rfl ⟨(Nat.le_of_ble_eq_true rfl), (Nat.le_of_ble_eq_true rfl)⟩ rfl (Nat.le_of_ble_eq_true rfl) ⟨(Nat.le_of_ble_eq_true rfl), (Nat.le_of_ble_eq_true rfl)⟩ dX12_nextOf_69) (fun H locs hH => ?_)
    exact fx_iret C hr hk hH (by rw [nxR, if_neg s6_2, if_pos s6_4]) rfl rfl (Nat.zero_le _) (Nat.zero_le _) dX12_nextOf_72
  by_cases s6_5 : K = 5
  · refine fx_ti (y := nI 5) (by rw [s6_5]) ?_
    refine lv_tableIn (off := 67) (tgt := 73) hx hb dX12_nextOf_6 (by decide) (by decide) (by decide) (by decide) ?_
    refine lv_aload_n hx hb dX12_nextOf_73 rfl (lv_at hl 0 rfl) ?_
    refine fx_get C hH (k := 5) (v := .ref rl) h_mo ff_X12_19_11 rfl dX12_nextOf_74 ?_
    refine lv_bipush (v := nI 11) hx hb dX12_nextOf_77 (by decide) ?_
    refine fx_ialdN C hH h_rl (by omega) (by omega) dX12_nextOf_79 ?_
    refine lv_ldc (v := (-1000000)) hx hb C.2.2.2.1 (C.2.2.2.2.1 _ kI_X12_97 rfl args) dX12_nextOf_80 ?_
    refine lv_icmp_eq hx hb (tgt := 106) dX12_nextOf_82 (by decide) (fun c82 => ?_) (fun c82 => ?_)
    · refine lv_aload_n hx hb dX12_nextOf_106 rfl (lv_at hl 0 rfl) ?_
      refine lv_iload_n hx hb dX12_nextOf_107 rfl (lv_at hl 2 rfl) ?_
      refine fx_go1 hH (fx_runV C hH hl.1 (As := [.int (nI nl)]) (rest := []) (c_X12_likeliestBut (G := G) (base := base) (l := l) (f := f) (sz := sz) (P := P) (mo := mo) (xx := nI nl) (th := th) (sa := sa) (la := la) (ma := ma) (it := it) (rl := rl) (fr := fr) (li := li) (wa := wa) (ld := ld) (ac := ac) (tp := tp) (tn := tn) (cu := cu) (sr := sr) (tk := tk) (va := va) (ft := ft) (fA := fA) (lt := lt) (so := so) (ik := ik) (kp := kp) (kl := kl) (tc := tc) (tt := tt) (rho := rho) (q := q) h_mo h_rl h_so hP (by omega)) mY_X12_likeliestBut ml_X12_184 im_X12_likeliestBut se_X12_X12_likeliestBut h_mo rfl rfl ⟨(Nat.le_of_ble_eq_true rfl), (Nat.le_of_ble_eq_true rfl)⟩ rfl (Nat.le_of_ble_eq_true rfl) ⟨(Nat.le_of_ble_eq_true rfl), (Nat.le_of_ble_eq_true rfl)⟩ dX12_nextOf_108) (fun H locs hH => ?_)
      exact fx_iret C hr hk hH (by rw [nxR, if_neg s6_2, if_neg s6_4, if_pos s6_5, if_pos c82]) rfl rfl (Nat.zero_le _) (Nat.zero_le _) dX12_nextOf_111
    · refine lv_aload_n hx hb dX12_nextOf_85 rfl (lv_at hl 0 rfl) ?_
      refine fx_get C hH (k := 5) (v := .ref rl) h_mo ff_X12_19_11 rfl dX12_nextOf_86 ?_
      refine lv_bipush (v := nI 11) hx hb dX12_nextOf_89 (by decide) ?_
      refine fx_ialdN C hH h_rl (by omega) (by omega) dX12_nextOf_91 ?_
      refine lv_iload_n hx hb dX12_nextOf_92 rfl (lv_at hl 2 rfl) ?_
      refine lv_icmp_eq hx hb (tgt := 106) dX12_nextOf_93 (by decide) (fun c93 => ?_) (fun c93 => ?_)
      · refine lv_aload_n hx hb dX12_nextOf_106 rfl (lv_at hl 0 rfl) ?_
        refine lv_iload_n hx hb dX12_nextOf_107 rfl (lv_at hl 2 rfl) ?_
        refine fx_go1 hH (fx_runV C hH hl.1 (As := [.int (nI nl)]) (rest := []) (c_X12_likeliestBut (G := G) (base := base) (l := l) (f := f) (sz := sz) (P := P) (mo := mo) (xx := nI nl) (th := th) (sa := sa) (la := la) (ma := ma) (it := it) (rl := rl) (fr := fr) (li := li) (wa := wa) (ld := ld) (ac := ac) (tp := tp) (tn := tn) (cu := cu) (sr := sr) (tk := tk) (va := va) (ft := ft) (fA := fA) (lt := lt) (so := so) (ik := ik) (kp := kp) (kl := kl) (tc := tc) (tt := tt) (rho := rho) (q := q) h_mo h_rl h_so hP (by omega)) mY_X12_likeliestBut ml_X12_184 im_X12_likeliestBut se_X12_X12_likeliestBut h_mo rfl rfl ⟨(Nat.le_of_ble_eq_true rfl), (Nat.le_of_ble_eq_true rfl)⟩ rfl (Nat.le_of_ble_eq_true rfl) ⟨(Nat.le_of_ble_eq_true rfl), (Nat.le_of_ble_eq_true rfl)⟩ dX12_nextOf_108) (fun H locs hH => ?_)
        exact fx_iret C hr hk hH (by rw [nxR, if_neg s6_2, if_neg s6_4, if_pos s6_5, if_neg c82, if_pos c93]) rfl rfl (Nat.zero_le _) (Nat.zero_le _) dX12_nextOf_111
      · refine lv_aload_n hx hb dX12_nextOf_96 rfl (lv_at hl 0 rfl) ?_
        refine fx_get C hH (k := 5) (v := .ref rl) h_mo ff_X12_19_11 rfl dX12_nextOf_97 ?_
        refine lv_bipush (v := nI 11) hx hb dX12_nextOf_100 (by decide) ?_
        refine fx_ialdN C hH h_rl (by omega) (by omega) dX12_nextOf_102 ?_
        refine lv_goto (tgt := 111) hx hb dX12_nextOf_103 (by decide) ?_
        exact fx_iret C hr hk hH (by rw [nxR, if_neg s6_2, if_neg s6_4, if_pos s6_5, if_neg c82, if_neg c93]) rfl rfl (Nat.zero_le _) (Nat.zero_le _) dX12_nextOf_111
  refine lv_tableOut (tgt := 112) hx hb dX12_nextOf_6 (by rw [nI_toInt (by omega)]; omega) (by decide) ?_
  refine lv_aload_n hx hb dX12_nextOf_112 rfl (lv_at hl 0 rfl) ?_
  refine lv_iload_n hx hb dX12_nextOf_113 rfl (lv_at hl 2 rfl) ?_
  refine lv_aload_n hx hb dX12_nextOf_114 rfl (lv_at hl 0 rfl) ?_
  refine fx_get C hH (k := 5) (v := .ref rl) h_mo ff_X12_19_11 rfl dX12_nextOf_115 ?_
  refine lv_bipush (v := nI 7) hx hb dX12_nextOf_118 (by decide) ?_
  refine fx_ialdN C hH h_rl (by omega) (by omega) dX12_nextOf_120 ?_
  refine lv_iadd hx hb dX12_nextOf_121 ?_
  refine fx_go1 hH (fx_runV C hH hl.1 (As := [.int ((nI nl) + (rho 7))]) (rest := []) (c_X12_around (G := G) (base := base) (l := l) (f := f) (sz := sz) (P := P) (mo := mo) (pp := (nI nl) + (rho 7)) (th := th) (sa := sa) (la := la) (ma := ma) (it := it) (rl := rl) (fr := fr) (li := li) (wa := wa) (ld := ld) (ac := ac) (tp := tp) (tn := tn) (cu := cu) (sr := sr) (tk := tk) (va := va) (ft := ft) (fA := fA) (lt := lt) (so := so) (ik := ik) (kp := kp) (kl := kl) (tc := tc) (tt := tt) (rho := rho) h_mo h_rl hP (by omega)) mY_X12_around ml_X12_181 im_X12_around se_X12_X12_around h_mo rfl rfl ⟨(Nat.le_of_ble_eq_true rfl), (Nat.le_of_ble_eq_true rfl)⟩ rfl (Nat.le_of_ble_eq_true rfl) ⟨(Nat.le_of_ble_eq_true rfl), (Nat.le_of_ble_eq_true rfl)⟩ dX12_nextOf_122) (fun H locs hH => ?_)
  exact fx_iret C hr hk hH (by rw [nxR, if_neg s6_2, if_neg s6_4, if_neg s6_5]) rfl rfl (Nat.zero_le _) (Nat.zero_le _) dX12_nextOf_125
abbrev rm_X12_nextNow : Room := { frames := 2, cells := 0, slots := 0, locals := 46 }
set_option maxHeartbeats 4000000 in
set_option maxRecDepth 100000 in
theorem c_X12_nextNow {G : GG} {base : Nat} {l : Launch} {f : Hp} {sz : Nat} {K : Nat} {wi : Nat} {ag : Nat} {P : Nat} {pl : Nat} {lf : Nat} {mo : Nat} {j : Nat} {th : Int32} {sa : Int32} {la : Nat} {ma : Nat} {it : Nat} {rl : Nat} {fr : Nat} {li : Nat} {wa : Nat} {ld : Nat} {ac : Int32} {tp : Nat} {tn : Int32} {cu : Int32} {sr : Int32} {tk : Int32} {va : Int32} {ft : Int32} {fA : Int32} {lt : Int32} {so : Nat} {ik : Nat} {kp : Nat} {kl : Nat} {tc : Nat} {tt : Int32} {rho : Nat → Int32} {gso : Nat → Int64} {lam : Nat → Int64} (h_mo : f mo = some (oO 11 [.int th, .int sa, .ref la, .ref ma, .ref it, .ref rl, .ref fr, .ref li, .ref wa, .ref ld, .int ac, .ref tp, .int tn, .int cu, .int sr, .int tk, .int va, .int ft, .int fA, .int lt, .ref so, .ref ik, .ref kp, .ref kl, .ref tc, .int tt])) (h_rl : f rl = some (oI 48 rho)) (h_so : f so = some (oJ 13 gso)) (h_li : f li = some (oJ 13 lam)) (hne_0 : so ≠ li) (hj : j < 4) (hk0 : rho (36 + (3 * j) + 0) = nI K) (hk1 : rho (36 + (3 * j) + 1) = nI wi) (hk2 : rho (36 + (3 * j) + 2) = nI ag) (hK : 1 ≤ K ∧ K ≤ 5) (hwi : wi ≤ 10) (hag : ag ≤ 10) (hP : rho 0 = nI P) (hP2 : 1 ≤ P ∧ P ≤ 12) (hpl : rho 6 = nI pl) (hlf : rho 10 = nI lf) (hlf2 : lf ≤ 1) : fx_M G base l yX12_nextNow cX12_nextNow 3 (some .int) rm_X12_nextNow [.ref mo, .int (nI j)] f sz (some (.int (nxR K (fJ gso 0 lam 13) pl (rho 7) lf (rho 11) P))) (fx_up f so (oJ 13 (fJ gso 0 lam 13))) sz := by
  refine fx_of (by decide +kernel) (Nat.le_of_ble_eq_true rfl) ?_
  intro p e s m args below meth c C hr hk hnm hH ls hl
  obtain ⟨locs, hlocs⟩ : ∃ L : List Loc, L = [] := ⟨_, rfl⟩
  rw [← hlocs] at hH ⊢
  generalize s.heap = H at hH ⊢
  have hx := C.1
  have hb := C.2.1
  have hl : lv_has ls 3 [(0, .ref mo), (1, .int (nI j))] := hl
  refine lv_iconst (v := nI 0) hx hb dX12_nextNow_0 (by decide) ?_
  refine lv_istore_n (lv' := [(2, .int (nI 0)), (0, .ref mo), (1, .int (nI j))]) hx hb dX12_nextNow_1 rfl hl (by decide) rfl (fun ls hl => ?_)
  have loop_2 : ∀ (N_2 : Nat) (i : Nat) (hi : i ≤ 13) (hm_2 : 13 - i < N_2) (H : Heap) (locs : List Loc) (hH : fx_H G base s (fx_up f so (oJ 13 (fJ gso 0 lam i))) sz H locs) (ls : Array Slot) (hl : lv_has ls 3 [(0, .ref mo), (1, .int (nI j)), (2, .int (nI i))]), W p l e rm_X12_nextNow s m args below meth c H locs 0 0 (MQ below (fx_Q G base (some (.int (nxR K (fJ gso 0 lam 13) pl (rho 7) lf (rho 11) P))) (fx_up f so (oJ 13 (fJ gso 0 lam 13))) sz) args s rm_X12_nextNow.cells rm_X12_nextNow.slots (fun q => base ≤ q)) (F0 m 2 ls []) := by
    intro N_2
    induction N_2 with
    | zero => intro i hi hm_2; exact absurd hm_2 (Nat.not_lt_zero _)
    | succ N_2 ih_2 =>
      intro i hi hm_2 H locs hH ls hl
      have h1_mo : (fx_up f so (oJ 13 (fJ gso 0 lam i))) mo = some (oO 11 [.int th, .int sa, .ref la, .ref ma, .ref it, .ref rl, .ref fr, .ref li, .ref wa, .ref ld, .int ac, .ref tp, .int tn, .int cu, .int sr, .int tk, .int va, .int ft, .int fA, .int lt, .ref so, .ref ik, .ref kp, .ref kl, .ref tc, .int tt]) := (fx_up_n _ _ (fx_ne h_mo h_so rfl)).trans (h_mo)
      have h1_rl : (fx_up f so (oJ 13 (fJ gso 0 lam i))) rl = some (oI 48 rho) := (fx_up_n _ _ (fx_ne h_rl h_so rfl)).trans (h_rl)
      have h1_so : (fx_up f so (oJ 13 (fJ gso 0 lam i))) so = some (oJ 13 (fJ gso 0 lam i)) := fx_up_s _ _ _
      have h1_li : (fx_up f so (oJ 13 (fJ gso 0 lam i))) li = some (oJ 13 lam) := (fx_up_n _ _ (Ne.symm hne_0)).trans (h_li)
      refine lv_iload_n hx hb dX12_nextNow_2 rfl (lv_at hl 2 rfl) ?_
      refine lv_bipush (v := nI 13) hx hb dX12_nextNow_3 (by decide) ?_
      refine fx_N_ge (a := i) (b := 13) hx hb (by omega) (by omega) (tgt := 26) dX12_nextNow_5 (by decide) (fun c5 => ?_) (fun c5 => ?_)
      · have hi13 : i = 13 := by omega
        refine lv_aload_n hx hb dX12_nextNow_26 rfl (lv_at hl 0 rfl) ?_
        refine lv_iload_n hx hb dX12_nextNow_27 rfl (lv_at hl 1 rfl) ?_
        refine lv_aload_n hx hb dX12_nextNow_28 rfl (lv_at hl 0 rfl) ?_
        refine fx_get C hH (k := 5) (v := .ref rl) h1_mo ff_X12_19_11 rfl dX12_nextNow_29 ?_
        refine lv_bipush (v := nI 6) hx hb dX12_nextNow_32 (by decide) ?_
        refine fx_ialdN C hH h1_rl (by omega) (by omega) dX12_nextNow_34 ?_
        refine fx_ti (y := nI pl) hpl ?_
        refine lv_aload_n hx hb dX12_nextNow_35 rfl (lv_at hl 0 rfl) ?_
        refine fx_get C hH (k := 5) (v := .ref rl) h1_mo ff_X12_19_11 rfl dX12_nextNow_36 ?_
        refine lv_bipush (v := nI 10) hx hb dX12_nextNow_39 (by decide) ?_
        refine fx_ialdN C hH h1_rl (by omega) (by omega) dX12_nextNow_41 ?_
        refine fx_ti (y := nI lf) hlf ?_
        refine fx_go1 hH (fx_runV C hH hl.1 (As := [.int (nI j), .int (nI pl), .int (nI lf)]) (rest := []) (c_X12_nextOf (G := G) (base := base) (l := l) (f := fx_up f so (oJ 13 (fJ gso 0 lam i))) (sz := sz) (K := K) (wi := wi) (ag := ag) (P := P) (mo := mo) (j := j) (nl := pl) (fe := lf) (th := th) (sa := sa) (la := la) (ma := ma) (it := it) (rl := rl) (fr := fr) (li := li) (wa := wa) (ld := ld) (ac := ac) (tp := tp) (tn := tn) (cu := cu) (sr := sr) (tk := tk) (va := va) (ft := ft) (fA := fA) (lt := lt) (so := so) (ik := ik) (kp := kp) (kl := kl) (tc := tc) (tt := tt) (rho := rho) (q := (fJ gso 0 lam i)) h1_mo h1_rl h1_so (by omega) hk0 hk1 hk2 (by omega) (by omega) (by omega) hP (by omega) (by omega)) mY_X12_nextOf ml_X12_187 im_X12_nextOf se_X12_X12_nextOf h1_mo rfl rfl ⟨(Nat.le_of_ble_eq_true rfl), (Nat.le_of_ble_eq_true rfl)⟩ rfl (Nat.le_of_ble_eq_true rfl) ⟨(Nat.le_of_ble_eq_true rfl), (Nat.le_of_ble_eq_true rfl)⟩ dX12_nextNow_42) (fun H locs hH => ?_)
        exact fx_iret C hr hk hH (by rw [hi13]) (by rw [hi13]) rfl (Nat.zero_le _) (Nat.zero_le _) dX12_nextNow_45
      · refine lv_aload_n hx hb dX12_nextNow_8 rfl (lv_at hl 0 rfl) ?_
        refine fx_get C hH (k := 20) (v := .ref so) h1_mo ff_X12_38_11 rfl dX12_nextNow_9 ?_
        refine lv_iload_n hx hb dX12_nextNow_12 rfl (lv_at hl 2 rfl) ?_
        refine lv_aload_n hx hb dX12_nextNow_13 rfl (lv_at hl 0 rfl) ?_
        refine fx_get C hH (k := 7) (v := .ref li) h1_mo ff_X12_25_11 rfl dX12_nextNow_14 ?_
        refine lv_iload_n hx hb dX12_nextNow_17 rfl (lv_at hl 2 rfl) ?_
        refine fx_laldN C hH h1_li (by omega) (by omega) dX12_nextNow_18 ?_
        refine fx_lastN C hH h1_so (by omega) (by omega) dX12_nextNow_19 (fun H locs hH => ?_)
        have hH : fx_H G base s (fx_up (fx_up f so (oJ 13 (fJ gso 0 lam i))) so (oJ 13 (vp_updL (fJ gso 0 lam i) i (lam i)))) sz H locs := hH
        rw [fx_up_up] at hH
        have hH : fx_H G base s (fx_up f so (oJ 13 (vp_updL (fJ gso 0 lam i) i (lam i)))) sz H locs := hH
        have heq2 : fx_up (fx_up f so (oJ 13 (fJ gso 0 lam i))) so (oJ 13 (vp_updL (fJ gso 0 lam i) i (lam i))) = fx_up f so (oJ 13 (vp_updL (fJ gso 0 lam i) i (lam i))) := by rw [fx_up_up]
        have h2_mo : (fx_up f so (oJ 13 (vp_updL (fJ gso 0 lam i) i (lam i)))) mo = some (oO 11 [.int th, .int sa, .ref la, .ref ma, .ref it, .ref rl, .ref fr, .ref li, .ref wa, .ref ld, .int ac, .ref tp, .int tn, .int cu, .int sr, .int tk, .int va, .int ft, .int fA, .int lt, .ref so, .ref ik, .ref kp, .ref kl, .ref tc, .int tt]) := (congrFun heq2 mo).symm.trans ((fx_up_n _ _ (fx_ne h1_mo h1_so rfl)).trans h1_mo)
        have h2_rl : (fx_up f so (oJ 13 (vp_updL (fJ gso 0 lam i) i (lam i)))) rl = some (oI 48 rho) := (congrFun heq2 rl).symm.trans ((fx_up_n _ _ (fx_ne h1_rl h1_so rfl)).trans h1_rl)
        have h2_li : (fx_up f so (oJ 13 (vp_updL (fJ gso 0 lam i) i (lam i)))) li = some (oJ 13 lam) := (congrFun heq2 li).symm.trans ((fx_up_n _ _ (Ne.symm hne_0)).trans h1_li)
        have h2_so : (fx_up f so (oJ 13 (vp_updL (fJ gso 0 lam i) i (lam i)))) so = some (oJ 13 (vp_updL (fJ gso 0 lam i) i (lam i))) := (congrFun heq2 so).symm.trans (fx_up_s _ _ _)
        refine lv_iinc (v := nI (i + 1)) (lv' := [(2, .int (nI (i + 1))), (0, .ref mo), (1, .int (nI j))]) hx hb dX12_nextNow_20 hl (k := 2) rfl (nI_1 _) (by decide) rfl (fun ls hl => ?_)
        refine lv_goto (tgt := 2) hx hb dX12_nextNow_23 (by decide) ?_
        have hl : lv_has ls 3 [(0, .ref mo), (1, .int (nI j)), (2, .int (nI (i + 1)))] := lv_sub hl [1, 2, 0] rfl
        have hH : fx_H G base s (fx_up f so (oJ 13 (fJ gso 0 lam (i + 1)))) sz H locs := (by rw [fJ, Nat.zero_add]; exact hH)
        exact ih_2 (i + 1) (by omega) (by omega) _ _ hH _ hl
  have hl : lv_has ls 3 [(0, .ref mo), (1, .int (nI j)), (2, .int (nI 0))] := lv_sub hl [1, 2, 0] rfl
  have hH : fx_H G base s (fx_up f so (oJ 13 (fJ gso 0 lam 0))) sz H locs := (by rw [fx_up_id (show f so = some (oJ 13 (fJ gso 0 lam 0)) from h_so)]; exact hH)
  exact loop_2 _ 0 (by omega) (Nat.lt_succ_self _) _ _ hH _ hl
abbrev rm_X12_keep : Room := { frames := 0, cells := 0, slots := 0, locals := 0 }
set_option maxHeartbeats 4000000 in
set_option maxRecDepth 100000 in
theorem c_X12_keep_lt {G : GG} {base : Nat} {l : Launch} {f : Hp} {sz : Nat} {mo : Nat} {th : Int32} {sa : Int32} {la : Nat} {ma : Nat} {it : Nat} {rl : Nat} {fr : Nat} {li : Nat} {wa : Nat} {ld : Nat} {ac : Nat} {tp : Nat} {tn : Int32} {cu : Int32} {sr : Int32} {tk : Int32} {va : Int32} {ft : Int32} {fA : Int32} {lt : Int32} {so : Nat} {ik : Nat} {kp : Nat} {kl : Nat} {tc : Nat} {tt : Int32} {rho : Nat → Int32} {lam : Nat → Int64} {gwa : Nat → Int32} {gld : Nat → Int64} (h_mo : f mo = some (oO 11 [.int th, .int sa, .ref la, .ref ma, .ref it, .ref rl, .ref fr, .ref li, .ref wa, .ref ld, .int (nI ac), .ref tp, .int tn, .int cu, .int sr, .int tk, .int va, .int ft, .int fA, .int lt, .ref so, .ref ik, .ref kp, .ref kl, .ref tc, .int tt])) (h_rl : f rl = some (oI 48 rho)) (h_li : f li = some (oJ 13 lam)) (h_wa : f wa = some (oI 1152 gwa)) (h_ld : f ld = some (oJ 312 gld)) (hne_0 : rl ≠ wa) (hne_1 : li ≠ ld) (hac : ac < 24) : fx_M G base l yX12_keep cX12_keep 2 none rm_X12_keep [.ref mo] f sz none (fx_up (fx_up (fx_up f wa (oI 1152 (fI gwa (48 * ac) rho 48))) ld (oJ 312 (fJ gld (13 * ac) lam 13))) mo (oO 11 [.int th, .int sa, .ref la, .ref ma, .ref it, .ref rl, .ref fr, .ref li, .ref wa, .ref ld, .int (nI (ac + 1)), .ref tp, .int tn, .int cu, .int sr, .int tk, .int va, .int ft, .int fA, .int lt, .ref so, .ref ik, .ref kp, .ref kl, .ref tc, .int tt])) sz := by
  refine fx_of (by decide +kernel) (Nat.le_of_ble_eq_true rfl) ?_
  intro p e s m args below meth c C hr hk hnm hH ls hl
  obtain ⟨locs, hlocs⟩ : ∃ L : List Loc, L = [] := ⟨_, rfl⟩
  rw [← hlocs] at hH ⊢
  generalize s.heap = H at hH ⊢
  have hx := C.1
  have hb := C.2.1
  have hl : lv_has ls 2 [(0, .ref mo)] := hl
  refine lv_aload_n hx hb dX12_keep_0 rfl (lv_at hl 0 rfl) ?_
  refine fx_get C hH (k := 10) (v := .int (nI ac)) h_mo ff_X12_156_11 rfl dX12_keep_1 ?_
  refine lv_bipush (v := nI 24) hx hb dX12_keep_4 (by decide) ?_
  refine fx_N_ne (a := ac) (b := 24) hx hb (by omega) (by omega) (tgt := 79) dX12_keep_6 (by decide) (fun c6 => ?_) (fun c6 => absurd c6 (by omega))
  refine lv_iconst (v := nI 0) hx hb dX12_keep_79 (by decide) ?_
  refine lv_istore_n (lv' := [(1, .int (nI 0)), (0, .ref mo)]) hx hb dX12_keep_80 rfl hl (by decide) rfl (fun ls hl => ?_)
  have loop_81 : ∀ (N_81 : Nat) (i : Nat) (hi : i ≤ 48) (hm_81 : 48 - i < N_81) (H : Heap) (locs : List Loc) (hH : fx_H G base s (fx_up f wa (oI 1152 (fI gwa (48 * ac) rho i))) sz H locs) (ls : Array Slot) (hl : lv_has ls 2 [(0, .ref mo), (1, .int (nI i))]), W p l e rm_X12_keep s m args below meth c H locs 0 0 (MQ below (fx_Q G base none (fx_up (fx_up (fx_up f wa (oI 1152 (fI gwa (48 * ac) rho 48))) ld (oJ 312 (fJ gld (13 * ac) lam 13))) mo (oO 11 [.int th, .int sa, .ref la, .ref ma, .ref it, .ref rl, .ref fr, .ref li, .ref wa, .ref ld, .int (nI (ac + 1)), .ref tp, .int tn, .int cu, .int sr, .int tk, .int va, .int ft, .int fA, .int lt, .ref so, .ref ik, .ref kp, .ref kl, .ref tc, .int tt])) sz) args s rm_X12_keep.cells rm_X12_keep.slots (fun q => base ≤ q)) (F0 m 81 ls []) := by
    intro N_81
    induction N_81 with
    | zero => intro i hi hm_81; exact absurd hm_81 (Nat.not_lt_zero _)
    | succ N_81 ih_81 =>
      intro i hi hm_81 H locs hH ls hl
      have h1_mo : (fx_up f wa (oI 1152 (fI gwa (48 * ac) rho i))) mo = some (oO 11 [.int th, .int sa, .ref la, .ref ma, .ref it, .ref rl, .ref fr, .ref li, .ref wa, .ref ld, .int (nI ac), .ref tp, .int tn, .int cu, .int sr, .int tk, .int va, .int ft, .int fA, .int lt, .ref so, .ref ik, .ref kp, .ref kl, .ref tc, .int tt]) := (fx_up_n _ _ (fx_ne h_mo h_wa rfl)).trans (h_mo)
      have h1_rl : (fx_up f wa (oI 1152 (fI gwa (48 * ac) rho i))) rl = some (oI 48 rho) := (fx_up_n _ _ hne_0).trans (h_rl)
      have h1_li : (fx_up f wa (oI 1152 (fI gwa (48 * ac) rho i))) li = some (oJ 13 lam) := (fx_up_n _ _ (fx_ne h_li h_wa rfl)).trans (h_li)
      have h1_wa : (fx_up f wa (oI 1152 (fI gwa (48 * ac) rho i))) wa = some (oI 1152 (fI gwa (48 * ac) rho i)) := fx_up_s _ _ _
      have h1_ld : (fx_up f wa (oI 1152 (fI gwa (48 * ac) rho i))) ld = some (oJ 312 gld) := (fx_up_n _ _ (fx_ne h_ld h_wa rfl)).trans (h_ld)
      refine lv_iload_n hx hb dX12_keep_81 rfl (lv_at hl 1 rfl) ?_
      refine lv_bipush (v := nI 48) hx hb dX12_keep_82 (by decide) ?_
      refine fx_N_ge (a := i) (b := 48) hx hb (by omega) (by omega) (tgt := 113) dX12_keep_84 (by decide) (fun c84 => ?_) (fun c84 => ?_)
      · refine lv_iconst (v := nI 0) hx hb dX12_keep_113 (by decide) ?_
        refine lv_istore_n (lv' := [(1, .int (nI 0)), (0, .ref mo)]) hx hb dX12_keep_114 rfl hl (by decide) rfl (fun ls hl => ?_)
        have h48 : i = 48 := by omega
        have loop_115 : ∀ (N_115 : Nat) (i2 : Nat) (hi2 : i2 ≤ 13) (hm_115 : 13 - i2 < N_115) (H : Heap) (locs : List Loc) (hH : fx_H G base s (fx_up (fx_up f wa (oI 1152 (fI gwa (48 * ac) rho i))) ld (oJ 312 (fJ gld (13 * ac) lam i2))) sz H locs) (ls : Array Slot) (hl : lv_has ls 2 [(0, .ref mo), (1, .int (nI i2))]), W p l e rm_X12_keep s m args below meth c H locs 0 0 (MQ below (fx_Q G base none (fx_up (fx_up (fx_up f wa (oI 1152 (fI gwa (48 * ac) rho 48))) ld (oJ 312 (fJ gld (13 * ac) lam 13))) mo (oO 11 [.int th, .int sa, .ref la, .ref ma, .ref it, .ref rl, .ref fr, .ref li, .ref wa, .ref ld, .int (nI (ac + 1)), .ref tp, .int tn, .int cu, .int sr, .int tk, .int va, .int ft, .int fA, .int lt, .ref so, .ref ik, .ref kp, .ref kl, .ref tc, .int tt])) sz) args s rm_X12_keep.cells rm_X12_keep.slots (fun q => base ≤ q)) (F0 m 115 ls []) := by
          intro N_115
          induction N_115 with
          | zero => intro i2 hi2 hm_115; exact absurd hm_115 (Nat.not_lt_zero _)
          | succ N_115 ih_115 =>
            intro i2 hi2 hm_115 H locs hH ls hl
            have h2_mo : (fx_up (fx_up f wa (oI 1152 (fI gwa (48 * ac) rho i))) ld (oJ 312 (fJ gld (13 * ac) lam i2))) mo = some (oO 11 [.int th, .int sa, .ref la, .ref ma, .ref it, .ref rl, .ref fr, .ref li, .ref wa, .ref ld, .int (nI ac), .ref tp, .int tn, .int cu, .int sr, .int tk, .int va, .int ft, .int fA, .int lt, .ref so, .ref ik, .ref kp, .ref kl, .ref tc, .int tt]) := (fx_up_n _ _ (fx_ne h1_mo h1_ld rfl)).trans ((fx_up_n _ _ (fx_ne h1_mo h1_wa rfl)).trans (h_mo))
            have h2_rl : (fx_up (fx_up f wa (oI 1152 (fI gwa (48 * ac) rho i))) ld (oJ 312 (fJ gld (13 * ac) lam i2))) rl = some (oI 48 rho) := (fx_up_n _ _ (fx_ne h1_rl h1_ld rfl)).trans ((fx_up_n _ _ hne_0).trans (h_rl))
            have h2_li : (fx_up (fx_up f wa (oI 1152 (fI gwa (48 * ac) rho i))) ld (oJ 312 (fJ gld (13 * ac) lam i2))) li = some (oJ 13 lam) := (fx_up_n _ _ hne_1).trans ((fx_up_n _ _ (fx_ne h1_li h1_wa rfl)).trans (h_li))
            have h2_wa : (fx_up (fx_up f wa (oI 1152 (fI gwa (48 * ac) rho i))) ld (oJ 312 (fJ gld (13 * ac) lam i2))) wa = some (oI 1152 (fI gwa (48 * ac) rho i)) := (fx_up_n _ _ (fx_ne h1_wa h1_ld rfl)).trans (fx_up_s _ _ _)
            have h2_ld : (fx_up (fx_up f wa (oI 1152 (fI gwa (48 * ac) rho i))) ld (oJ 312 (fJ gld (13 * ac) lam i2))) ld = some (oJ 312 (fJ gld (13 * ac) lam i2)) := fx_up_s _ _ _
            refine lv_iload_n hx hb dX12_keep_115 rfl (lv_at hl 1 rfl) ?_
            refine lv_bipush (v := nI 13) hx hb dX12_keep_116 (by decide) ?_
            refine fx_N_ge (a := i2) (b := 13) hx hb (by omega) (by omega) (tgt := 147) dX12_keep_118 (by decide) (fun c118 => ?_) (fun c118 => ?_)
            · refine lv_aload_n hx hb dX12_keep_147 rfl (lv_at hl 0 rfl) ?_
              refine lv_dup hx hb dX12_keep_148 rfl ?_
              refine fx_get C hH (k := 10) (v := .int (nI ac)) h2_mo ff_X12_156_11 rfl dX12_keep_149 ?_
              refine lv_iconst (v := nI 1) hx hb dX12_keep_152 (by decide) ?_
              refine lv_iadd hx hb dX12_keep_153 ?_
              refine fx_ti (y := nI (ac + 1)) (nI_add _ _) ?_
              refine fx_putT C hH (k := 10) h2_mo ff_X12_156_11 fL_11 fT_11_10 rfl rfl (Nat.le_of_ble_eq_true rfl) dX12_keep_154 (fun H locs hH => ?_)
              have hH : fx_H G base s (fx_up (fx_up (fx_up f wa (oI 1152 (fI gwa (48 * ac) rho i))) ld (oJ 312 (fJ gld (13 * ac) lam i2))) mo (oO 11 [.int th, .int sa, .ref la, .ref ma, .ref it, .ref rl, .ref fr, .ref li, .ref wa, .ref ld, .int (nI (ac + 1)), .ref tp, .int tn, .int cu, .int sr, .int tk, .int va, .int ft, .int fA, .int lt, .ref so, .ref ik, .ref kp, .ref kl, .ref tc, .int tt])) sz H locs := hH
              have h3_rl : (fx_up (fx_up (fx_up f wa (oI 1152 (fI gwa (48 * ac) rho i))) ld (oJ 312 (fJ gld (13 * ac) lam i2))) mo (oO 11 [.int th, .int sa, .ref la, .ref ma, .ref it, .ref rl, .ref fr, .ref li, .ref wa, .ref ld, .int (nI (ac + 1)), .ref tp, .int tn, .int cu, .int sr, .int tk, .int va, .int ft, .int fA, .int lt, .ref so, .ref ik, .ref kp, .ref kl, .ref tc, .int tt])) rl = some (oI 48 rho) := (fx_up_n _ _ (fx_ne h2_rl h2_mo rfl)).trans h2_rl
              have h3_li : (fx_up (fx_up (fx_up f wa (oI 1152 (fI gwa (48 * ac) rho i))) ld (oJ 312 (fJ gld (13 * ac) lam i2))) mo (oO 11 [.int th, .int sa, .ref la, .ref ma, .ref it, .ref rl, .ref fr, .ref li, .ref wa, .ref ld, .int (nI (ac + 1)), .ref tp, .int tn, .int cu, .int sr, .int tk, .int va, .int ft, .int fA, .int lt, .ref so, .ref ik, .ref kp, .ref kl, .ref tc, .int tt])) li = some (oJ 13 lam) := (fx_up_n _ _ (fx_ne h2_li h2_mo rfl)).trans h2_li
              have h3_wa : (fx_up (fx_up (fx_up f wa (oI 1152 (fI gwa (48 * ac) rho i))) ld (oJ 312 (fJ gld (13 * ac) lam i2))) mo (oO 11 [.int th, .int sa, .ref la, .ref ma, .ref it, .ref rl, .ref fr, .ref li, .ref wa, .ref ld, .int (nI (ac + 1)), .ref tp, .int tn, .int cu, .int sr, .int tk, .int va, .int ft, .int fA, .int lt, .ref so, .ref ik, .ref kp, .ref kl, .ref tc, .int tt])) wa = some (oI 1152 (fI gwa (48 * ac) rho i)) := (fx_up_n _ _ (fx_ne h2_wa h2_mo rfl)).trans h2_wa
              have h3_ld : (fx_up (fx_up (fx_up f wa (oI 1152 (fI gwa (48 * ac) rho i))) ld (oJ 312 (fJ gld (13 * ac) lam i2))) mo (oO 11 [.int th, .int sa, .ref la, .ref ma, .ref it, .ref rl, .ref fr, .ref li, .ref wa, .ref ld, .int (nI (ac + 1)), .ref tp, .int tn, .int cu, .int sr, .int tk, .int va, .int ft, .int fA, .int lt, .ref so, .ref ik, .ref kp, .ref kl, .ref tc, .int tt])) ld = some (oJ 312 (fJ gld (13 * ac) lam i2)) := (fx_up_n _ _ (fx_ne h2_ld h2_mo rfl)).trans h2_ld
              have h3_mo : (fx_up (fx_up (fx_up f wa (oI 1152 (fI gwa (48 * ac) rho i))) ld (oJ 312 (fJ gld (13 * ac) lam i2))) mo (oO 11 [.int th, .int sa, .ref la, .ref ma, .ref it, .ref rl, .ref fr, .ref li, .ref wa, .ref ld, .int (nI (ac + 1)), .ref tp, .int tn, .int cu, .int sr, .int tk, .int va, .int ft, .int fA, .int lt, .ref so, .ref ik, .ref kp, .ref kl, .ref tc, .int tt])) mo = some (oO 11 [.int th, .int sa, .ref la, .ref ma, .ref it, .ref rl, .ref fr, .ref li, .ref wa, .ref ld, .int (nI (ac + 1)), .ref tp, .int tn, .int cu, .int sr, .int tk, .int va, .int ft, .int fA, .int lt, .ref so, .ref ik, .ref kp, .ref kl, .ref tc, .int tt]) := fx_up_s _ _ _
              exact fx_vret C hr hk hH (by rw [h48, show i2 = 13 from by omega]) rfl (Nat.zero_le _) (Nat.zero_le _) dX12_keep_157
            · refine lv_aload_n hx hb dX12_keep_121 rfl (lv_at hl 0 rfl) ?_
              refine fx_get C hH (k := 9) (v := .ref ld) h2_mo ff_X12_32_11 rfl dX12_keep_122 ?_
              refine lv_bipush (v := nI 13) hx hb dX12_keep_125 (by decide) ?_
              refine lv_aload_n hx hb dX12_keep_127 rfl (lv_at hl 0 rfl) ?_
              refine fx_get C hH (k := 10) (v := .int (nI ac)) h2_mo ff_X12_156_11 rfl dX12_keep_128 ?_
              refine lv_imul hx hb dX12_keep_131 ?_
              refine fx_ti (y := nI (13 * ac)) (pk_mul _ _) ?_
              refine lv_iload_n hx hb dX12_keep_132 rfl (lv_at hl 1 rfl) ?_
              refine lv_iadd hx hb dX12_keep_133 ?_
              refine fx_ti (y := nI (13 * ac + i2)) (nI_add _ _) ?_
              refine lv_aload_n hx hb dX12_keep_134 rfl (lv_at hl 0 rfl) ?_
              refine fx_get C hH (k := 7) (v := .ref li) h2_mo ff_X12_25_11 rfl dX12_keep_135 ?_
              refine lv_iload_n hx hb dX12_keep_138 rfl (lv_at hl 1 rfl) ?_
              refine fx_laldN C hH h2_li (by omega) (by omega) dX12_keep_139 ?_
              refine fx_lastN C hH h2_ld (by omega) (by omega) dX12_keep_140 (fun H locs hH => ?_)
              have hH : fx_H G base s (fx_up (fx_up (fx_up f wa (oI 1152 (fI gwa (48 * ac) rho i))) ld (oJ 312 (fJ gld (13 * ac) lam i2))) ld (oJ 312 (vp_updL (fJ gld (13 * ac) lam i2) (13 * ac + i2) (lam i2)))) sz H locs := hH
              rw [fx_up_up] at hH
              have hH : fx_H G base s (fx_up (fx_up f wa (oI 1152 (fI gwa (48 * ac) rho i))) ld (oJ 312 (vp_updL (fJ gld (13 * ac) lam i2) (13 * ac + i2) (lam i2)))) sz H locs := hH
              have heq4 : fx_up (fx_up (fx_up f wa (oI 1152 (fI gwa (48 * ac) rho i))) ld (oJ 312 (fJ gld (13 * ac) lam i2))) ld (oJ 312 (vp_updL (fJ gld (13 * ac) lam i2) (13 * ac + i2) (lam i2))) = fx_up (fx_up f wa (oI 1152 (fI gwa (48 * ac) rho i))) ld (oJ 312 (vp_updL (fJ gld (13 * ac) lam i2) (13 * ac + i2) (lam i2))) := by rw [fx_up_up]
              have h4_mo : (fx_up (fx_up f wa (oI 1152 (fI gwa (48 * ac) rho i))) ld (oJ 312 (vp_updL (fJ gld (13 * ac) lam i2) (13 * ac + i2) (lam i2)))) mo = some (oO 11 [.int th, .int sa, .ref la, .ref ma, .ref it, .ref rl, .ref fr, .ref li, .ref wa, .ref ld, .int (nI ac), .ref tp, .int tn, .int cu, .int sr, .int tk, .int va, .int ft, .int fA, .int lt, .ref so, .ref ik, .ref kp, .ref kl, .ref tc, .int tt]) := (congrFun heq4 mo).symm.trans ((fx_up_n _ _ (fx_ne h2_mo h2_ld rfl)).trans h2_mo)
              have h4_rl : (fx_up (fx_up f wa (oI 1152 (fI gwa (48 * ac) rho i))) ld (oJ 312 (vp_updL (fJ gld (13 * ac) lam i2) (13 * ac + i2) (lam i2)))) rl = some (oI 48 rho) := (congrFun heq4 rl).symm.trans ((fx_up_n _ _ (fx_ne h2_rl h2_ld rfl)).trans h2_rl)
              have h4_li : (fx_up (fx_up f wa (oI 1152 (fI gwa (48 * ac) rho i))) ld (oJ 312 (vp_updL (fJ gld (13 * ac) lam i2) (13 * ac + i2) (lam i2)))) li = some (oJ 13 lam) := (congrFun heq4 li).symm.trans ((fx_up_n _ _ hne_1).trans h2_li)
              have h4_wa : (fx_up (fx_up f wa (oI 1152 (fI gwa (48 * ac) rho i))) ld (oJ 312 (vp_updL (fJ gld (13 * ac) lam i2) (13 * ac + i2) (lam i2)))) wa = some (oI 1152 (fI gwa (48 * ac) rho i)) := (congrFun heq4 wa).symm.trans ((fx_up_n _ _ (fx_ne h2_wa h2_ld rfl)).trans h2_wa)
              have h4_ld : (fx_up (fx_up f wa (oI 1152 (fI gwa (48 * ac) rho i))) ld (oJ 312 (vp_updL (fJ gld (13 * ac) lam i2) (13 * ac + i2) (lam i2)))) ld = some (oJ 312 (vp_updL (fJ gld (13 * ac) lam i2) (13 * ac + i2) (lam i2))) := (congrFun heq4 ld).symm.trans (fx_up_s _ _ _)
              refine lv_iinc (v := nI (i2 + 1)) (lv' := [(1, .int (nI (i2 + 1))), (0, .ref mo)]) hx hb dX12_keep_141 hl (k := 1) rfl (nI_1 _) (by decide) rfl (fun ls hl => ?_)
              refine lv_goto (tgt := 115) hx hb dX12_keep_144 (by decide) ?_
              have hl : lv_has ls 2 [(0, .ref mo), (1, .int (nI (i2 + 1)))] := lv_sub hl [1, 0] rfl
              have hH : fx_H G base s (fx_up (fx_up f wa (oI 1152 (fI gwa (48 * ac) rho i))) ld (oJ 312 (fJ gld (13 * ac) lam (i2 + 1)))) sz H locs := (by rw [fJ]; exact hH)
              exact ih_115 (i2 + 1) (by omega) (by omega) _ _ hH _ hl
        have hl : lv_has ls 2 [(0, .ref mo), (1, .int (nI 0))] := lv_sub hl [1, 0] rfl
        have hH : fx_H G base s (fx_up (fx_up f wa (oI 1152 (fI gwa (48 * ac) rho i))) ld (oJ 312 (fJ gld (13 * ac) lam 0))) sz H locs := (by rw [fx_up_id (show (fx_up f wa (oI 1152 (fI gwa (48 * ac) rho i))) ld = some (oJ 312 (fJ gld (13 * ac) lam 0)) from h1_ld)]; exact hH)
        exact loop_115 _ 0 (by omega) (Nat.lt_succ_self _) _ _ hH _ hl
      · refine lv_aload_n hx hb dX12_keep_87 rfl (lv_at hl 0 rfl) ?_
        refine fx_get C hH (k := 8) (v := .ref wa) h1_mo ff_X12_29_11 rfl dX12_keep_88 ?_
        refine lv_bipush (v := nI 48) hx hb dX12_keep_91 (by decide) ?_
        refine lv_aload_n hx hb dX12_keep_93 rfl (lv_at hl 0 rfl) ?_
        refine fx_get C hH (k := 10) (v := .int (nI ac)) h1_mo ff_X12_156_11 rfl dX12_keep_94 ?_
        refine lv_imul hx hb dX12_keep_97 ?_
        refine fx_ti (y := nI (48 * ac)) (pk_mul _ _) ?_
        refine lv_iload_n hx hb dX12_keep_98 rfl (lv_at hl 1 rfl) ?_
        refine lv_iadd hx hb dX12_keep_99 ?_
        refine fx_ti (y := nI (48 * ac + i)) (nI_add _ _) ?_
        refine lv_aload_n hx hb dX12_keep_100 rfl (lv_at hl 0 rfl) ?_
        refine fx_get C hH (k := 5) (v := .ref rl) h1_mo ff_X12_19_11 rfl dX12_keep_101 ?_
        refine lv_iload_n hx hb dX12_keep_104 rfl (lv_at hl 1 rfl) ?_
        refine fx_ialdN C hH h1_rl (by omega) (by omega) dX12_keep_105 ?_
        refine fx_iastN C hH h1_wa (by omega) (by omega) dX12_keep_106 (fun H locs hH => ?_)
        have hH : fx_H G base s (fx_up (fx_up f wa (oI 1152 (fI gwa (48 * ac) rho i))) wa (oI 1152 (upd (fI gwa (48 * ac) rho i) (48 * ac + i) (rho i)))) sz H locs := hH
        rw [fx_up_up] at hH
        have hH : fx_H G base s (fx_up f wa (oI 1152 (upd (fI gwa (48 * ac) rho i) (48 * ac + i) (rho i)))) sz H locs := hH
        have heq5 : fx_up (fx_up f wa (oI 1152 (fI gwa (48 * ac) rho i))) wa (oI 1152 (upd (fI gwa (48 * ac) rho i) (48 * ac + i) (rho i))) = fx_up f wa (oI 1152 (upd (fI gwa (48 * ac) rho i) (48 * ac + i) (rho i))) := by rw [fx_up_up]
        have h5_mo : (fx_up f wa (oI 1152 (upd (fI gwa (48 * ac) rho i) (48 * ac + i) (rho i)))) mo = some (oO 11 [.int th, .int sa, .ref la, .ref ma, .ref it, .ref rl, .ref fr, .ref li, .ref wa, .ref ld, .int (nI ac), .ref tp, .int tn, .int cu, .int sr, .int tk, .int va, .int ft, .int fA, .int lt, .ref so, .ref ik, .ref kp, .ref kl, .ref tc, .int tt]) := (congrFun heq5 mo).symm.trans ((fx_up_n _ _ (fx_ne h1_mo h1_wa rfl)).trans h1_mo)
        have h5_rl : (fx_up f wa (oI 1152 (upd (fI gwa (48 * ac) rho i) (48 * ac + i) (rho i)))) rl = some (oI 48 rho) := (congrFun heq5 rl).symm.trans ((fx_up_n _ _ hne_0).trans h1_rl)
        have h5_li : (fx_up f wa (oI 1152 (upd (fI gwa (48 * ac) rho i) (48 * ac + i) (rho i)))) li = some (oJ 13 lam) := (congrFun heq5 li).symm.trans ((fx_up_n _ _ (fx_ne h1_li h1_wa rfl)).trans h1_li)
        have h5_ld : (fx_up f wa (oI 1152 (upd (fI gwa (48 * ac) rho i) (48 * ac + i) (rho i)))) ld = some (oJ 312 gld) := (congrFun heq5 ld).symm.trans ((fx_up_n _ _ (fx_ne h1_ld h1_wa rfl)).trans h1_ld)
        have h5_wa : (fx_up f wa (oI 1152 (upd (fI gwa (48 * ac) rho i) (48 * ac + i) (rho i)))) wa = some (oI 1152 (upd (fI gwa (48 * ac) rho i) (48 * ac + i) (rho i))) := (congrFun heq5 wa).symm.trans (fx_up_s _ _ _)
        refine lv_iinc (v := nI (i + 1)) (lv' := [(1, .int (nI (i + 1))), (0, .ref mo)]) hx hb dX12_keep_107 hl (k := 1) rfl (nI_1 _) (by decide) rfl (fun ls hl => ?_)
        refine lv_goto (tgt := 81) hx hb dX12_keep_110 (by decide) ?_
        have hl : lv_has ls 2 [(0, .ref mo), (1, .int (nI (i + 1)))] := lv_sub hl [1, 0] rfl
        have hH : fx_H G base s (fx_up f wa (oI 1152 (fI gwa (48 * ac) rho (i + 1)))) sz H locs := (by rw [fI]; exact hH)
        exact ih_81 (i + 1) (by omega) (by omega) _ _ hH _ hl
  have hl : lv_has ls 2 [(0, .ref mo), (1, .int (nI 0))] := lv_sub hl [1, 0] rfl
  have hH : fx_H G base s (fx_up f wa (oI 1152 (fI gwa (48 * ac) rho 0))) sz H locs := (by rw [fx_up_id (show f wa = some (oI 1152 (fI gwa (48 * ac) rho 0)) from h_wa)]; exact hH)
  exact loop_81 _ 0 (by omega) (Nat.lt_succ_self _) _ _ hH _ hl
set_option maxHeartbeats 4000000 in
set_option maxRecDepth 100000 in
theorem c_X12_keep_eq {G : GG} {base : Nat} {l : Launch} {f : Hp} {sz : Nat} {mo : Nat} {th : Int32} {sa : Int32} {la : Nat} {ma : Nat} {it : Nat} {rl : Nat} {fr : Nat} {li : Nat} {wa : Nat} {ld : Nat} {ac : Nat} {tp : Nat} {tn : Int32} {cu : Int32} {sr : Int32} {tk : Int32} {va : Int32} {ft : Int32} {fA : Int32} {lt : Int32} {so : Nat} {ik : Nat} {kp : Nat} {kl : Nat} {tc : Nat} {tt : Int32} {rho : Nat → Int32} {lam : Nat → Int64} {gwa : Nat → Int32} {gld : Nat → Int64} (h_mo : f mo = some (oO 11 [.int th, .int sa, .ref la, .ref ma, .ref it, .ref rl, .ref fr, .ref li, .ref wa, .ref ld, .int (nI ac), .ref tp, .int tn, .int cu, .int sr, .int tk, .int va, .int ft, .int fA, .int lt, .ref so, .ref ik, .ref kp, .ref kl, .ref tc, .int tt])) (h_rl : f rl = some (oI 48 rho)) (h_li : f li = some (oJ 13 lam)) (h_wa : f wa = some (oI 1152 gwa)) (h_ld : f ld = some (oJ 312 gld)) (hne_0 : rl ≠ wa) (hne_1 : li ≠ ld) (hac : ac = 24) : fx_M G base l yX12_keep cX12_keep 2 none rm_X12_keep [.ref mo] f sz none (fx_up (fx_up (fx_up f wa (oI 1152 (fI (fI gwa 0 (fun z => gwa (z + 48)) 1104) (48 * (ac - 1)) rho 48))) ld (oJ 312 (fJ (fJ gld 0 (fun z => gld (z + 13)) 299) (13 * (ac - 1)) lam 13))) mo (oO 11 [.int th, .int sa, .ref la, .ref ma, .ref it, .ref rl, .ref fr, .ref li, .ref wa, .ref ld, .int (nI (ac - 1 + 1)), .ref tp, .int tn, .int cu, .int sr, .int tk, .int va, .int ft, .int fA, .int lt, .ref so, .ref ik, .ref kp, .ref kl, .ref tc, .int tt])) sz := by
  refine fx_of (by decide +kernel) (Nat.le_of_ble_eq_true rfl) ?_
  intro p e s m args below meth c C hr hk hnm hH ls hl
  obtain ⟨locs, hlocs⟩ : ∃ L : List Loc, L = [] := ⟨_, rfl⟩
  rw [← hlocs] at hH ⊢
  generalize s.heap = H at hH ⊢
  have hx := C.1
  have hb := C.2.1
  have hl : lv_has ls 2 [(0, .ref mo)] := hl
  refine lv_aload_n hx hb dX12_keep_0 rfl (lv_at hl 0 rfl) ?_
  refine fx_get C hH (k := 10) (v := .int (nI ac)) h_mo ff_X12_156_11 rfl dX12_keep_1 ?_
  refine lv_bipush (v := nI 24) hx hb dX12_keep_4 (by decide) ?_
  refine fx_N_ne (a := ac) (b := 24) hx hb (by omega) (by omega) (tgt := 79) dX12_keep_6 (by decide) (fun c6 => absurd c6 (by omega)) (fun c6 => ?_)
  refine lv_iconst (v := nI 0) hx hb dX12_keep_9 (by decide) ?_
  refine lv_istore_n (lv' := [(1, .int (nI 0)), (0, .ref mo)]) hx hb dX12_keep_10 rfl hl (by decide) rfl (fun ls hl => ?_)
  have loop_11 : ∀ (N_11 : Nat) (a1 : Nat) (ha1 : a1 ≤ 1104) (hm_11 : 1104 - a1 < N_11) (H : Heap) (locs : List Loc) (hH : fx_H G base s (fx_up f wa (oI 1152 (fI gwa 0 (fun z => gwa (z + 48)) a1))) sz H locs) (ls : Array Slot) (hl : lv_has ls 2 [(0, .ref mo), (1, .int (nI a1))]), W p l e rm_X12_keep s m args below meth c H locs 0 0 (MQ below (fx_Q G base none (fx_up (fx_up (fx_up f wa (oI 1152 (fI (fI gwa 0 (fun z => gwa (z + 48)) 1104) (48 * (ac - 1)) rho 48))) ld (oJ 312 (fJ (fJ gld 0 (fun z => gld (z + 13)) 299) (13 * (ac - 1)) lam 13))) mo (oO 11 [.int th, .int sa, .ref la, .ref ma, .ref it, .ref rl, .ref fr, .ref li, .ref wa, .ref ld, .int (nI (ac - 1 + 1)), .ref tp, .int tn, .int cu, .int sr, .int tk, .int va, .int ft, .int fA, .int lt, .ref so, .ref ik, .ref kp, .ref kl, .ref tc, .int tt])) sz) args s rm_X12_keep.cells rm_X12_keep.slots (fun q => base ≤ q)) (F0 m 11 ls []) := by
    intro N_11
    induction N_11 with
    | zero => intro a1 ha1 hm_11; exact absurd hm_11 (Nat.not_lt_zero _)
    | succ N_11 ih_11 =>
      intro a1 ha1 hm_11 H locs hH ls hl
      have h1_mo : (fx_up f wa (oI 1152 (fI gwa 0 (fun z => gwa (z + 48)) a1))) mo = some (oO 11 [.int th, .int sa, .ref la, .ref ma, .ref it, .ref rl, .ref fr, .ref li, .ref wa, .ref ld, .int (nI ac), .ref tp, .int tn, .int cu, .int sr, .int tk, .int va, .int ft, .int fA, .int lt, .ref so, .ref ik, .ref kp, .ref kl, .ref tc, .int tt]) := (fx_up_n _ _ (fx_ne h_mo h_wa rfl)).trans (h_mo)
      have h1_rl : (fx_up f wa (oI 1152 (fI gwa 0 (fun z => gwa (z + 48)) a1))) rl = some (oI 48 rho) := (fx_up_n _ _ hne_0).trans (h_rl)
      have h1_li : (fx_up f wa (oI 1152 (fI gwa 0 (fun z => gwa (z + 48)) a1))) li = some (oJ 13 lam) := (fx_up_n _ _ (fx_ne h_li h_wa rfl)).trans (h_li)
      have h1_wa : (fx_up f wa (oI 1152 (fI gwa 0 (fun z => gwa (z + 48)) a1))) wa = some (oI 1152 (fI gwa 0 (fun z => gwa (z + 48)) a1)) := fx_up_s _ _ _
      have h1_ld : (fx_up f wa (oI 1152 (fI gwa 0 (fun z => gwa (z + 48)) a1))) ld = some (oJ 312 gld) := (fx_up_n _ _ (fx_ne h_ld h_wa rfl)).trans (h_ld)
      refine lv_iload_n hx hb dX12_keep_11 rfl (lv_at hl 1 rfl) ?_
      refine lv_sipush (v := nI 1104) hx hb dX12_keep_12 (by decide) ?_
      refine fx_N_ge (a := a1) (b := 1104) hx hb (by omega) (by omega) (tgt := 39) dX12_keep_15 (by decide) (fun c15 => ?_) (fun c15 => ?_)
      · refine lv_iconst (v := nI 0) hx hb dX12_keep_39 (by decide) ?_
        refine lv_istore_n (lv' := [(1, .int (nI 0)), (0, .ref mo)]) hx hb dX12_keep_40 rfl hl (by decide) rfl (fun ls hl => ?_)
        have h1104 : a1 = 1104 := by omega
        have loop_41 : ∀ (N_41 : Nat) (a2 : Nat) (ha2 : a2 ≤ 299) (hm_41 : 299 - a2 < N_41) (H : Heap) (locs : List Loc) (hH : fx_H G base s (fx_up (fx_up f wa (oI 1152 (fI gwa 0 (fun z => gwa (z + 48)) a1))) ld (oJ 312 (fJ gld 0 (fun z => gld (z + 13)) a2))) sz H locs) (ls : Array Slot) (hl : lv_has ls 2 [(0, .ref mo), (1, .int (nI a2))]), W p l e rm_X12_keep s m args below meth c H locs 0 0 (MQ below (fx_Q G base none (fx_up (fx_up (fx_up f wa (oI 1152 (fI (fI gwa 0 (fun z => gwa (z + 48)) 1104) (48 * (ac - 1)) rho 48))) ld (oJ 312 (fJ (fJ gld 0 (fun z => gld (z + 13)) 299) (13 * (ac - 1)) lam 13))) mo (oO 11 [.int th, .int sa, .ref la, .ref ma, .ref it, .ref rl, .ref fr, .ref li, .ref wa, .ref ld, .int (nI (ac - 1 + 1)), .ref tp, .int tn, .int cu, .int sr, .int tk, .int va, .int ft, .int fA, .int lt, .ref so, .ref ik, .ref kp, .ref kl, .ref tc, .int tt])) sz) args s rm_X12_keep.cells rm_X12_keep.slots (fun q => base ≤ q)) (F0 m 41 ls []) := by
          intro N_41
          induction N_41 with
          | zero => intro a2 ha2 hm_41; exact absurd hm_41 (Nat.not_lt_zero _)
          | succ N_41 ih_41 =>
            intro a2 ha2 hm_41 H locs hH ls hl
            have h2_mo : (fx_up (fx_up f wa (oI 1152 (fI gwa 0 (fun z => gwa (z + 48)) a1))) ld (oJ 312 (fJ gld 0 (fun z => gld (z + 13)) a2))) mo = some (oO 11 [.int th, .int sa, .ref la, .ref ma, .ref it, .ref rl, .ref fr, .ref li, .ref wa, .ref ld, .int (nI ac), .ref tp, .int tn, .int cu, .int sr, .int tk, .int va, .int ft, .int fA, .int lt, .ref so, .ref ik, .ref kp, .ref kl, .ref tc, .int tt]) := (fx_up_n _ _ (fx_ne h1_mo h1_ld rfl)).trans ((fx_up_n _ _ (fx_ne h1_mo h1_wa rfl)).trans (h_mo))
            have h2_rl : (fx_up (fx_up f wa (oI 1152 (fI gwa 0 (fun z => gwa (z + 48)) a1))) ld (oJ 312 (fJ gld 0 (fun z => gld (z + 13)) a2))) rl = some (oI 48 rho) := (fx_up_n _ _ (fx_ne h1_rl h1_ld rfl)).trans ((fx_up_n _ _ hne_0).trans (h_rl))
            have h2_li : (fx_up (fx_up f wa (oI 1152 (fI gwa 0 (fun z => gwa (z + 48)) a1))) ld (oJ 312 (fJ gld 0 (fun z => gld (z + 13)) a2))) li = some (oJ 13 lam) := (fx_up_n _ _ hne_1).trans ((fx_up_n _ _ (fx_ne h1_li h1_wa rfl)).trans (h_li))
            have h2_wa : (fx_up (fx_up f wa (oI 1152 (fI gwa 0 (fun z => gwa (z + 48)) a1))) ld (oJ 312 (fJ gld 0 (fun z => gld (z + 13)) a2))) wa = some (oI 1152 (fI gwa 0 (fun z => gwa (z + 48)) a1)) := (fx_up_n _ _ (fx_ne h1_wa h1_ld rfl)).trans (fx_up_s _ _ _)
            have h2_ld : (fx_up (fx_up f wa (oI 1152 (fI gwa 0 (fun z => gwa (z + 48)) a1))) ld (oJ 312 (fJ gld 0 (fun z => gld (z + 13)) a2))) ld = some (oJ 312 (fJ gld 0 (fun z => gld (z + 13)) a2)) := fx_up_s _ _ _
            refine lv_iload_n hx hb dX12_keep_41 rfl (lv_at hl 1 rfl) ?_
            refine lv_sipush (v := nI 299) hx hb dX12_keep_42 (by decide) ?_
            refine fx_N_ge (a := a2) (b := 299) hx hb (by omega) (by omega) (tgt := 69) dX12_keep_45 (by decide) (fun c45 => ?_) (fun c45 => ?_)
            · refine lv_aload_n hx hb dX12_keep_69 rfl (lv_at hl 0 rfl) ?_
              refine lv_dup hx hb dX12_keep_70 rfl ?_
              refine fx_get C hH (k := 10) (v := .int (nI ac)) h2_mo ff_X12_156_11 rfl dX12_keep_71 ?_
              refine lv_iconst (v := nI 1) hx hb dX12_keep_74 (by decide) ?_
              refine lv_isub hx hb dX12_keep_75 ?_
              refine fx_ti (y := nI (ac - 1)) (pk_sub (by omega)) ?_
              refine fx_putT C hH (k := 10) h2_mo ff_X12_156_11 fL_11 fT_11_10 rfl rfl (Nat.le_of_ble_eq_true rfl) dX12_keep_76 (fun H locs hH => ?_)
              have hH : fx_H G base s (fx_up (fx_up (fx_up f wa (oI 1152 (fI gwa 0 (fun z => gwa (z + 48)) a1))) ld (oJ 312 (fJ gld 0 (fun z => gld (z + 13)) a2))) mo (oO 11 [.int th, .int sa, .ref la, .ref ma, .ref it, .ref rl, .ref fr, .ref li, .ref wa, .ref ld, .int (nI (ac - 1)), .ref tp, .int tn, .int cu, .int sr, .int tk, .int va, .int ft, .int fA, .int lt, .ref so, .ref ik, .ref kp, .ref kl, .ref tc, .int tt])) sz H locs := hH
              have h3_rl : (fx_up (fx_up (fx_up f wa (oI 1152 (fI gwa 0 (fun z => gwa (z + 48)) a1))) ld (oJ 312 (fJ gld 0 (fun z => gld (z + 13)) a2))) mo (oO 11 [.int th, .int sa, .ref la, .ref ma, .ref it, .ref rl, .ref fr, .ref li, .ref wa, .ref ld, .int (nI (ac - 1)), .ref tp, .int tn, .int cu, .int sr, .int tk, .int va, .int ft, .int fA, .int lt, .ref so, .ref ik, .ref kp, .ref kl, .ref tc, .int tt])) rl = some (oI 48 rho) := (fx_up_n _ _ (fx_ne h2_rl h2_mo rfl)).trans h2_rl
              have h3_li : (fx_up (fx_up (fx_up f wa (oI 1152 (fI gwa 0 (fun z => gwa (z + 48)) a1))) ld (oJ 312 (fJ gld 0 (fun z => gld (z + 13)) a2))) mo (oO 11 [.int th, .int sa, .ref la, .ref ma, .ref it, .ref rl, .ref fr, .ref li, .ref wa, .ref ld, .int (nI (ac - 1)), .ref tp, .int tn, .int cu, .int sr, .int tk, .int va, .int ft, .int fA, .int lt, .ref so, .ref ik, .ref kp, .ref kl, .ref tc, .int tt])) li = some (oJ 13 lam) := (fx_up_n _ _ (fx_ne h2_li h2_mo rfl)).trans h2_li
              have h3_wa : (fx_up (fx_up (fx_up f wa (oI 1152 (fI gwa 0 (fun z => gwa (z + 48)) a1))) ld (oJ 312 (fJ gld 0 (fun z => gld (z + 13)) a2))) mo (oO 11 [.int th, .int sa, .ref la, .ref ma, .ref it, .ref rl, .ref fr, .ref li, .ref wa, .ref ld, .int (nI (ac - 1)), .ref tp, .int tn, .int cu, .int sr, .int tk, .int va, .int ft, .int fA, .int lt, .ref so, .ref ik, .ref kp, .ref kl, .ref tc, .int tt])) wa = some (oI 1152 (fI gwa 0 (fun z => gwa (z + 48)) a1)) := (fx_up_n _ _ (fx_ne h2_wa h2_mo rfl)).trans h2_wa
              have h3_ld : (fx_up (fx_up (fx_up f wa (oI 1152 (fI gwa 0 (fun z => gwa (z + 48)) a1))) ld (oJ 312 (fJ gld 0 (fun z => gld (z + 13)) a2))) mo (oO 11 [.int th, .int sa, .ref la, .ref ma, .ref it, .ref rl, .ref fr, .ref li, .ref wa, .ref ld, .int (nI (ac - 1)), .ref tp, .int tn, .int cu, .int sr, .int tk, .int va, .int ft, .int fA, .int lt, .ref so, .ref ik, .ref kp, .ref kl, .ref tc, .int tt])) ld = some (oJ 312 (fJ gld 0 (fun z => gld (z + 13)) a2)) := (fx_up_n _ _ (fx_ne h2_ld h2_mo rfl)).trans h2_ld
              have h3_mo : (fx_up (fx_up (fx_up f wa (oI 1152 (fI gwa 0 (fun z => gwa (z + 48)) a1))) ld (oJ 312 (fJ gld 0 (fun z => gld (z + 13)) a2))) mo (oO 11 [.int th, .int sa, .ref la, .ref ma, .ref it, .ref rl, .ref fr, .ref li, .ref wa, .ref ld, .int (nI (ac - 1)), .ref tp, .int tn, .int cu, .int sr, .int tk, .int va, .int ft, .int fA, .int lt, .ref so, .ref ik, .ref kp, .ref kl, .ref tc, .int tt])) mo = some (oO 11 [.int th, .int sa, .ref la, .ref ma, .ref it, .ref rl, .ref fr, .ref li, .ref wa, .ref ld, .int (nI (ac - 1)), .ref tp, .int tn, .int cu, .int sr, .int tk, .int va, .int ft, .int fA, .int lt, .ref so, .ref ik, .ref kp, .ref kl, .ref tc, .int tt]) := fx_up_s _ _ _
              refine lv_iconst (v := nI 0) hx hb dX12_keep_79 (by decide) ?_
              refine lv_istore_n (lv' := [(1, .int (nI 0)), (0, .ref mo)]) hx hb dX12_keep_80 rfl hl (by decide) rfl (fun ls hl => ?_)
              have h299 : a2 = 299 := by omega
              have loop_81 : ∀ (N_81 : Nat) (i : Nat) (hi : i ≤ 48) (hm_81 : 48 - i < N_81) (H : Heap) (locs : List Loc) (hH : fx_H G base s (fx_up (fx_up (fx_up f wa (oI 1152 (fI (fI gwa 0 (fun z => gwa (z + 48)) a1) (48 * (ac - 1)) rho i))) ld (oJ 312 (fJ gld 0 (fun z => gld (z + 13)) a2))) mo (oO 11 [.int th, .int sa, .ref la, .ref ma, .ref it, .ref rl, .ref fr, .ref li, .ref wa, .ref ld, .int (nI (ac - 1)), .ref tp, .int tn, .int cu, .int sr, .int tk, .int va, .int ft, .int fA, .int lt, .ref so, .ref ik, .ref kp, .ref kl, .ref tc, .int tt])) sz H locs) (ls : Array Slot) (hl : lv_has ls 2 [(0, .ref mo), (1, .int (nI i))]), W p l e rm_X12_keep s m args below meth c H locs 0 0 (MQ below (fx_Q G base none (fx_up (fx_up (fx_up f wa (oI 1152 (fI (fI gwa 0 (fun z => gwa (z + 48)) 1104) (48 * (ac - 1)) rho 48))) ld (oJ 312 (fJ (fJ gld 0 (fun z => gld (z + 13)) 299) (13 * (ac - 1)) lam 13))) mo (oO 11 [.int th, .int sa, .ref la, .ref ma, .ref it, .ref rl, .ref fr, .ref li, .ref wa, .ref ld, .int (nI (ac - 1 + 1)), .ref tp, .int tn, .int cu, .int sr, .int tk, .int va, .int ft, .int fA, .int lt, .ref so, .ref ik, .ref kp, .ref kl, .ref tc, .int tt])) sz) args s rm_X12_keep.cells rm_X12_keep.slots (fun q => base ≤ q)) (F0 m 81 ls []) := by
                intro N_81
                induction N_81 with
                | zero => intro i hi hm_81; exact absurd hm_81 (Nat.not_lt_zero _)
                | succ N_81 ih_81 =>
                  intro i hi hm_81 H locs hH ls hl
                  have h4_rl : (fx_up (fx_up (fx_up f wa (oI 1152 (fI (fI gwa 0 (fun z => gwa (z + 48)) a1) (48 * (ac - 1)) rho i))) ld (oJ 312 (fJ gld 0 (fun z => gld (z + 13)) a2))) mo (oO 11 [.int th, .int sa, .ref la, .ref ma, .ref it, .ref rl, .ref fr, .ref li, .ref wa, .ref ld, .int (nI (ac - 1)), .ref tp, .int tn, .int cu, .int sr, .int tk, .int va, .int ft, .int fA, .int lt, .ref so, .ref ik, .ref kp, .ref kl, .ref tc, .int tt])) rl = some (oI 48 rho) := (fx_up_n _ _ (fx_ne h3_rl h3_mo rfl)).trans ((fx_up_n _ _ (fx_ne h3_rl h3_ld rfl)).trans ((fx_up_n _ _ hne_0).trans (h_rl)))
                  have h4_li : (fx_up (fx_up (fx_up f wa (oI 1152 (fI (fI gwa 0 (fun z => gwa (z + 48)) a1) (48 * (ac - 1)) rho i))) ld (oJ 312 (fJ gld 0 (fun z => gld (z + 13)) a2))) mo (oO 11 [.int th, .int sa, .ref la, .ref ma, .ref it, .ref rl, .ref fr, .ref li, .ref wa, .ref ld, .int (nI (ac - 1)), .ref tp, .int tn, .int cu, .int sr, .int tk, .int va, .int ft, .int fA, .int lt, .ref so, .ref ik, .ref kp, .ref kl, .ref tc, .int tt])) li = some (oJ 13 lam) := (fx_up_n _ _ (fx_ne h3_li h3_mo rfl)).trans ((fx_up_n _ _ hne_1).trans ((fx_up_n _ _ (fx_ne h3_li h3_wa rfl)).trans (h_li)))
                  have h4_wa : (fx_up (fx_up (fx_up f wa (oI 1152 (fI (fI gwa 0 (fun z => gwa (z + 48)) a1) (48 * (ac - 1)) rho i))) ld (oJ 312 (fJ gld 0 (fun z => gld (z + 13)) a2))) mo (oO 11 [.int th, .int sa, .ref la, .ref ma, .ref it, .ref rl, .ref fr, .ref li, .ref wa, .ref ld, .int (nI (ac - 1)), .ref tp, .int tn, .int cu, .int sr, .int tk, .int va, .int ft, .int fA, .int lt, .ref so, .ref ik, .ref kp, .ref kl, .ref tc, .int tt])) wa = some (oI 1152 (fI (fI gwa 0 (fun z => gwa (z + 48)) a1) (48 * (ac - 1)) rho i)) := (fx_up_n _ _ (fx_ne h3_wa h3_mo rfl)).trans ((fx_up_n _ _ (fx_ne h3_wa h3_ld rfl)).trans (fx_up_s _ _ _))
                  have h4_ld : (fx_up (fx_up (fx_up f wa (oI 1152 (fI (fI gwa 0 (fun z => gwa (z + 48)) a1) (48 * (ac - 1)) rho i))) ld (oJ 312 (fJ gld 0 (fun z => gld (z + 13)) a2))) mo (oO 11 [.int th, .int sa, .ref la, .ref ma, .ref it, .ref rl, .ref fr, .ref li, .ref wa, .ref ld, .int (nI (ac - 1)), .ref tp, .int tn, .int cu, .int sr, .int tk, .int va, .int ft, .int fA, .int lt, .ref so, .ref ik, .ref kp, .ref kl, .ref tc, .int tt])) ld = some (oJ 312 (fJ gld 0 (fun z => gld (z + 13)) a2)) := (fx_up_n _ _ (fx_ne h3_ld h3_mo rfl)).trans (fx_up_s _ _ _)
                  have h4_mo : (fx_up (fx_up (fx_up f wa (oI 1152 (fI (fI gwa 0 (fun z => gwa (z + 48)) a1) (48 * (ac - 1)) rho i))) ld (oJ 312 (fJ gld 0 (fun z => gld (z + 13)) a2))) mo (oO 11 [.int th, .int sa, .ref la, .ref ma, .ref it, .ref rl, .ref fr, .ref li, .ref wa, .ref ld, .int (nI (ac - 1)), .ref tp, .int tn, .int cu, .int sr, .int tk, .int va, .int ft, .int fA, .int lt, .ref so, .ref ik, .ref kp, .ref kl, .ref tc, .int tt])) mo = some (oO 11 [.int th, .int sa, .ref la, .ref ma, .ref it, .ref rl, .ref fr, .ref li, .ref wa, .ref ld, .int (nI (ac - 1)), .ref tp, .int tn, .int cu, .int sr, .int tk, .int va, .int ft, .int fA, .int lt, .ref so, .ref ik, .ref kp, .ref kl, .ref tc, .int tt]) := fx_up_s _ _ _
                  refine lv_iload_n hx hb dX12_keep_81 rfl (lv_at hl 1 rfl) ?_
                  refine lv_bipush (v := nI 48) hx hb dX12_keep_82 (by decide) ?_
                  refine fx_N_ge (a := i) (b := 48) hx hb (by omega) (by omega) (tgt := 113) dX12_keep_84 (by decide) (fun c84 => ?_) (fun c84 => ?_)
                  · refine lv_iconst (v := nI 0) hx hb dX12_keep_113 (by decide) ?_
                    refine lv_istore_n (lv' := [(1, .int (nI 0)), (0, .ref mo)]) hx hb dX12_keep_114 rfl hl (by decide) rfl (fun ls hl => ?_)
                    have h48 : i = 48 := by omega
                    have loop_115 : ∀ (N_115 : Nat) (i2 : Nat) (hi2 : i2 ≤ 13) (hm_115 : 13 - i2 < N_115) (H : Heap) (locs : List Loc) (hH : fx_H G base s (fx_up (fx_up (fx_up f wa (oI 1152 (fI (fI gwa 0 (fun z => gwa (z + 48)) a1) (48 * (ac - 1)) rho i))) ld (oJ 312 (fJ (fJ gld 0 (fun z => gld (z + 13)) a2) (13 * (ac - 1)) lam i2))) mo (oO 11 [.int th, .int sa, .ref la, .ref ma, .ref it, .ref rl, .ref fr, .ref li, .ref wa, .ref ld, .int (nI (ac - 1)), .ref tp, .int tn, .int cu, .int sr, .int tk, .int va, .int ft, .int fA, .int lt, .ref so, .ref ik, .ref kp, .ref kl, .ref tc, .int tt])) sz H locs) (ls : Array Slot) (hl : lv_has ls 2 [(0, .ref mo), (1, .int (nI i2))]), W p l e rm_X12_keep s m args below meth c H locs 0 0 (MQ below (fx_Q G base none (fx_up (fx_up (fx_up f wa (oI 1152 (fI (fI gwa 0 (fun z => gwa (z + 48)) 1104) (48 * (ac - 1)) rho 48))) ld (oJ 312 (fJ (fJ gld 0 (fun z => gld (z + 13)) 299) (13 * (ac - 1)) lam 13))) mo (oO 11 [.int th, .int sa, .ref la, .ref ma, .ref it, .ref rl, .ref fr, .ref li, .ref wa, .ref ld, .int (nI (ac - 1 + 1)), .ref tp, .int tn, .int cu, .int sr, .int tk, .int va, .int ft, .int fA, .int lt, .ref so, .ref ik, .ref kp, .ref kl, .ref tc, .int tt])) sz) args s rm_X12_keep.cells rm_X12_keep.slots (fun q => base ≤ q)) (F0 m 115 ls []) := by
                      intro N_115
                      induction N_115 with
                      | zero => intro i2 hi2 hm_115; exact absurd hm_115 (Nat.not_lt_zero _)
                      | succ N_115 ih_115 =>
                        intro i2 hi2 hm_115 H locs hH ls hl
                        have h5_rl : (fx_up (fx_up (fx_up f wa (oI 1152 (fI (fI gwa 0 (fun z => gwa (z + 48)) a1) (48 * (ac - 1)) rho i))) ld (oJ 312 (fJ (fJ gld 0 (fun z => gld (z + 13)) a2) (13 * (ac - 1)) lam i2))) mo (oO 11 [.int th, .int sa, .ref la, .ref ma, .ref it, .ref rl, .ref fr, .ref li, .ref wa, .ref ld, .int (nI (ac - 1)), .ref tp, .int tn, .int cu, .int sr, .int tk, .int va, .int ft, .int fA, .int lt, .ref so, .ref ik, .ref kp, .ref kl, .ref tc, .int tt])) rl = some (oI 48 rho) := (fx_up_n _ _ (fx_ne h4_rl h4_mo rfl)).trans ((fx_up_n _ _ (fx_ne h4_rl h4_ld rfl)).trans ((fx_up_n _ _ hne_0).trans (h_rl)))
                        have h5_li : (fx_up (fx_up (fx_up f wa (oI 1152 (fI (fI gwa 0 (fun z => gwa (z + 48)) a1) (48 * (ac - 1)) rho i))) ld (oJ 312 (fJ (fJ gld 0 (fun z => gld (z + 13)) a2) (13 * (ac - 1)) lam i2))) mo (oO 11 [.int th, .int sa, .ref la, .ref ma, .ref it, .ref rl, .ref fr, .ref li, .ref wa, .ref ld, .int (nI (ac - 1)), .ref tp, .int tn, .int cu, .int sr, .int tk, .int va, .int ft, .int fA, .int lt, .ref so, .ref ik, .ref kp, .ref kl, .ref tc, .int tt])) li = some (oJ 13 lam) := (fx_up_n _ _ (fx_ne h4_li h4_mo rfl)).trans ((fx_up_n _ _ hne_1).trans ((fx_up_n _ _ (fx_ne h4_li h4_wa rfl)).trans (h_li)))
                        have h5_wa : (fx_up (fx_up (fx_up f wa (oI 1152 (fI (fI gwa 0 (fun z => gwa (z + 48)) a1) (48 * (ac - 1)) rho i))) ld (oJ 312 (fJ (fJ gld 0 (fun z => gld (z + 13)) a2) (13 * (ac - 1)) lam i2))) mo (oO 11 [.int th, .int sa, .ref la, .ref ma, .ref it, .ref rl, .ref fr, .ref li, .ref wa, .ref ld, .int (nI (ac - 1)), .ref tp, .int tn, .int cu, .int sr, .int tk, .int va, .int ft, .int fA, .int lt, .ref so, .ref ik, .ref kp, .ref kl, .ref tc, .int tt])) wa = some (oI 1152 (fI (fI gwa 0 (fun z => gwa (z + 48)) a1) (48 * (ac - 1)) rho i)) := (fx_up_n _ _ (fx_ne h4_wa h4_mo rfl)).trans ((fx_up_n _ _ (fx_ne h4_wa h4_ld rfl)).trans (fx_up_s _ _ _))
                        have h5_ld : (fx_up (fx_up (fx_up f wa (oI 1152 (fI (fI gwa 0 (fun z => gwa (z + 48)) a1) (48 * (ac - 1)) rho i))) ld (oJ 312 (fJ (fJ gld 0 (fun z => gld (z + 13)) a2) (13 * (ac - 1)) lam i2))) mo (oO 11 [.int th, .int sa, .ref la, .ref ma, .ref it, .ref rl, .ref fr, .ref li, .ref wa, .ref ld, .int (nI (ac - 1)), .ref tp, .int tn, .int cu, .int sr, .int tk, .int va, .int ft, .int fA, .int lt, .ref so, .ref ik, .ref kp, .ref kl, .ref tc, .int tt])) ld = some (oJ 312 (fJ (fJ gld 0 (fun z => gld (z + 13)) a2) (13 * (ac - 1)) lam i2)) := (fx_up_n _ _ (fx_ne h4_ld h4_mo rfl)).trans (fx_up_s _ _ _)
                        have h5_mo : (fx_up (fx_up (fx_up f wa (oI 1152 (fI (fI gwa 0 (fun z => gwa (z + 48)) a1) (48 * (ac - 1)) rho i))) ld (oJ 312 (fJ (fJ gld 0 (fun z => gld (z + 13)) a2) (13 * (ac - 1)) lam i2))) mo (oO 11 [.int th, .int sa, .ref la, .ref ma, .ref it, .ref rl, .ref fr, .ref li, .ref wa, .ref ld, .int (nI (ac - 1)), .ref tp, .int tn, .int cu, .int sr, .int tk, .int va, .int ft, .int fA, .int lt, .ref so, .ref ik, .ref kp, .ref kl, .ref tc, .int tt])) mo = some (oO 11 [.int th, .int sa, .ref la, .ref ma, .ref it, .ref rl, .ref fr, .ref li, .ref wa, .ref ld, .int (nI (ac - 1)), .ref tp, .int tn, .int cu, .int sr, .int tk, .int va, .int ft, .int fA, .int lt, .ref so, .ref ik, .ref kp, .ref kl, .ref tc, .int tt]) := fx_up_s _ _ _
                        refine lv_iload_n hx hb dX12_keep_115 rfl (lv_at hl 1 rfl) ?_
                        refine lv_bipush (v := nI 13) hx hb dX12_keep_116 (by decide) ?_
                        refine fx_N_ge (a := i2) (b := 13) hx hb (by omega) (by omega) (tgt := 147) dX12_keep_118 (by decide) (fun c118 => ?_) (fun c118 => ?_)
                        · refine lv_aload_n hx hb dX12_keep_147 rfl (lv_at hl 0 rfl) ?_
                          refine lv_dup hx hb dX12_keep_148 rfl ?_
                          refine fx_get C hH (k := 10) (v := .int (nI (ac - 1))) h5_mo ff_X12_156_11 rfl dX12_keep_149 ?_
                          refine lv_iconst (v := nI 1) hx hb dX12_keep_152 (by decide) ?_
                          refine lv_iadd hx hb dX12_keep_153 ?_
                          refine fx_ti (y := nI (ac - 1 + 1)) (nI_add _ _) ?_
                          refine fx_putT C hH (k := 10) h5_mo ff_X12_156_11 fL_11 fT_11_10 rfl rfl (Nat.le_of_ble_eq_true rfl) dX12_keep_154 (fun H locs hH => ?_)
                          have hH : fx_H G base s (fx_up (fx_up (fx_up (fx_up f wa (oI 1152 (fI (fI gwa 0 (fun z => gwa (z + 48)) a1) (48 * (ac - 1)) rho i))) ld (oJ 312 (fJ (fJ gld 0 (fun z => gld (z + 13)) a2) (13 * (ac - 1)) lam i2))) mo (oO 11 [.int th, .int sa, .ref la, .ref ma, .ref it, .ref rl, .ref fr, .ref li, .ref wa, .ref ld, .int (nI (ac - 1)), .ref tp, .int tn, .int cu, .int sr, .int tk, .int va, .int ft, .int fA, .int lt, .ref so, .ref ik, .ref kp, .ref kl, .ref tc, .int tt])) mo (oO 11 [.int th, .int sa, .ref la, .ref ma, .ref it, .ref rl, .ref fr, .ref li, .ref wa, .ref ld, .int (nI (ac - 1 + 1)), .ref tp, .int tn, .int cu, .int sr, .int tk, .int va, .int ft, .int fA, .int lt, .ref so, .ref ik, .ref kp, .ref kl, .ref tc, .int tt])) sz H locs := hH
                          rw [fx_up_up] at hH
                          have hH : fx_H G base s (fx_up (fx_up (fx_up f wa (oI 1152 (fI (fI gwa 0 (fun z => gwa (z + 48)) a1) (48 * (ac - 1)) rho i))) ld (oJ 312 (fJ (fJ gld 0 (fun z => gld (z + 13)) a2) (13 * (ac - 1)) lam i2))) mo (oO 11 [.int th, .int sa, .ref la, .ref ma, .ref it, .ref rl, .ref fr, .ref li, .ref wa, .ref ld, .int (nI (ac - 1 + 1)), .ref tp, .int tn, .int cu, .int sr, .int tk, .int va, .int ft, .int fA, .int lt, .ref so, .ref ik, .ref kp, .ref kl, .ref tc, .int tt])) sz H locs := hH
                          have heq6 : fx_up (fx_up (fx_up (fx_up f wa (oI 1152 (fI (fI gwa 0 (fun z => gwa (z + 48)) a1) (48 * (ac - 1)) rho i))) ld (oJ 312 (fJ (fJ gld 0 (fun z => gld (z + 13)) a2) (13 * (ac - 1)) lam i2))) mo (oO 11 [.int th, .int sa, .ref la, .ref ma, .ref it, .ref rl, .ref fr, .ref li, .ref wa, .ref ld, .int (nI (ac - 1)), .ref tp, .int tn, .int cu, .int sr, .int tk, .int va, .int ft, .int fA, .int lt, .ref so, .ref ik, .ref kp, .ref kl, .ref tc, .int tt])) mo (oO 11 [.int th, .int sa, .ref la, .ref ma, .ref it, .ref rl, .ref fr, .ref li, .ref wa, .ref ld, .int (nI (ac - 1 + 1)), .ref tp, .int tn, .int cu, .int sr, .int tk, .int va, .int ft, .int fA, .int lt, .ref so, .ref ik, .ref kp, .ref kl, .ref tc, .int tt]) = fx_up (fx_up (fx_up f wa (oI 1152 (fI (fI gwa 0 (fun z => gwa (z + 48)) a1) (48 * (ac - 1)) rho i))) ld (oJ 312 (fJ (fJ gld 0 (fun z => gld (z + 13)) a2) (13 * (ac - 1)) lam i2))) mo (oO 11 [.int th, .int sa, .ref la, .ref ma, .ref it, .ref rl, .ref fr, .ref li, .ref wa, .ref ld, .int (nI (ac - 1 + 1)), .ref tp, .int tn, .int cu, .int sr, .int tk, .int va, .int ft, .int fA, .int lt, .ref so, .ref ik, .ref kp, .ref kl, .ref tc, .int tt]) := by rw [fx_up_up]
                          have h6_rl : (fx_up (fx_up (fx_up f wa (oI 1152 (fI (fI gwa 0 (fun z => gwa (z + 48)) a1) (48 * (ac - 1)) rho i))) ld (oJ 312 (fJ (fJ gld 0 (fun z => gld (z + 13)) a2) (13 * (ac - 1)) lam i2))) mo (oO 11 [.int th, .int sa, .ref la, .ref ma, .ref it, .ref rl, .ref fr, .ref li, .ref wa, .ref ld, .int (nI (ac - 1 + 1)), .ref tp, .int tn, .int cu, .int sr, .int tk, .int va, .int ft, .int fA, .int lt, .ref so, .ref ik, .ref kp, .ref kl, .ref tc, .int tt])) rl = some (oI 48 rho) := (congrFun heq6 rl).symm.trans ((fx_up_n _ _ (fx_ne h5_rl h5_mo rfl)).trans h5_rl)
                          have h6_li : (fx_up (fx_up (fx_up f wa (oI 1152 (fI (fI gwa 0 (fun z => gwa (z + 48)) a1) (48 * (ac - 1)) rho i))) ld (oJ 312 (fJ (fJ gld 0 (fun z => gld (z + 13)) a2) (13 * (ac - 1)) lam i2))) mo (oO 11 [.int th, .int sa, .ref la, .ref ma, .ref it, .ref rl, .ref fr, .ref li, .ref wa, .ref ld, .int (nI (ac - 1 + 1)), .ref tp, .int tn, .int cu, .int sr, .int tk, .int va, .int ft, .int fA, .int lt, .ref so, .ref ik, .ref kp, .ref kl, .ref tc, .int tt])) li = some (oJ 13 lam) := (congrFun heq6 li).symm.trans ((fx_up_n _ _ (fx_ne h5_li h5_mo rfl)).trans h5_li)
                          have h6_wa : (fx_up (fx_up (fx_up f wa (oI 1152 (fI (fI gwa 0 (fun z => gwa (z + 48)) a1) (48 * (ac - 1)) rho i))) ld (oJ 312 (fJ (fJ gld 0 (fun z => gld (z + 13)) a2) (13 * (ac - 1)) lam i2))) mo (oO 11 [.int th, .int sa, .ref la, .ref ma, .ref it, .ref rl, .ref fr, .ref li, .ref wa, .ref ld, .int (nI (ac - 1 + 1)), .ref tp, .int tn, .int cu, .int sr, .int tk, .int va, .int ft, .int fA, .int lt, .ref so, .ref ik, .ref kp, .ref kl, .ref tc, .int tt])) wa = some (oI 1152 (fI (fI gwa 0 (fun z => gwa (z + 48)) a1) (48 * (ac - 1)) rho i)) := (congrFun heq6 wa).symm.trans ((fx_up_n _ _ (fx_ne h5_wa h5_mo rfl)).trans h5_wa)
                          have h6_ld : (fx_up (fx_up (fx_up f wa (oI 1152 (fI (fI gwa 0 (fun z => gwa (z + 48)) a1) (48 * (ac - 1)) rho i))) ld (oJ 312 (fJ (fJ gld 0 (fun z => gld (z + 13)) a2) (13 * (ac - 1)) lam i2))) mo (oO 11 [.int th, .int sa, .ref la, .ref ma, .ref it, .ref rl, .ref fr, .ref li, .ref wa, .ref ld, .int (nI (ac - 1 + 1)), .ref tp, .int tn, .int cu, .int sr, .int tk, .int va, .int ft, .int fA, .int lt, .ref so, .ref ik, .ref kp, .ref kl, .ref tc, .int tt])) ld = some (oJ 312 (fJ (fJ gld 0 (fun z => gld (z + 13)) a2) (13 * (ac - 1)) lam i2)) := (congrFun heq6 ld).symm.trans ((fx_up_n _ _ (fx_ne h5_ld h5_mo rfl)).trans h5_ld)
                          have h6_mo : (fx_up (fx_up (fx_up f wa (oI 1152 (fI (fI gwa 0 (fun z => gwa (z + 48)) a1) (48 * (ac - 1)) rho i))) ld (oJ 312 (fJ (fJ gld 0 (fun z => gld (z + 13)) a2) (13 * (ac - 1)) lam i2))) mo (oO 11 [.int th, .int sa, .ref la, .ref ma, .ref it, .ref rl, .ref fr, .ref li, .ref wa, .ref ld, .int (nI (ac - 1 + 1)), .ref tp, .int tn, .int cu, .int sr, .int tk, .int va, .int ft, .int fA, .int lt, .ref so, .ref ik, .ref kp, .ref kl, .ref tc, .int tt])) mo = some (oO 11 [.int th, .int sa, .ref la, .ref ma, .ref it, .ref rl, .ref fr, .ref li, .ref wa, .ref ld, .int (nI (ac - 1 + 1)), .ref tp, .int tn, .int cu, .int sr, .int tk, .int va, .int ft, .int fA, .int lt, .ref so, .ref ik, .ref kp, .ref kl, .ref tc, .int tt]) := (congrFun heq6 mo).symm.trans (fx_up_s _ _ _)
                          exact fx_vret C hr hk hH (by rw [h48, show i2 = 13 from by omega, h1104, h299]) rfl (Nat.zero_le _) (Nat.zero_le _) dX12_keep_157
                        · refine lv_aload_n hx hb dX12_keep_121 rfl (lv_at hl 0 rfl) ?_
                          refine fx_get C hH (k := 9) (v := .ref ld) h5_mo ff_X12_32_11 rfl dX12_keep_122 ?_
                          refine lv_bipush (v := nI 13) hx hb dX12_keep_125 (by decide) ?_
                          refine lv_aload_n hx hb dX12_keep_127 rfl (lv_at hl 0 rfl) ?_
                          refine fx_get C hH (k := 10) (v := .int (nI (ac - 1))) h5_mo ff_X12_156_11 rfl dX12_keep_128 ?_
                          refine lv_imul hx hb dX12_keep_131 ?_
                          refine fx_ti (y := nI (13 * (ac - 1))) (pk_mul _ _) ?_
                          refine lv_iload_n hx hb dX12_keep_132 rfl (lv_at hl 1 rfl) ?_
                          refine lv_iadd hx hb dX12_keep_133 ?_
                          refine fx_ti (y := nI (13 * (ac - 1) + i2)) (nI_add _ _) ?_
                          refine lv_aload_n hx hb dX12_keep_134 rfl (lv_at hl 0 rfl) ?_
                          refine fx_get C hH (k := 7) (v := .ref li) h5_mo ff_X12_25_11 rfl dX12_keep_135 ?_
                          refine lv_iload_n hx hb dX12_keep_138 rfl (lv_at hl 1 rfl) ?_
                          refine fx_laldN C hH h5_li (by omega) (by omega) dX12_keep_139 ?_
                          refine fx_lastN C hH h5_ld (by omega) (by omega) dX12_keep_140 (fun H locs hH => ?_)
                          have hH : fx_H G base s (fx_up (fx_up (fx_up (fx_up f wa (oI 1152 (fI (fI gwa 0 (fun z => gwa (z + 48)) a1) (48 * (ac - 1)) rho i))) ld (oJ 312 (fJ (fJ gld 0 (fun z => gld (z + 13)) a2) (13 * (ac - 1)) lam i2))) mo (oO 11 [.int th, .int sa, .ref la, .ref ma, .ref it, .ref rl, .ref fr, .ref li, .ref wa, .ref ld, .int (nI (ac - 1)), .ref tp, .int tn, .int cu, .int sr, .int tk, .int va, .int ft, .int fA, .int lt, .ref so, .ref ik, .ref kp, .ref kl, .ref tc, .int tt])) ld (oJ 312 (vp_updL (fJ (fJ gld 0 (fun z => gld (z + 13)) a2) (13 * (ac - 1)) lam i2) (13 * (ac - 1) + i2) (lam i2)))) sz H locs := hH
                          rw [fx_up_c _ _ _ (fx_ne h5_mo h5_ld rfl), fx_up_up] at hH
                          have hH : fx_H G base s (fx_up (fx_up (fx_up f wa (oI 1152 (fI (fI gwa 0 (fun z => gwa (z + 48)) a1) (48 * (ac - 1)) rho i))) ld (oJ 312 (vp_updL (fJ (fJ gld 0 (fun z => gld (z + 13)) a2) (13 * (ac - 1)) lam i2) (13 * (ac - 1) + i2) (lam i2)))) mo (oO 11 [.int th, .int sa, .ref la, .ref ma, .ref it, .ref rl, .ref fr, .ref li, .ref wa, .ref ld, .int (nI (ac - 1)), .ref tp, .int tn, .int cu, .int sr, .int tk, .int va, .int ft, .int fA, .int lt, .ref so, .ref ik, .ref kp, .ref kl, .ref tc, .int tt])) sz H locs := hH
                          have heq7 : fx_up (fx_up (fx_up (fx_up f wa (oI 1152 (fI (fI gwa 0 (fun z => gwa (z + 48)) a1) (48 * (ac - 1)) rho i))) ld (oJ 312 (fJ (fJ gld 0 (fun z => gld (z + 13)) a2) (13 * (ac - 1)) lam i2))) mo (oO 11 [.int th, .int sa, .ref la, .ref ma, .ref it, .ref rl, .ref fr, .ref li, .ref wa, .ref ld, .int (nI (ac - 1)), .ref tp, .int tn, .int cu, .int sr, .int tk, .int va, .int ft, .int fA, .int lt, .ref so, .ref ik, .ref kp, .ref kl, .ref tc, .int tt])) ld (oJ 312 (vp_updL (fJ (fJ gld 0 (fun z => gld (z + 13)) a2) (13 * (ac - 1)) lam i2) (13 * (ac - 1) + i2) (lam i2))) = fx_up (fx_up (fx_up f wa (oI 1152 (fI (fI gwa 0 (fun z => gwa (z + 48)) a1) (48 * (ac - 1)) rho i))) ld (oJ 312 (vp_updL (fJ (fJ gld 0 (fun z => gld (z + 13)) a2) (13 * (ac - 1)) lam i2) (13 * (ac - 1) + i2) (lam i2)))) mo (oO 11 [.int th, .int sa, .ref la, .ref ma, .ref it, .ref rl, .ref fr, .ref li, .ref wa, .ref ld, .int (nI (ac - 1)), .ref tp, .int tn, .int cu, .int sr, .int tk, .int va, .int ft, .int fA, .int lt, .ref so, .ref ik, .ref kp, .ref kl, .ref tc, .int tt]) := by rw [fx_up_c _ _ _ (fx_ne h5_mo h5_ld rfl), fx_up_up]
                          have h7_rl : (fx_up (fx_up (fx_up f wa (oI 1152 (fI (fI gwa 0 (fun z => gwa (z + 48)) a1) (48 * (ac - 1)) rho i))) ld (oJ 312 (vp_updL (fJ (fJ gld 0 (fun z => gld (z + 13)) a2) (13 * (ac - 1)) lam i2) (13 * (ac - 1) + i2) (lam i2)))) mo (oO 11 [.int th, .int sa, .ref la, .ref ma, .ref it, .ref rl, .ref fr, .ref li, .ref wa, .ref ld, .int (nI (ac - 1)), .ref tp, .int tn, .int cu, .int sr, .int tk, .int va, .int ft, .int fA, .int lt, .ref so, .ref ik, .ref kp, .ref kl, .ref tc, .int tt])) rl = some (oI 48 rho) := (congrFun heq7 rl).symm.trans ((fx_up_n _ _ (fx_ne h5_rl h5_ld rfl)).trans h5_rl)
                          have h7_li : (fx_up (fx_up (fx_up f wa (oI 1152 (fI (fI gwa 0 (fun z => gwa (z + 48)) a1) (48 * (ac - 1)) rho i))) ld (oJ 312 (vp_updL (fJ (fJ gld 0 (fun z => gld (z + 13)) a2) (13 * (ac - 1)) lam i2) (13 * (ac - 1) + i2) (lam i2)))) mo (oO 11 [.int th, .int sa, .ref la, .ref ma, .ref it, .ref rl, .ref fr, .ref li, .ref wa, .ref ld, .int (nI (ac - 1)), .ref tp, .int tn, .int cu, .int sr, .int tk, .int va, .int ft, .int fA, .int lt, .ref so, .ref ik, .ref kp, .ref kl, .ref tc, .int tt])) li = some (oJ 13 lam) := (congrFun heq7 li).symm.trans ((fx_up_n _ _ hne_1).trans h5_li)
                          have h7_wa : (fx_up (fx_up (fx_up f wa (oI 1152 (fI (fI gwa 0 (fun z => gwa (z + 48)) a1) (48 * (ac - 1)) rho i))) ld (oJ 312 (vp_updL (fJ (fJ gld 0 (fun z => gld (z + 13)) a2) (13 * (ac - 1)) lam i2) (13 * (ac - 1) + i2) (lam i2)))) mo (oO 11 [.int th, .int sa, .ref la, .ref ma, .ref it, .ref rl, .ref fr, .ref li, .ref wa, .ref ld, .int (nI (ac - 1)), .ref tp, .int tn, .int cu, .int sr, .int tk, .int va, .int ft, .int fA, .int lt, .ref so, .ref ik, .ref kp, .ref kl, .ref tc, .int tt])) wa = some (oI 1152 (fI (fI gwa 0 (fun z => gwa (z + 48)) a1) (48 * (ac - 1)) rho i)) := (congrFun heq7 wa).symm.trans ((fx_up_n _ _ (fx_ne h5_wa h5_ld rfl)).trans h5_wa)
                          have h7_mo : (fx_up (fx_up (fx_up f wa (oI 1152 (fI (fI gwa 0 (fun z => gwa (z + 48)) a1) (48 * (ac - 1)) rho i))) ld (oJ 312 (vp_updL (fJ (fJ gld 0 (fun z => gld (z + 13)) a2) (13 * (ac - 1)) lam i2) (13 * (ac - 1) + i2) (lam i2)))) mo (oO 11 [.int th, .int sa, .ref la, .ref ma, .ref it, .ref rl, .ref fr, .ref li, .ref wa, .ref ld, .int (nI (ac - 1)), .ref tp, .int tn, .int cu, .int sr, .int tk, .int va, .int ft, .int fA, .int lt, .ref so, .ref ik, .ref kp, .ref kl, .ref tc, .int tt])) mo = some (oO 11 [.int th, .int sa, .ref la, .ref ma, .ref it, .ref rl, .ref fr, .ref li, .ref wa, .ref ld, .int (nI (ac - 1)), .ref tp, .int tn, .int cu, .int sr, .int tk, .int va, .int ft, .int fA, .int lt, .ref so, .ref ik, .ref kp, .ref kl, .ref tc, .int tt]) := (congrFun heq7 mo).symm.trans ((fx_up_n _ _ (fx_ne h5_mo h5_ld rfl)).trans h5_mo)
                          have h7_ld : (fx_up (fx_up (fx_up f wa (oI 1152 (fI (fI gwa 0 (fun z => gwa (z + 48)) a1) (48 * (ac - 1)) rho i))) ld (oJ 312 (vp_updL (fJ (fJ gld 0 (fun z => gld (z + 13)) a2) (13 * (ac - 1)) lam i2) (13 * (ac - 1) + i2) (lam i2)))) mo (oO 11 [.int th, .int sa, .ref la, .ref ma, .ref it, .ref rl, .ref fr, .ref li, .ref wa, .ref ld, .int (nI (ac - 1)), .ref tp, .int tn, .int cu, .int sr, .int tk, .int va, .int ft, .int fA, .int lt, .ref so, .ref ik, .ref kp, .ref kl, .ref tc, .int tt])) ld = some (oJ 312 (vp_updL (fJ (fJ gld 0 (fun z => gld (z + 13)) a2) (13 * (ac - 1)) lam i2) (13 * (ac - 1) + i2) (lam i2))) := (congrFun heq7 ld).symm.trans (fx_up_s _ _ _)
                          refine lv_iinc (v := nI (i2 + 1)) (lv' := [(1, .int (nI (i2 + 1))), (0, .ref mo)]) hx hb dX12_keep_141 hl (k := 1) rfl (nI_1 _) (by decide) rfl (fun ls hl => ?_)
                          refine lv_goto (tgt := 115) hx hb dX12_keep_144 (by decide) ?_
                          have hl : lv_has ls 2 [(0, .ref mo), (1, .int (nI (i2 + 1)))] := lv_sub hl [1, 0] rfl
                          have hH : fx_H G base s (fx_up (fx_up (fx_up f wa (oI 1152 (fI (fI gwa 0 (fun z => gwa (z + 48)) a1) (48 * (ac - 1)) rho i))) ld (oJ 312 (fJ (fJ gld 0 (fun z => gld (z + 13)) a2) (13 * (ac - 1)) lam (i2 + 1)))) mo (oO 11 [.int th, .int sa, .ref la, .ref ma, .ref it, .ref rl, .ref fr, .ref li, .ref wa, .ref ld, .int (nI (ac - 1)), .ref tp, .int tn, .int cu, .int sr, .int tk, .int va, .int ft, .int fA, .int lt, .ref so, .ref ik, .ref kp, .ref kl, .ref tc, .int tt])) sz H locs := (by rw [fJ]; exact hH)
                          exact ih_115 (i2 + 1) (by omega) (by omega) _ _ hH _ hl
                    have hl : lv_has ls 2 [(0, .ref mo), (1, .int (nI 0))] := lv_sub hl [1, 0] rfl
                    have hH : fx_H G base s (fx_up (fx_up (fx_up f wa (oI 1152 (fI (fI gwa 0 (fun z => gwa (z + 48)) a1) (48 * (ac - 1)) rho i))) ld (oJ 312 (fJ (fJ gld 0 (fun z => gld (z + 13)) a2) (13 * (ac - 1)) lam 0))) mo (oO 11 [.int th, .int sa, .ref la, .ref ma, .ref it, .ref rl, .ref fr, .ref li, .ref wa, .ref ld, .int (nI (ac - 1)), .ref tp, .int tn, .int cu, .int sr, .int tk, .int va, .int ft, .int fA, .int lt, .ref so, .ref ik, .ref kp, .ref kl, .ref tc, .int tt])) sz H locs := hH
                    exact loop_115 _ 0 (by omega) (Nat.lt_succ_self _) _ _ hH _ hl
                  · refine lv_aload_n hx hb dX12_keep_87 rfl (lv_at hl 0 rfl) ?_
                    refine fx_get C hH (k := 8) (v := .ref wa) h4_mo ff_X12_29_11 rfl dX12_keep_88 ?_
                    refine lv_bipush (v := nI 48) hx hb dX12_keep_91 (by decide) ?_
                    refine lv_aload_n hx hb dX12_keep_93 rfl (lv_at hl 0 rfl) ?_
                    refine fx_get C hH (k := 10) (v := .int (nI (ac - 1))) h4_mo ff_X12_156_11 rfl dX12_keep_94 ?_
                    refine lv_imul hx hb dX12_keep_97 ?_
                    refine fx_ti (y := nI (48 * (ac - 1))) (pk_mul _ _) ?_
                    refine lv_iload_n hx hb dX12_keep_98 rfl (lv_at hl 1 rfl) ?_
                    refine lv_iadd hx hb dX12_keep_99 ?_
                    refine fx_ti (y := nI (48 * (ac - 1) + i)) (nI_add _ _) ?_
                    refine lv_aload_n hx hb dX12_keep_100 rfl (lv_at hl 0 rfl) ?_
                    refine fx_get C hH (k := 5) (v := .ref rl) h4_mo ff_X12_19_11 rfl dX12_keep_101 ?_
                    refine lv_iload_n hx hb dX12_keep_104 rfl (lv_at hl 1 rfl) ?_
                    refine fx_ialdN C hH h4_rl (by omega) (by omega) dX12_keep_105 ?_
                    refine fx_iastN C hH h4_wa (by omega) (by omega) dX12_keep_106 (fun H locs hH => ?_)
                    have hH : fx_H G base s (fx_up (fx_up (fx_up (fx_up f wa (oI 1152 (fI (fI gwa 0 (fun z => gwa (z + 48)) a1) (48 * (ac - 1)) rho i))) ld (oJ 312 (fJ gld 0 (fun z => gld (z + 13)) a2))) mo (oO 11 [.int th, .int sa, .ref la, .ref ma, .ref it, .ref rl, .ref fr, .ref li, .ref wa, .ref ld, .int (nI (ac - 1)), .ref tp, .int tn, .int cu, .int sr, .int tk, .int va, .int ft, .int fA, .int lt, .ref so, .ref ik, .ref kp, .ref kl, .ref tc, .int tt])) wa (oI 1152 (upd (fI (fI gwa 0 (fun z => gwa (z + 48)) a1) (48 * (ac - 1)) rho i) (48 * (ac - 1) + i) (rho i)))) sz H locs := hH
                    rw [fx_up_c _ _ _ (fx_ne h4_mo h4_wa rfl), fx_up_c _ _ _ (fx_ne h4_ld h4_wa rfl), fx_up_up] at hH
                    have hH : fx_H G base s (fx_up (fx_up (fx_up f wa (oI 1152 (upd (fI (fI gwa 0 (fun z => gwa (z + 48)) a1) (48 * (ac - 1)) rho i) (48 * (ac - 1) + i) (rho i)))) ld (oJ 312 (fJ gld 0 (fun z => gld (z + 13)) a2))) mo (oO 11 [.int th, .int sa, .ref la, .ref ma, .ref it, .ref rl, .ref fr, .ref li, .ref wa, .ref ld, .int (nI (ac - 1)), .ref tp, .int tn, .int cu, .int sr, .int tk, .int va, .int ft, .int fA, .int lt, .ref so, .ref ik, .ref kp, .ref kl, .ref tc, .int tt])) sz H locs := hH
                    have heq8 : fx_up (fx_up (fx_up (fx_up f wa (oI 1152 (fI (fI gwa 0 (fun z => gwa (z + 48)) a1) (48 * (ac - 1)) rho i))) ld (oJ 312 (fJ gld 0 (fun z => gld (z + 13)) a2))) mo (oO 11 [.int th, .int sa, .ref la, .ref ma, .ref it, .ref rl, .ref fr, .ref li, .ref wa, .ref ld, .int (nI (ac - 1)), .ref tp, .int tn, .int cu, .int sr, .int tk, .int va, .int ft, .int fA, .int lt, .ref so, .ref ik, .ref kp, .ref kl, .ref tc, .int tt])) wa (oI 1152 (upd (fI (fI gwa 0 (fun z => gwa (z + 48)) a1) (48 * (ac - 1)) rho i) (48 * (ac - 1) + i) (rho i))) = fx_up (fx_up (fx_up f wa (oI 1152 (upd (fI (fI gwa 0 (fun z => gwa (z + 48)) a1) (48 * (ac - 1)) rho i) (48 * (ac - 1) + i) (rho i)))) ld (oJ 312 (fJ gld 0 (fun z => gld (z + 13)) a2))) mo (oO 11 [.int th, .int sa, .ref la, .ref ma, .ref it, .ref rl, .ref fr, .ref li, .ref wa, .ref ld, .int (nI (ac - 1)), .ref tp, .int tn, .int cu, .int sr, .int tk, .int va, .int ft, .int fA, .int lt, .ref so, .ref ik, .ref kp, .ref kl, .ref tc, .int tt]) := by rw [fx_up_c _ _ _ (fx_ne h4_mo h4_wa rfl), fx_up_c _ _ _ (fx_ne h4_ld h4_wa rfl), fx_up_up]
                    have h8_rl : (fx_up (fx_up (fx_up f wa (oI 1152 (upd (fI (fI gwa 0 (fun z => gwa (z + 48)) a1) (48 * (ac - 1)) rho i) (48 * (ac - 1) + i) (rho i)))) ld (oJ 312 (fJ gld 0 (fun z => gld (z + 13)) a2))) mo (oO 11 [.int th, .int sa, .ref la, .ref ma, .ref it, .ref rl, .ref fr, .ref li, .ref wa, .ref ld, .int (nI (ac - 1)), .ref tp, .int tn, .int cu, .int sr, .int tk, .int va, .int ft, .int fA, .int lt, .ref so, .ref ik, .ref kp, .ref kl, .ref tc, .int tt])) rl = some (oI 48 rho) := (congrFun heq8 rl).symm.trans ((fx_up_n _ _ hne_0).trans h4_rl)
                    have h8_li : (fx_up (fx_up (fx_up f wa (oI 1152 (upd (fI (fI gwa 0 (fun z => gwa (z + 48)) a1) (48 * (ac - 1)) rho i) (48 * (ac - 1) + i) (rho i)))) ld (oJ 312 (fJ gld 0 (fun z => gld (z + 13)) a2))) mo (oO 11 [.int th, .int sa, .ref la, .ref ma, .ref it, .ref rl, .ref fr, .ref li, .ref wa, .ref ld, .int (nI (ac - 1)), .ref tp, .int tn, .int cu, .int sr, .int tk, .int va, .int ft, .int fA, .int lt, .ref so, .ref ik, .ref kp, .ref kl, .ref tc, .int tt])) li = some (oJ 13 lam) := (congrFun heq8 li).symm.trans ((fx_up_n _ _ (fx_ne h4_li h4_wa rfl)).trans h4_li)
                    have h8_ld : (fx_up (fx_up (fx_up f wa (oI 1152 (upd (fI (fI gwa 0 (fun z => gwa (z + 48)) a1) (48 * (ac - 1)) rho i) (48 * (ac - 1) + i) (rho i)))) ld (oJ 312 (fJ gld 0 (fun z => gld (z + 13)) a2))) mo (oO 11 [.int th, .int sa, .ref la, .ref ma, .ref it, .ref rl, .ref fr, .ref li, .ref wa, .ref ld, .int (nI (ac - 1)), .ref tp, .int tn, .int cu, .int sr, .int tk, .int va, .int ft, .int fA, .int lt, .ref so, .ref ik, .ref kp, .ref kl, .ref tc, .int tt])) ld = some (oJ 312 (fJ gld 0 (fun z => gld (z + 13)) a2)) := (congrFun heq8 ld).symm.trans ((fx_up_n _ _ (fx_ne h4_ld h4_wa rfl)).trans h4_ld)
                    have h8_mo : (fx_up (fx_up (fx_up f wa (oI 1152 (upd (fI (fI gwa 0 (fun z => gwa (z + 48)) a1) (48 * (ac - 1)) rho i) (48 * (ac - 1) + i) (rho i)))) ld (oJ 312 (fJ gld 0 (fun z => gld (z + 13)) a2))) mo (oO 11 [.int th, .int sa, .ref la, .ref ma, .ref it, .ref rl, .ref fr, .ref li, .ref wa, .ref ld, .int (nI (ac - 1)), .ref tp, .int tn, .int cu, .int sr, .int tk, .int va, .int ft, .int fA, .int lt, .ref so, .ref ik, .ref kp, .ref kl, .ref tc, .int tt])) mo = some (oO 11 [.int th, .int sa, .ref la, .ref ma, .ref it, .ref rl, .ref fr, .ref li, .ref wa, .ref ld, .int (nI (ac - 1)), .ref tp, .int tn, .int cu, .int sr, .int tk, .int va, .int ft, .int fA, .int lt, .ref so, .ref ik, .ref kp, .ref kl, .ref tc, .int tt]) := (congrFun heq8 mo).symm.trans ((fx_up_n _ _ (fx_ne h4_mo h4_wa rfl)).trans h4_mo)
                    have h8_wa : (fx_up (fx_up (fx_up f wa (oI 1152 (upd (fI (fI gwa 0 (fun z => gwa (z + 48)) a1) (48 * (ac - 1)) rho i) (48 * (ac - 1) + i) (rho i)))) ld (oJ 312 (fJ gld 0 (fun z => gld (z + 13)) a2))) mo (oO 11 [.int th, .int sa, .ref la, .ref ma, .ref it, .ref rl, .ref fr, .ref li, .ref wa, .ref ld, .int (nI (ac - 1)), .ref tp, .int tn, .int cu, .int sr, .int tk, .int va, .int ft, .int fA, .int lt, .ref so, .ref ik, .ref kp, .ref kl, .ref tc, .int tt])) wa = some (oI 1152 (upd (fI (fI gwa 0 (fun z => gwa (z + 48)) a1) (48 * (ac - 1)) rho i) (48 * (ac - 1) + i) (rho i))) := (congrFun heq8 wa).symm.trans (fx_up_s _ _ _)
                    refine lv_iinc (v := nI (i + 1)) (lv' := [(1, .int (nI (i + 1))), (0, .ref mo)]) hx hb dX12_keep_107 hl (k := 1) rfl (nI_1 _) (by decide) rfl (fun ls hl => ?_)
                    refine lv_goto (tgt := 81) hx hb dX12_keep_110 (by decide) ?_
                    have hl : lv_has ls 2 [(0, .ref mo), (1, .int (nI (i + 1)))] := lv_sub hl [1, 0] rfl
                    have hH : fx_H G base s (fx_up (fx_up (fx_up f wa (oI 1152 (fI (fI gwa 0 (fun z => gwa (z + 48)) a1) (48 * (ac - 1)) rho (i + 1)))) ld (oJ 312 (fJ gld 0 (fun z => gld (z + 13)) a2))) mo (oO 11 [.int th, .int sa, .ref la, .ref ma, .ref it, .ref rl, .ref fr, .ref li, .ref wa, .ref ld, .int (nI (ac - 1)), .ref tp, .int tn, .int cu, .int sr, .int tk, .int va, .int ft, .int fA, .int lt, .ref so, .ref ik, .ref kp, .ref kl, .ref tc, .int tt])) sz H locs := (by rw [fI]; exact hH)
                    exact ih_81 (i + 1) (by omega) (by omega) _ _ hH _ hl
              have hl : lv_has ls 2 [(0, .ref mo), (1, .int (nI 0))] := lv_sub hl [1, 0] rfl
              have hH : fx_H G base s (fx_up (fx_up (fx_up f wa (oI 1152 (fI (fI gwa 0 (fun z => gwa (z + 48)) a1) (48 * (ac - 1)) rho 0))) ld (oJ 312 (fJ gld 0 (fun z => gld (z + 13)) a2))) mo (oO 11 [.int th, .int sa, .ref la, .ref ma, .ref it, .ref rl, .ref fr, .ref li, .ref wa, .ref ld, .int (nI (ac - 1)), .ref tp, .int tn, .int cu, .int sr, .int tk, .int va, .int ft, .int fA, .int lt, .ref so, .ref ik, .ref kp, .ref kl, .ref tc, .int tt])) sz H locs := hH
              exact loop_81 _ 0 (by omega) (Nat.lt_succ_self _) _ _ hH _ hl
            · refine lv_aload_n hx hb dX12_keep_48 rfl (lv_at hl 0 rfl) ?_
              refine fx_get C hH (k := 9) (v := .ref ld) h2_mo ff_X12_32_11 rfl dX12_keep_49 ?_
              refine lv_iload_n hx hb dX12_keep_52 rfl (lv_at hl 1 rfl) ?_
              refine lv_aload_n hx hb dX12_keep_53 rfl (lv_at hl 0 rfl) ?_
              refine fx_get C hH (k := 9) (v := .ref ld) h2_mo ff_X12_32_11 rfl dX12_keep_54 ?_
              refine lv_iload_n hx hb dX12_keep_57 rfl (lv_at hl 1 rfl) ?_
              refine lv_bipush (v := nI 13) hx hb dX12_keep_58 (by decide) ?_
              refine lv_iadd hx hb dX12_keep_60 ?_
              refine fx_ti (y := nI (a2 + 13)) (nI_add _ _) ?_
              refine fx_laldN C hH h2_ld (by omega) (by omega) dX12_keep_61 ?_
              refine fx_tl (y := gld (a2 + 13)) (by rw [fJ_at, if_neg (by omega)]) ?_
              refine fx_lastN C hH h2_ld (by omega) (by omega) dX12_keep_62 (fun H locs hH => ?_)
              have hH : fx_H G base s (fx_up (fx_up (fx_up f wa (oI 1152 (fI gwa 0 (fun z => gwa (z + 48)) a1))) ld (oJ 312 (fJ gld 0 (fun z => gld (z + 13)) a2))) ld (oJ 312 (vp_updL (fJ gld 0 (fun z => gld (z + 13)) a2) a2 (gld (a2 + 13))))) sz H locs := hH
              rw [fx_up_up] at hH
              have hH : fx_H G base s (fx_up (fx_up f wa (oI 1152 (fI gwa 0 (fun z => gwa (z + 48)) a1))) ld (oJ 312 (vp_updL (fJ gld 0 (fun z => gld (z + 13)) a2) a2 (gld (a2 + 13))))) sz H locs := hH
              have heq9 : fx_up (fx_up (fx_up f wa (oI 1152 (fI gwa 0 (fun z => gwa (z + 48)) a1))) ld (oJ 312 (fJ gld 0 (fun z => gld (z + 13)) a2))) ld (oJ 312 (vp_updL (fJ gld 0 (fun z => gld (z + 13)) a2) a2 (gld (a2 + 13)))) = fx_up (fx_up f wa (oI 1152 (fI gwa 0 (fun z => gwa (z + 48)) a1))) ld (oJ 312 (vp_updL (fJ gld 0 (fun z => gld (z + 13)) a2) a2 (gld (a2 + 13)))) := by rw [fx_up_up]
              have h9_mo : (fx_up (fx_up f wa (oI 1152 (fI gwa 0 (fun z => gwa (z + 48)) a1))) ld (oJ 312 (vp_updL (fJ gld 0 (fun z => gld (z + 13)) a2) a2 (gld (a2 + 13))))) mo = some (oO 11 [.int th, .int sa, .ref la, .ref ma, .ref it, .ref rl, .ref fr, .ref li, .ref wa, .ref ld, .int (nI ac), .ref tp, .int tn, .int cu, .int sr, .int tk, .int va, .int ft, .int fA, .int lt, .ref so, .ref ik, .ref kp, .ref kl, .ref tc, .int tt]) := (congrFun heq9 mo).symm.trans ((fx_up_n _ _ (fx_ne h2_mo h2_ld rfl)).trans h2_mo)
              have h9_rl : (fx_up (fx_up f wa (oI 1152 (fI gwa 0 (fun z => gwa (z + 48)) a1))) ld (oJ 312 (vp_updL (fJ gld 0 (fun z => gld (z + 13)) a2) a2 (gld (a2 + 13))))) rl = some (oI 48 rho) := (congrFun heq9 rl).symm.trans ((fx_up_n _ _ (fx_ne h2_rl h2_ld rfl)).trans h2_rl)
              have h9_li : (fx_up (fx_up f wa (oI 1152 (fI gwa 0 (fun z => gwa (z + 48)) a1))) ld (oJ 312 (vp_updL (fJ gld 0 (fun z => gld (z + 13)) a2) a2 (gld (a2 + 13))))) li = some (oJ 13 lam) := (congrFun heq9 li).symm.trans ((fx_up_n _ _ hne_1).trans h2_li)
              have h9_wa : (fx_up (fx_up f wa (oI 1152 (fI gwa 0 (fun z => gwa (z + 48)) a1))) ld (oJ 312 (vp_updL (fJ gld 0 (fun z => gld (z + 13)) a2) a2 (gld (a2 + 13))))) wa = some (oI 1152 (fI gwa 0 (fun z => gwa (z + 48)) a1)) := (congrFun heq9 wa).symm.trans ((fx_up_n _ _ (fx_ne h2_wa h2_ld rfl)).trans h2_wa)
              have h9_ld : (fx_up (fx_up f wa (oI 1152 (fI gwa 0 (fun z => gwa (z + 48)) a1))) ld (oJ 312 (vp_updL (fJ gld 0 (fun z => gld (z + 13)) a2) a2 (gld (a2 + 13))))) ld = some (oJ 312 (vp_updL (fJ gld 0 (fun z => gld (z + 13)) a2) a2 (gld (a2 + 13)))) := (congrFun heq9 ld).symm.trans (fx_up_s _ _ _)
              refine lv_iinc (v := nI (a2 + 1)) (lv' := [(1, .int (nI (a2 + 1))), (0, .ref mo)]) hx hb dX12_keep_63 hl (k := 1) rfl (nI_1 _) (by decide) rfl (fun ls hl => ?_)
              refine lv_goto (tgt := 41) hx hb dX12_keep_66 (by decide) ?_
              have hl : lv_has ls 2 [(0, .ref mo), (1, .int (nI (a2 + 1)))] := lv_sub hl [1, 0] rfl
              have hH : fx_H G base s (fx_up (fx_up f wa (oI 1152 (fI gwa 0 (fun z => gwa (z + 48)) a1))) ld (oJ 312 (fJ gld 0 (fun z => gld (z + 13)) (a2 + 1)))) sz H locs := (by rw [fJ, Nat.zero_add]; exact hH)
              exact ih_41 (a2 + 1) (by omega) (by omega) _ _ hH _ hl
        have hl : lv_has ls 2 [(0, .ref mo), (1, .int (nI 0))] := lv_sub hl [1, 0] rfl
        have hH : fx_H G base s (fx_up (fx_up f wa (oI 1152 (fI gwa 0 (fun z => gwa (z + 48)) a1))) ld (oJ 312 (fJ gld 0 (fun z => gld (z + 13)) 0))) sz H locs := (by rw [fx_up_id (show (fx_up f wa (oI 1152 (fI gwa 0 (fun z => gwa (z + 48)) a1))) ld = some (oJ 312 (fJ gld 0 (fun z => gld (z + 13)) 0)) from h1_ld)]; exact hH)
        exact loop_41 _ 0 (by omega) (Nat.lt_succ_self _) _ _ hH _ hl
      · refine lv_aload_n hx hb dX12_keep_18 rfl (lv_at hl 0 rfl) ?_
        refine fx_get C hH (k := 8) (v := .ref wa) h1_mo ff_X12_29_11 rfl dX12_keep_19 ?_
        refine lv_iload_n hx hb dX12_keep_22 rfl (lv_at hl 1 rfl) ?_
        refine lv_aload_n hx hb dX12_keep_23 rfl (lv_at hl 0 rfl) ?_
        refine fx_get C hH (k := 8) (v := .ref wa) h1_mo ff_X12_29_11 rfl dX12_keep_24 ?_
        refine lv_iload_n hx hb dX12_keep_27 rfl (lv_at hl 1 rfl) ?_
        refine lv_bipush (v := nI 48) hx hb dX12_keep_28 (by decide) ?_
        refine lv_iadd hx hb dX12_keep_30 ?_
        refine fx_ti (y := nI (a1 + 48)) (nI_add _ _) ?_
        refine fx_ialdN C hH h1_wa (by omega) (by omega) dX12_keep_31 ?_
        refine fx_ti (y := gwa (a1 + 48)) (by rw [fI_at, if_neg (by omega)]) ?_
        refine fx_iastN C hH h1_wa (by omega) (by omega) dX12_keep_32 (fun H locs hH => ?_)
        have hH : fx_H G base s (fx_up (fx_up f wa (oI 1152 (fI gwa 0 (fun z => gwa (z + 48)) a1))) wa (oI 1152 (upd (fI gwa 0 (fun z => gwa (z + 48)) a1) a1 (gwa (a1 + 48))))) sz H locs := hH
        rw [fx_up_up] at hH
        have hH : fx_H G base s (fx_up f wa (oI 1152 (upd (fI gwa 0 (fun z => gwa (z + 48)) a1) a1 (gwa (a1 + 48))))) sz H locs := hH
        have heq10 : fx_up (fx_up f wa (oI 1152 (fI gwa 0 (fun z => gwa (z + 48)) a1))) wa (oI 1152 (upd (fI gwa 0 (fun z => gwa (z + 48)) a1) a1 (gwa (a1 + 48)))) = fx_up f wa (oI 1152 (upd (fI gwa 0 (fun z => gwa (z + 48)) a1) a1 (gwa (a1 + 48)))) := by rw [fx_up_up]
        have h10_mo : (fx_up f wa (oI 1152 (upd (fI gwa 0 (fun z => gwa (z + 48)) a1) a1 (gwa (a1 + 48))))) mo = some (oO 11 [.int th, .int sa, .ref la, .ref ma, .ref it, .ref rl, .ref fr, .ref li, .ref wa, .ref ld, .int (nI ac), .ref tp, .int tn, .int cu, .int sr, .int tk, .int va, .int ft, .int fA, .int lt, .ref so, .ref ik, .ref kp, .ref kl, .ref tc, .int tt]) := (congrFun heq10 mo).symm.trans ((fx_up_n _ _ (fx_ne h1_mo h1_wa rfl)).trans h1_mo)
        have h10_rl : (fx_up f wa (oI 1152 (upd (fI gwa 0 (fun z => gwa (z + 48)) a1) a1 (gwa (a1 + 48))))) rl = some (oI 48 rho) := (congrFun heq10 rl).symm.trans ((fx_up_n _ _ hne_0).trans h1_rl)
        have h10_li : (fx_up f wa (oI 1152 (upd (fI gwa 0 (fun z => gwa (z + 48)) a1) a1 (gwa (a1 + 48))))) li = some (oJ 13 lam) := (congrFun heq10 li).symm.trans ((fx_up_n _ _ (fx_ne h1_li h1_wa rfl)).trans h1_li)
        have h10_ld : (fx_up f wa (oI 1152 (upd (fI gwa 0 (fun z => gwa (z + 48)) a1) a1 (gwa (a1 + 48))))) ld = some (oJ 312 gld) := (congrFun heq10 ld).symm.trans ((fx_up_n _ _ (fx_ne h1_ld h1_wa rfl)).trans h1_ld)
        have h10_wa : (fx_up f wa (oI 1152 (upd (fI gwa 0 (fun z => gwa (z + 48)) a1) a1 (gwa (a1 + 48))))) wa = some (oI 1152 (upd (fI gwa 0 (fun z => gwa (z + 48)) a1) a1 (gwa (a1 + 48)))) := (congrFun heq10 wa).symm.trans (fx_up_s _ _ _)
        refine lv_iinc (v := nI (a1 + 1)) (lv' := [(1, .int (nI (a1 + 1))), (0, .ref mo)]) hx hb dX12_keep_33 hl (k := 1) rfl (nI_1 _) (by decide) rfl (fun ls hl => ?_)
        refine lv_goto (tgt := 11) hx hb dX12_keep_36 (by decide) ?_
        have hl : lv_has ls 2 [(0, .ref mo), (1, .int (nI (a1 + 1)))] := lv_sub hl [1, 0] rfl
        have hH : fx_H G base s (fx_up f wa (oI 1152 (fI gwa 0 (fun z => gwa (z + 48)) (a1 + 1)))) sz H locs := (by rw [fI, Nat.zero_add]; exact hH)
        exact ih_11 (a1 + 1) (by omega) (by omega) _ _ hH _ hl
  have hl : lv_has ls 2 [(0, .ref mo), (1, .int (nI 0))] := lv_sub hl [1, 0] rfl
  have hH : fx_H G base s (fx_up f wa (oI 1152 (fI gwa 0 (fun z => gwa (z + 48)) 0))) sz H locs := (by rw [fx_up_id (show f wa = some (oI 1152 (fI gwa 0 (fun z => gwa (z + 48)) 0)) from h_wa)]; exact hH)
  exact loop_11 _ 0 (by omega) (Nat.lt_succ_self _) _ _ hH _ hl
abbrev rm_X12_meanOf : Room := { frames := 2, cells := 0, slots := 0, locals := 47 }
set_option maxHeartbeats 4000000 in
set_option maxRecDepth 100000 in
theorem c_X12_meanOf {G : GG} {base : Nat} {l : Launch} {f : Hp} {sz : Nat} {K : Nat} {wi : Nat} {ag : Nat} {P : Nat} {sp : Nat} {mo : Nat} {j : Nat} {fr : Nat} {wr : Int32} {n : Nat} {th : Int32} {sa : Int32} {la : Nat} {ma : Nat} {it : Nat} {rl : Nat} {li : Nat} {wa : Nat} {ld : Nat} {ac : Int32} {tp : Nat} {tn : Int32} {cu : Int32} {sr : Int32} {tk : Int32} {va : Int32} {ft : Int32} {fA : Int32} {lt : Int32} {so : Nat} {ik : Nat} {kp : Nat} {kl : Nat} {tc : Nat} {tt : Int32} {rho : Nat → Int32} {lam : Nat → Int64} (h_mo : f mo = some (oO 11 [.int th, .int sa, .ref la, .ref ma, .ref it, .ref rl, .ref fr, .ref li, .ref wa, .ref ld, .int ac, .ref tp, .int tn, .int cu, .int sr, .int tk, .int va, .int ft, .int fA, .int lt, .ref so, .ref ik, .ref kp, .ref kl, .ref tc, .int tt])) (h_rl : f rl = some (oI 48 rho)) (h_li : f li = some (oJ 13 lam)) (hj : j < 4) (hk0 : rho (36 + (3 * j) + 0) = nI K) (hk1 : rho (36 + (3 * j) + 1) = nI wi) (hk2 : rho (36 + (3 * j) + 2) = nI ag) (hK : 1 ≤ K ∧ K ≤ 5) (hwi : wi ≤ 10) (hag : ag ≤ 10) (hP : rho 0 = nI P) (hP2 : 1 ≤ P ∧ P ≤ 12) (hsp : rho 1 = nI sp) (hst : sp ≤ 9) (hfr : fr < P) (hwr : wr = nI 1 ∨ wr = -1) (hn : 1 ≤ n ∧ n ≤ 3) : fx_M G base l yX12_meanOf cX12_meanOf 20 (some .long) rm_X12_meanOf [.ref mo, .int (nI j), .int (nI fr), .int wr, .int (nI n)] f sz (some (.long (moA lam P sp (feN K wi ag wr) n fr wr P))) f sz := by
  refine fx_of (by decide +kernel) (Nat.le_of_ble_eq_true rfl) ?_
  intro p e s m args below meth c C hr hk hnm hH ls hl
  obtain ⟨locs, hlocs⟩ : ∃ L : List Loc, L = [] := ⟨_, rfl⟩
  rw [← hlocs] at hH ⊢
  generalize s.heap = H at hH ⊢
  have hx := C.1
  have hb := C.2.1
  have hl : lv_has ls 20 [(0, .ref mo), (1, .int (nI j)), (2, .int (nI fr)), (3, .int wr), (4, .int (nI n))] := hl
  have hfl : feN K wi ag wr ≤ 10 := feN_le hwi hag
  have b1 : sT sp (n * P - 1) < 2 ^ 31 := sT_lt hst (by have : n * P ≤ 3 * 12 := Nat.mul_le_mul (by omega) (by omega); omega)
  have b2 : 1 ≤ n * P := Nat.mul_pos (by omega) (by omega)
  have b3 : n * P ≤ 3 * 12 := Nat.mul_le_mul (by omega) (by omega)
  have b7 : 10 ^ n < 2 ^ 63 := p10_lt (by omega)
  refine lv_aload_n hx hb dX12_meanOf_0 rfl (lv_at hl 0 rfl) ?_
  refine fx_get C hH (k := 5) (v := .ref rl) h_mo ff_X12_19_11 rfl dX12_meanOf_1 ?_
  refine lv_iconst (v := nI 0) hx hb dX12_meanOf_4 (by decide) ?_
  refine fx_ialdN C hH h_rl (by omega) (by omega) dX12_meanOf_5 ?_
  refine fx_ti (y := nI P) hP ?_
  refine lv_istore (lv' := [(5, .int (nI P)), (0, .ref mo), (1, .int (nI j)), (2, .int (nI fr)), (3, .int wr), (4, .int (nI n))]) hx hb dX12_meanOf_6 hl (by decide) rfl (fun ls hl => ?_)
  refine lv_aload_n hx hb dX12_meanOf_8 rfl (lv_at hl 1 rfl) ?_
  refine lv_iload_n hx hb dX12_meanOf_9 rfl (lv_at hl 2 rfl) ?_
  refine lv_iload_n hx hb dX12_meanOf_10 rfl (lv_at hl 4 rfl) ?_
  refine fx_go1 hH (fx_runV C hH hl.1 (As := [.int (nI j), .int wr]) (rest := []) (c_X12_feel (G := G) (base := base) (l := l) (f := f) (sz := sz) (K := K) (wi := wi) (ag := ag) (mo := mo) (j := j) (wy := wr) (th := th) (sa := sa) (la := la) (ma := ma) (it := it) (rl := rl) (fr := fr) (li := li) (wa := wa) (ld := ld) (ac := ac) (tp := tp) (tn := tn) (cu := cu) (sr := sr) (tk := tk) (va := va) (ft := ft) (fA := fA) (lt := lt) (so := so) (ik := ik) (kp := kp) (kl := kl) (tc := tc) (tt := tt) (rho := rho) h_mo h_rl (by omega) hk0 hk1 hk2 (by omega) (by omega) (by omega)) mY_X12_feel ml_X12_162 im_X12_feel se_X12_X12_feel h_mo rfl rfl ⟨(Nat.le_of_ble_eq_true rfl), (Nat.le_of_ble_eq_true rfl)⟩ rfl (Nat.le_of_ble_eq_true rfl) ⟨(Nat.le_of_ble_eq_true rfl), (Nat.le_of_ble_eq_true rfl)⟩ dX12_meanOf_11) (fun H locs hH => ?_)
  refine lv_istore (lv' := [(6, .int (nI (feN K wi ag wr))), (5, .int (nI P)), (0, .ref mo), (1, .int (nI j)), (2, .int (nI fr)), (3, .int wr), (4, .int (nI n))]) hx hb dX12_meanOf_14 hl (by decide) rfl (fun ls hl => ?_)
  refine lv_lconst (v := lN 1) hx hb dX12_meanOf_16 (by decide) ?_
  refine lv_iload hx hb dX12_meanOf_17 (lv_at hl 6 rfl) ?_
  refine lv_iload hx hb dX12_meanOf_19 (lv_at hl 1 rfl) ?_
  refine lv_imul hx hb dX12_meanOf_21 ?_
  refine fx_ti (y := nI (n * P)) (pk_mul _ _) ?_
  refine lv_iconst (v := nI 1) hx hb dX12_meanOf_22 (by decide) ?_
  refine lv_isub hx hb dX12_meanOf_23 ?_
  refine fx_ti (y := nI ((n * P) - 1)) (pk_sub (by omega)) ?_
  refine lv_i2l (v := lN ((n * P) - 1)) hx hb dX12_meanOf_24 (nI_l (by omega)) ?_
  refine lv_aload_n hx hb dX12_meanOf_25 rfl (lv_at hl 2 rfl) ?_
  refine fx_get C hH (k := 5) (v := .ref rl) h_mo ff_X12_19_11 rfl dX12_meanOf_26 ?_
  refine lv_iconst (v := nI 1) hx hb dX12_meanOf_29 (by decide) ?_
  refine fx_ialdN C hH h_rl (by omega) (by omega) dX12_meanOf_30 ?_
  refine fx_ti (y := nI sp) hsp ?_
  refine lv_iconst (v := nI 1) hx hb dX12_meanOf_31 (by decide) ?_
  refine lv_iadd hx hb dX12_meanOf_32 ?_
  refine fx_ti (y := nI (sp + 1)) (nI_add _ _) ?_
  refine lv_i2l (v := lN (sp + 1)) hx hb dX12_meanOf_33 (nI_l (by omega)) ?_
  refine lv_lmul hx hb dX12_meanOf_34 ?_
  refine fx_tl (y := lN (((n * P) - 1) * (sp + 1))) (lN_mul _ _) ?_
  refine lv_ladd hx hb dX12_meanOf_35 ?_
  refine fx_tl (y := lN (1 + (((n * P) - 1) * (sp + 1)))) (lN_add _ _) ?_
  refine lv_lstore (lv' := [(7, .long (lN (1 + (((n * P) - 1) * (sp + 1))))), (6, .int (nI (feN K wi ag wr))), (5, .int (nI P)), (0, .ref mo), (1, .int (nI j)), (2, .int (nI fr)), (3, .int wr), (4, .int (nI n))]) hx hb dX12_meanOf_36 hl (by decide) rfl (fun ls hl => ?_)
  refine lv_aload_n hx hb dX12_meanOf_38 rfl (lv_at hl 3 rfl) ?_
  refine fx_get C hH (k := 7) (v := .ref li) h_mo ff_X12_25_11 rfl dX12_meanOf_39 ?_
  refine lv_iload hx hb dX12_meanOf_42 (lv_at hl 2 rfl) ?_
  refine fx_laldN C hH h_li (by omega) (by omega) dX12_meanOf_44 ?_
  refine lv_lload hx hb dX12_meanOf_45 (lv_at hl 0 rfl) ?_
  refine lv_lmul hx hb dX12_meanOf_47 ?_
  refine lv_iload hx hb dX12_meanOf_48 (lv_at hl 7 rfl) ?_
  refine fx_go1 hH (fx_runS C hH hl.1 (As := [.int (nI n)]) (rest := [.long ((lam P) * (lN (1 + (((n * P) - 1) * (sp + 1)))))]) (c_X12_tens (G := G) (base := base) (l := l) (f := f) (sz := sz) (n := n) (by omega)) mY_X12_tens ml_X12_213 st_X12_tens rfl ⟨(Nat.le_of_ble_eq_true rfl), (Nat.le_of_ble_eq_true rfl)⟩ rfl (Nat.le_of_ble_eq_true rfl) ⟨(Nat.le_of_ble_eq_true rfl), (Nat.le_of_ble_eq_true rfl)⟩ dX12_meanOf_50) (fun H locs hH => ?_)
  refine lv_lmul hx hb dX12_meanOf_53 ?_
  refine lv_lstore (lv' := [(9, .long (((lam P) * (lN (1 + (((n * P) - 1) * (sp + 1))))) * (lN (10 ^ n)))), (7, .long (lN (1 + (((n * P) - 1) * (sp + 1))))), (6, .int (nI (feN K wi ag wr))), (5, .int (nI P)), (0, .ref mo), (1, .int (nI j)), (2, .int (nI fr)), (3, .int wr), (4, .int (nI n))]) hx hb dX12_meanOf_54 hl (by decide) rfl (fun ls hl => ?_)
  refine lv_iconst (v := nI 0) hx hb dX12_meanOf_56 (by decide) ?_
  refine lv_istore (lv' := [(11, .int (nI 0)), (9, .long (((lam P) * (lN (1 + (((n * P) - 1) * (sp + 1))))) * (lN (10 ^ n)))), (7, .long (lN (1 + (((n * P) - 1) * (sp + 1))))), (6, .int (nI (feN K wi ag wr))), (5, .int (nI P)), (0, .ref mo), (1, .int (nI j)), (2, .int (nI fr)), (3, .int wr), (4, .int (nI n))]) hx hb dX12_meanOf_57 hl (by decide) rfl (fun ls hl => ?_)
  have loop_59 : ∀ (N_59 : Nat) (i : Nat) (hi : i ≤ P) (hm_59 : P - i < N_59) (H : Heap) (locs : List Loc) (hH : fx_H G base s f sz H locs) (ls : Array Slot) (hl : lv_has ls 20 [(0, .ref mo), (1, .int (nI j)), (2, .int (nI fr)), (3, .int wr), (4, .int (nI n)), (5, .int (nI P)), (6, .int (nI (feN K wi ag wr))), (7, .long (lN (sT sp (n * P - 1)))), (9, .long (moA lam P sp (feN K wi ag wr) n fr wr i)), (11, .int (nI i))]), W p l e rm_X12_meanOf s m args below meth c H locs 0 0 (MQ below (fx_Q G base (some (.long (moA lam P sp (feN K wi ag wr) n fr wr P))) f sz) args s rm_X12_meanOf.cells rm_X12_meanOf.slots (fun q => base ≤ q)) (F0 m 59 ls []) := by
    intro N_59
    induction N_59 with
    | zero => intro i hi hm_59; exact absurd hm_59 (Nat.not_lt_zero _)
    | succ N_59 ih_59 =>
      intro i hi hm_59 H locs hH ls hl
      have b6 : frN P fr wr i < P := frN_lt (by omega)
      refine lv_iload hx hb dX12_meanOf_59 (lv_at hl 9 rfl) ?_
      refine lv_iload hx hb dX12_meanOf_61 (lv_at hl 5 rfl) ?_
      refine fx_N_ge (a := i) (b := P) hx hb (by omega) (by omega) (tgt := 197) dX12_meanOf_63 (by decide) (fun c63 => ?_) (fun c63 => ?_)
      · refine lv_lload hx hb dX12_meanOf_197 (lv_at hl 8 rfl) ?_
        exact fx_lret C hr hk hH (by rw [show i = P from by omega]) rfl rfl (Nat.zero_le _) (Nat.zero_le _) dX12_meanOf_199
      · refine lv_aload_n hx hb dX12_meanOf_66 rfl (lv_at hl 0 rfl) ?_
        refine lv_iload_n hx hb dX12_meanOf_67 rfl (lv_at hl 3 rfl) ?_
        refine lv_iconst (v := nI 1) hx hb dX12_meanOf_68 (by decide) ?_
        refine lv_icmp_ne hx hb (tgt := 79) dX12_meanOf_69 (by decide) (fun c69 => ?_) (fun c69 => ?_)
        · refine lv_iload_n hx hb dX12_meanOf_79 rfl (lv_at hl 2 rfl) ?_
          refine lv_iload hx hb dX12_meanOf_80 (lv_at hl 9 rfl) ?_
          refine lv_isub hx hb dX12_meanOf_82 ?_
          refine fx_go1 hH (fx_runV C hH hl.1 (As := [.int ((nI fr) - (nI i))]) (rest := []) (c_X12_around (G := G) (base := base) (l := l) (f := f) (sz := sz) (P := P) (mo := mo) (pp := (nI fr) - (nI i)) (th := th) (sa := sa) (la := la) (ma := ma) (it := it) (rl := rl) (fr := fr) (li := li) (wa := wa) (ld := ld) (ac := ac) (tp := tp) (tn := tn) (cu := cu) (sr := sr) (tk := tk) (va := va) (ft := ft) (fA := fA) (lt := lt) (so := so) (ik := ik) (kp := kp) (kl := kl) (tc := tc) (tt := tt) (rho := rho) h_mo h_rl hP (by omega)) mY_X12_around ml_X12_181 im_X12_around se_X12_X12_around h_mo rfl rfl ⟨(Nat.le_of_ble_eq_true rfl), (Nat.le_of_ble_eq_true rfl)⟩ rfl (Nat.le_of_ble_eq_true rfl) ⟨(Nat.le_of_ble_eq_true rfl), (Nat.le_of_ble_eq_true rfl)⟩ dX12_meanOf_83) (fun H locs hH => ?_)
          refine fx_ti (y := nI (frN P fr wr i)) (by rw [frN, if_neg c69]; exact frN_t P (by omega) i (by omega) fr hfr) ?_
          refine lv_istore (lv' := [(12, .int (nI (frN P fr wr i))), (0, .ref mo), (1, .int (nI j)), (2, .int (nI fr)), (3, .int wr), (4, .int (nI n)), (5, .int (nI P)), (6, .int (nI (feN K wi ag wr))), (7, .long (lN (sT sp (n * P - 1)))), (9, .long (moA lam P sp (feN K wi ag wr) n fr wr i)), (11, .int (nI i))]) hx hb dX12_meanOf_86 hl (by decide) rfl (fun ls hl => ?_)
          refine lv_iload hx hb dX12_meanOf_88 (lv_at hl 5 rfl) ?_
          refine fx_go1 hH (fx_runS C hH hl.1 (As := [.int (nI n)]) (rest := []) (c_X12_tens (G := G) (base := base) (l := l) (f := f) (sz := sz) (n := n) (by omega)) mY_X12_tens ml_X12_213 st_X12_tens rfl ⟨(Nat.le_of_ble_eq_true rfl), (Nat.le_of_ble_eq_true rfl)⟩ rfl (Nat.le_of_ble_eq_true rfl) ⟨(Nat.le_of_ble_eq_true rfl), (Nat.le_of_ble_eq_true rfl)⟩ dX12_meanOf_90) (fun H locs hH => ?_)
          refine lv_lstore (lv' := [(13, .long (lN (10 ^ n))), (12, .int (nI (frN P fr wr i))), (0, .ref mo), (1, .int (nI j)), (2, .int (nI fr)), (3, .int wr), (4, .int (nI n)), (5, .int (nI P)), (6, .int (nI (feN K wi ag wr))), (7, .long (lN (sT sp (n * P - 1)))), (9, .long (moA lam P sp (feN K wi ag wr) n fr wr i)), (11, .int (nI i))]) hx hb dX12_meanOf_93 hl (by decide) rfl (fun ls hl => ?_)
          refine lv_lconst (v := lN 0) hx hb dX12_meanOf_95 (by decide) ?_
          refine lv_lstore (lv' := [(15, .long (lN 0)), (13, .long (lN (10 ^ n))), (12, .int (nI (frN P fr wr i))), (0, .ref mo), (1, .int (nI j)), (2, .int (nI fr)), (3, .int wr), (4, .int (nI n)), (5, .int (nI P)), (6, .int (nI (feN K wi ag wr))), (7, .long (lN (sT sp (n * P - 1)))), (9, .long (moA lam P sp (feN K wi ag wr) n fr wr i)), (11, .int (nI i))]) hx hb dX12_meanOf_96 hl (by decide) rfl (fun ls hl => ?_)
          refine lv_iconst (v := nI 0) hx hb dX12_meanOf_98 (by decide) ?_
          refine lv_istore (lv' := [(17, .int (nI 0)), (15, .long (lN 0)), (13, .long (lN (10 ^ n))), (12, .int (nI (frN P fr wr i))), (0, .ref mo), (1, .int (nI j)), (2, .int (nI fr)), (3, .int wr), (4, .int (nI n)), (5, .int (nI P)), (6, .int (nI (feN K wi ag wr))), (7, .long (lN (sT sp (n * P - 1)))), (9, .long (moA lam P sp (feN K wi ag wr) n fr wr i)), (11, .int (nI i))]) hx hb dX12_meanOf_99 hl (by decide) rfl (fun ls hl => ?_)
          have loop_101 : ∀ (N_101 : Nat) (r_ : Nat) (hr0 : r_ ≤ n) (hm_101 : n - r_ < N_101) (H : Heap) (locs : List Loc) (hH : fx_H G base s f sz H locs) (ls : Array Slot) (hl : lv_has ls 20 [(0, .ref mo), (1, .int (nI j)), (2, .int (nI fr)), (3, .int wr), (4, .int (nI n)), (5, .int (nI P)), (6, .int (nI (feN K wi ag wr))), (7, .long (lN (sT sp (n * P - 1)))), (9, .long (moA lam P sp (feN K wi ag wr) n fr wr i)), (11, .int (nI i)), (12, .int (nI (frN P fr wr i))), (13, .long (lN ((mR P sp (frN P fr wr i) (feN K wi ag wr) n r_).1))), (15, .long (lN ((mR P sp (frN P fr wr i) (feN K wi ag wr) n r_).2))), (17, .int (nI r_))]), W p l e rm_X12_meanOf s m args below meth c H locs 0 0 (MQ below (fx_Q G base (some (.long (moA lam P sp (feN K wi ag wr) n fr wr P))) f sz) args s rm_X12_meanOf.cells rm_X12_meanOf.slots (fun q => base ≤ q)) (F0 m 101 ls []) := by
            intro N_101
            induction N_101 with
            | zero => intro r_ hr0 hm_101; exact absurd hm_101 (Nat.not_lt_zero _)
            | succ N_101 ih_101 =>
              intro r_ hr0 hm_101 H locs hH ls hl
              have b4 : r_ * P ≤ 3 * 12 := Nat.mul_le_mul (by omega) (by omega)
              refine lv_iload hx hb dX12_meanOf_101 (lv_at hl 13 rfl) ?_
              refine lv_iload hx hb dX12_meanOf_103 (lv_at hl 4 rfl) ?_
              refine fx_N_ge (a := r_) (b := n) hx hb (by omega) (by omega) (tgt := 170) dX12_meanOf_105 (by decide) (fun c105 => ?_) (fun c105 => ?_)
              · refine lv_lload hx hb dX12_meanOf_170 (lv_at hl 8 rfl) ?_
                refine lv_aload_n hx hb dX12_meanOf_172 rfl (lv_at hl 0 rfl) ?_
                refine fx_get C hH (k := 7) (v := .ref li) h_mo ff_X12_25_11 rfl dX12_meanOf_173 ?_
                refine lv_iload hx hb dX12_meanOf_176 (lv_at hl 9 rfl) ?_
                refine fx_laldN C hH h_li (by omega) (by omega) dX12_meanOf_178 ?_
                refine lv_lload hx hb dX12_meanOf_179 (lv_at hl 12 rfl) ?_
                refine lv_lload hx hb dX12_meanOf_181 (lv_at hl 11 rfl) ?_
                refine lv_lload hx hb dX12_meanOf_183 (lv_at hl 7 rfl) ?_
                refine lv_lmul hx hb dX12_meanOf_185 ?_
                refine fx_tl (y := lN (((mR P sp (frN P fr wr i) (feN K wi ag wr) n r_).1) * (sT sp (n * P - 1)))) (lN_mul _ _) ?_
                refine lv_ladd hx hb dX12_meanOf_186 ?_
                refine fx_tl (y := lN ((mR P sp (frN P fr wr i) (feN K wi ag wr) n r_).2 + (((mR P sp (frN P fr wr i) (feN K wi ag wr) n r_).1) * (sT sp (n * P - 1))))) (lN_add _ _) ?_
                refine lv_lmul hx hb dX12_meanOf_187 ?_
                refine lv_ladd hx hb dX12_meanOf_188 ?_
                refine lv_lstore (lv' := [(9, .long ((moA lam P sp (feN K wi ag wr) n fr wr i) + ((lam i) * (lN ((mR P sp (frN P fr wr i) (feN K wi ag wr) n r_).2 + (((mR P sp (frN P fr wr i) (feN K wi ag wr) n r_).1) * (sT sp (n * P - 1)))))))), (0, .ref mo), (1, .int (nI j)), (2, .int (nI fr)), (3, .int wr), (4, .int (nI n)), (5, .int (nI P)), (6, .int (nI (feN K wi ag wr))), (7, .long (lN (sT sp (n * P - 1)))), (11, .int (nI i)), (12, .int (nI (frN P fr wr i))), (13, .long (lN ((mR P sp (frN P fr wr i) (feN K wi ag wr) n r_).1))), (15, .long (lN ((mR P sp (frN P fr wr i) (feN K wi ag wr) n r_).2))), (17, .int (nI r_))]) hx hb dX12_meanOf_189 hl (by decide) rfl (fun ls hl => ?_)
                refine lv_iinc (v := nI (i + 1)) (lv' := [(11, .int (nI (i + 1))), (9, .long ((moA lam P sp (feN K wi ag wr) n fr wr i) + ((lam i) * (lN ((mR P sp (frN P fr wr i) (feN K wi ag wr) n r_).2 + (((mR P sp (frN P fr wr i) (feN K wi ag wr) n r_).1) * (sT sp (n * P - 1)))))))), (0, .ref mo), (1, .int (nI j)), (2, .int (nI fr)), (3, .int wr), (4, .int (nI n)), (5, .int (nI P)), (6, .int (nI (feN K wi ag wr))), (7, .long (lN (sT sp (n * P - 1)))), (12, .int (nI (frN P fr wr i))), (13, .long (lN ((mR P sp (frN P fr wr i) (feN K wi ag wr) n r_).1))), (15, .long (lN ((mR P sp (frN P fr wr i) (feN K wi ag wr) n r_).2))), (17, .int (nI r_))]) hx hb dX12_meanOf_191 hl (k := 9) rfl (nI_1 _) (by decide) rfl (fun ls hl => ?_)
                refine lv_goto (tgt := 59) hx hb dX12_meanOf_194 (by decide) ?_
                have hl : lv_has ls 20 [(0, .ref mo), (1, .int (nI j)), (2, .int (nI fr)), (3, .int wr), (4, .int (nI n)), (5, .int (nI P)), (6, .int (nI (feN K wi ag wr))), (7, .long (lN (sT sp (n * P - 1)))), (9, .long ((moA lam P sp (feN K wi ag wr) n fr wr i) + ((lam i) * (lN ((mR P sp (frN P fr wr i) (feN K wi ag wr) n r_).2 + (((mR P sp (frN P fr wr i) (feN K wi ag wr) n r_).1) * (sT sp (n * P - 1)))))))), (11, .int (nI (i + 1)))] := lv_sub hl [2, 3, 4, 5, 6, 7, 8, 9, 1, 0] rfl
                have hl : lv_has ls 20 [(0, .ref mo), (1, .int (nI j)), (2, .int (nI fr)), (3, .int wr), (4, .int (nI n)), (5, .int (nI P)), (6, .int (nI (feN K wi ag wr))), (7, .long (lN (sT sp (n * P - 1)))), (9, .long (moA lam P sp (feN K wi ag wr) n fr wr (i + 1))), (11, .int (nI (i + 1)))] := by
                  have hrn : r_ = n := by omega
                  subst hrn
                  exact hl
                exact ih_59 (i + 1) (by omega) (by omega) _ _ hH _ hl
              · refine lv_lconst (v := lN 1) hx hb dX12_meanOf_108 (by decide) ?_
                refine lv_iload hx hb dX12_meanOf_109 (lv_at hl 10 rfl) ?_
                refine lv_iload hx hb dX12_meanOf_111 (lv_at hl 13 rfl) ?_
                refine lv_iload hx hb dX12_meanOf_113 (lv_at hl 5 rfl) ?_
                refine lv_imul hx hb dX12_meanOf_115 ?_
                refine fx_ti (y := nI (r_ * P)) (pk_mul _ _) ?_
                refine lv_iadd hx hb dX12_meanOf_116 ?_
                refine fx_ti (y := nI (frN P fr wr i + (r_ * P))) (nI_add _ _) ?_
                refine lv_i2l (v := lN (frN P fr wr i + (r_ * P))) hx hb dX12_meanOf_117 (nI_l (by omega)) ?_
                refine lv_aload_n hx hb dX12_meanOf_118 rfl (lv_at hl 0 rfl) ?_
                refine fx_get C hH (k := 5) (v := .ref rl) h_mo ff_X12_19_11 rfl dX12_meanOf_119 ?_
                refine lv_iconst (v := nI 1) hx hb dX12_meanOf_122 (by decide) ?_
                refine fx_ialdN C hH h_rl (by omega) (by omega) dX12_meanOf_123 ?_
                refine fx_ti (y := nI sp) hsp ?_
                refine lv_iconst (v := nI 1) hx hb dX12_meanOf_124 (by decide) ?_
                refine lv_iadd hx hb dX12_meanOf_125 ?_
                refine fx_ti (y := nI (sp + 1)) (nI_add _ _) ?_
                refine lv_i2l (v := lN (sp + 1)) hx hb dX12_meanOf_126 (nI_l (by omega)) ?_
                refine lv_lmul hx hb dX12_meanOf_127 ?_
                refine fx_tl (y := lN ((frN P fr wr i + (r_ * P)) * (sp + 1))) (lN_mul _ _) ?_
                refine lv_ladd hx hb dX12_meanOf_128 ?_
                refine fx_tl (y := lN (1 + ((frN P fr wr i + (r_ * P)) * (sp + 1)))) (lN_add _ _) ?_
                refine lv_lstore (lv' := [(18, .long (lN (1 + ((frN P fr wr i + (r_ * P)) * (sp + 1))))), (0, .ref mo), (1, .int (nI j)), (2, .int (nI fr)), (3, .int wr), (4, .int (nI n)), (5, .int (nI P)), (6, .int (nI (feN K wi ag wr))), (7, .long (lN (sT sp (n * P - 1)))), (9, .long (moA lam P sp (feN K wi ag wr) n fr wr i)), (11, .int (nI i)), (12, .int (nI (frN P fr wr i))), (13, .long (lN ((mR P sp (frN P fr wr i) (feN K wi ag wr) n r_).1))), (15, .long (lN ((mR P sp (frN P fr wr i) (feN K wi ag wr) n r_).2))), (17, .int (nI r_))]) hx hb dX12_meanOf_129 hl (by decide) rfl (fun ls hl => ?_)
                refine lv_lload hx hb dX12_meanOf_131 (lv_at hl 13 rfl) ?_
                refine lv_lload hx hb dX12_meanOf_133 (lv_at hl 12 rfl) ?_
                refine lv_ldc2 (v := (10)) hx hb C.2.2.2.1 (C.2.2.2.2.1 _ kL_X12_203 rfl args) dX12_meanOf_135 ?_
                refine fx_tl (y := lN 10) (by decide) ?_
                refine lv_ldiv hx hb dX12_meanOf_138 (fun q => absurd ((pk_lEQ (b := 0) (by omega) (by omega)).mp q) (by omega)) ?_
                refine fx_tl (y := lN (((mR P sp (frN P fr wr i) (feN K wi ag wr) n r_).1) / 10)) (pk_lDiv (by have := mR_le P sp (frN P fr wr i) (feN K wi ag wr) n hfl r_; omega) (by omega) (by omega)) ?_
                refine lv_iload hx hb dX12_meanOf_139 (lv_at hl 7 rfl) ?_
                refine lv_i2l (v := lN (feN K wi ag wr)) hx hb dX12_meanOf_141 (nI_l (by omega)) ?_
                refine lv_lmul hx hb dX12_meanOf_142 ?_
                refine fx_tl (y := lN ((((mR P sp (frN P fr wr i) (feN K wi ag wr) n r_).1) / 10) * (feN K wi ag wr))) (lN_mul _ _) ?_
                refine lv_lload hx hb dX12_meanOf_143 (lv_at hl 0 rfl) ?_
                refine lv_lmul hx hb dX12_meanOf_145 ?_
                refine fx_tl (y := lN (((((mR P sp (frN P fr wr i) (feN K wi ag wr) n r_).1) / 10) * (feN K wi ag wr)) * (1 + ((frN P fr wr i + (r_ * P)) * (sp + 1))))) (lN_mul _ _) ?_
                refine lv_ladd hx hb dX12_meanOf_146 ?_
                refine fx_tl (y := lN ((mR P sp (frN P fr wr i) (feN K wi ag wr) n r_).2 + (((((mR P sp (frN P fr wr i) (feN K wi ag wr) n r_).1) / 10) * (feN K wi ag wr)) * (1 + ((frN P fr wr i + (r_ * P)) * (sp + 1)))))) (lN_add _ _) ?_
                refine lv_lstore (lv' := [(15, .long (lN ((mR P sp (frN P fr wr i) (feN K wi ag wr) n r_).2 + (((((mR P sp (frN P fr wr i) (feN K wi ag wr) n r_).1) / 10) * (feN K wi ag wr)) * (1 + ((frN P fr wr i + (r_ * P)) * (sp + 1))))))), (18, .long (lN (1 + ((frN P fr wr i + (r_ * P)) * (sp + 1))))), (0, .ref mo), (1, .int (nI j)), (2, .int (nI fr)), (3, .int wr), (4, .int (nI n)), (5, .int (nI P)), (6, .int (nI (feN K wi ag wr))), (7, .long (lN (sT sp (n * P - 1)))), (9, .long (moA lam P sp (feN K wi ag wr) n fr wr i)), (11, .int (nI i)), (12, .int (nI (frN P fr wr i))), (13, .long (lN ((mR P sp (frN P fr wr i) (feN K wi ag wr) n r_).1))), (17, .int (nI r_))]) hx hb dX12_meanOf_147 hl (by decide) rfl (fun ls hl => ?_)
                refine lv_lload hx hb dX12_meanOf_149 (lv_at hl 13 rfl) ?_
                refine lv_ldc2 (v := (10)) hx hb C.2.2.2.1 (C.2.2.2.2.1 _ kL_X12_203 rfl args) dX12_meanOf_151 ?_
                refine fx_tl (y := lN 10) (by decide) ?_
                refine lv_ldiv hx hb dX12_meanOf_154 (fun q => absurd ((pk_lEQ (b := 0) (by omega) (by omega)).mp q) (by omega)) ?_
                refine fx_tl (y := lN (((mR P sp (frN P fr wr i) (feN K wi ag wr) n r_).1) / 10)) (pk_lDiv (by have := mR_le P sp (frN P fr wr i) (feN K wi ag wr) n hfl r_; omega) (by omega) (by omega)) ?_
                refine lv_bipush (v := nI 10) hx hb dX12_meanOf_155 (by decide) ?_
                refine lv_iload hx hb dX12_meanOf_157 (lv_at hl 8 rfl) ?_
                refine lv_isub hx hb dX12_meanOf_159 ?_
                refine fx_ti (y := nI (10 - (feN K wi ag wr))) (pk_sub (by omega)) ?_
                refine lv_i2l (v := lN (10 - (feN K wi ag wr))) hx hb dX12_meanOf_160 (nI_l (by omega)) ?_
                refine lv_lmul hx hb dX12_meanOf_161 ?_
                refine fx_tl (y := lN ((((mR P sp (frN P fr wr i) (feN K wi ag wr) n r_).1) / 10) * (10 - (feN K wi ag wr)))) (lN_mul _ _) ?_
                refine lv_lstore (lv' := [(13, .long (lN ((((mR P sp (frN P fr wr i) (feN K wi ag wr) n r_).1) / 10) * (10 - (feN K wi ag wr))))), (15, .long (lN ((mR P sp (frN P fr wr i) (feN K wi ag wr) n r_).2 + (((((mR P sp (frN P fr wr i) (feN K wi ag wr) n r_).1) / 10) * (feN K wi ag wr)) * (1 + ((frN P fr wr i + (r_ * P)) * (sp + 1))))))), (18, .long (lN (1 + ((frN P fr wr i + (r_ * P)) * (sp + 1))))), (0, .ref mo), (1, .int (nI j)), (2, .int (nI fr)), (3, .int wr), (4, .int (nI n)), (5, .int (nI P)), (6, .int (nI (feN K wi ag wr))), (7, .long (lN (sT sp (n * P - 1)))), (9, .long (moA lam P sp (feN K wi ag wr) n fr wr i)), (11, .int (nI i)), (12, .int (nI (frN P fr wr i))), (17, .int (nI r_))]) hx hb dX12_meanOf_162 hl (by decide) rfl (fun ls hl => ?_)
                refine lv_iinc (v := nI (r_ + 1)) (lv' := [(17, .int (nI (r_ + 1))), (13, .long (lN ((((mR P sp (frN P fr wr i) (feN K wi ag wr) n r_).1) / 10) * (10 - (feN K wi ag wr))))), (15, .long (lN ((mR P sp (frN P fr wr i) (feN K wi ag wr) n r_).2 + (((((mR P sp (frN P fr wr i) (feN K wi ag wr) n r_).1) / 10) * (feN K wi ag wr)) * (1 + ((frN P fr wr i + (r_ * P)) * (sp + 1))))))), (18, .long (lN (1 + ((frN P fr wr i + (r_ * P)) * (sp + 1))))), (0, .ref mo), (1, .int (nI j)), (2, .int (nI fr)), (3, .int wr), (4, .int (nI n)), (5, .int (nI P)), (6, .int (nI (feN K wi ag wr))), (7, .long (lN (sT sp (n * P - 1)))), (9, .long (moA lam P sp (feN K wi ag wr) n fr wr i)), (11, .int (nI i)), (12, .int (nI (frN P fr wr i)))]) hx hb dX12_meanOf_164 hl (k := 14) rfl (nI_1 _) (by decide) rfl (fun ls hl => ?_)
                refine lv_goto (tgt := 101) hx hb dX12_meanOf_167 (by decide) ?_
                have hl : lv_has ls 20 [(0, .ref mo), (1, .int (nI j)), (2, .int (nI fr)), (3, .int wr), (4, .int (nI n)), (5, .int (nI P)), (6, .int (nI (feN K wi ag wr))), (7, .long (lN (sT sp (n * P - 1)))), (9, .long (moA lam P sp (feN K wi ag wr) n fr wr i)), (11, .int (nI i)), (12, .int (nI (frN P fr wr i))), (13, .long (lN ((((mR P sp (frN P fr wr i) (feN K wi ag wr) n r_).1) / 10) * (10 - (feN K wi ag wr))))), (15, .long (lN ((mR P sp (frN P fr wr i) (feN K wi ag wr) n r_).2 + (((((mR P sp (frN P fr wr i) (feN K wi ag wr) n r_).1) / 10) * (feN K wi ag wr)) * (1 + ((frN P fr wr i + (r_ * P)) * (sp + 1))))))), (17, .int (nI (r_ + 1)))] := lv_sub hl [4, 5, 6, 7, 8, 9, 10, 11, 12, 13, 14, 1, 2, 0] rfl
                have hl : lv_has ls 20 [(0, .ref mo), (1, .int (nI j)), (2, .int (nI fr)), (3, .int wr), (4, .int (nI n)), (5, .int (nI P)), (6, .int (nI (feN K wi ag wr))), (7, .long (lN (sT sp (n * P - 1)))), (9, .long (moA lam P sp (feN K wi ag wr) n fr wr i)), (11, .int (nI i)), (12, .int (nI (frN P fr wr i))), (13, .long (lN ((mR P sp (frN P fr wr i) (feN K wi ag wr) n (r_ + 1)).1))), (15, .long (lN ((mR P sp (frN P fr wr i) (feN K wi ag wr) n (r_ + 1)).2))), (17, .int (nI (r_ + 1)))] := hl
                exact ih_101 (r_ + 1) (by omega) (by omega) _ _ hH _ hl
          have hl : lv_has ls 20 [(0, .ref mo), (1, .int (nI j)), (2, .int (nI fr)), (3, .int wr), (4, .int (nI n)), (5, .int (nI P)), (6, .int (nI (feN K wi ag wr))), (7, .long (lN (sT sp (n * P - 1)))), (9, .long (moA lam P sp (feN K wi ag wr) n fr wr i)), (11, .int (nI i)), (12, .int (nI (frN P fr wr i))), (13, .long (lN (10 ^ n))), (15, .long (lN 0)), (17, .int (nI 0))] := lv_sub hl [4, 5, 6, 7, 8, 9, 10, 11, 12, 13, 3, 2, 1, 0] rfl
          have hl : lv_has ls 20 [(0, .ref mo), (1, .int (nI j)), (2, .int (nI fr)), (3, .int wr), (4, .int (nI n)), (5, .int (nI P)), (6, .int (nI (feN K wi ag wr))), (7, .long (lN (sT sp (n * P - 1)))), (9, .long (moA lam P sp (feN K wi ag wr) n fr wr i)), (11, .int (nI i)), (12, .int (nI (frN P fr wr i))), (13, .long (lN ((mR P sp (frN P fr wr i) (feN K wi ag wr) n 0).1))), (15, .long (lN ((mR P sp (frN P fr wr i) (feN K wi ag wr) n 0).2))), (17, .int (nI 0))] := hl
          exact loop_101 _ 0 (by omega) (Nat.lt_succ_self _) _ _ hH _ hl
        · refine lv_iload hx hb dX12_meanOf_72 (lv_at hl 9 rfl) ?_
          refine lv_iload_n hx hb dX12_meanOf_74 rfl (lv_at hl 2 rfl) ?_
          refine lv_isub hx hb dX12_meanOf_75 ?_
          refine lv_goto (tgt := 83) hx hb dX12_meanOf_76 (by decide) ?_
          refine fx_go1 hH (fx_runV C hH hl.1 (As := [.int ((nI i) - (nI fr))]) (rest := []) (c_X12_around (G := G) (base := base) (l := l) (f := f) (sz := sz) (P := P) (mo := mo) (pp := (nI i) - (nI fr)) (th := th) (sa := sa) (la := la) (ma := ma) (it := it) (rl := rl) (fr := fr) (li := li) (wa := wa) (ld := ld) (ac := ac) (tp := tp) (tn := tn) (cu := cu) (sr := sr) (tk := tk) (va := va) (ft := ft) (fA := fA) (lt := lt) (so := so) (ik := ik) (kp := kp) (kl := kl) (tc := tc) (tt := tt) (rho := rho) h_mo h_rl hP (by omega)) mY_X12_around ml_X12_181 im_X12_around se_X12_X12_around h_mo rfl rfl ⟨(Nat.le_of_ble_eq_true rfl), (Nat.le_of_ble_eq_true rfl)⟩ rfl (Nat.le_of_ble_eq_true rfl) ⟨(Nat.le_of_ble_eq_true rfl), (Nat.le_of_ble_eq_true rfl)⟩ dX12_meanOf_83) (fun H locs hH => ?_)
          refine fx_ti (y := nI (frN P fr wr i)) (by rw [frN, if_pos c69]; exact frN_t P (by omega) fr hfr i (by omega)) ?_
          refine lv_istore (lv' := [(12, .int (nI (frN P fr wr i))), (0, .ref mo), (1, .int (nI j)), (2, .int (nI fr)), (3, .int wr), (4, .int (nI n)), (5, .int (nI P)), (6, .int (nI (feN K wi ag wr))), (7, .long (lN (sT sp (n * P - 1)))), (9, .long (moA lam P sp (feN K wi ag wr) n fr wr i)), (11, .int (nI i))]) hx hb dX12_meanOf_86 hl (by decide) rfl (fun ls hl => ?_)
          refine lv_iload hx hb dX12_meanOf_88 (lv_at hl 5 rfl) ?_
          refine fx_go1 hH (fx_runS C hH hl.1 (As := [.int (nI n)]) (rest := []) (c_X12_tens (G := G) (base := base) (l := l) (f := f) (sz := sz) (n := n) (by omega)) mY_X12_tens ml_X12_213 st_X12_tens rfl ⟨(Nat.le_of_ble_eq_true rfl), (Nat.le_of_ble_eq_true rfl)⟩ rfl (Nat.le_of_ble_eq_true rfl) ⟨(Nat.le_of_ble_eq_true rfl), (Nat.le_of_ble_eq_true rfl)⟩ dX12_meanOf_90) (fun H locs hH => ?_)
          refine lv_lstore (lv' := [(13, .long (lN (10 ^ n))), (12, .int (nI (frN P fr wr i))), (0, .ref mo), (1, .int (nI j)), (2, .int (nI fr)), (3, .int wr), (4, .int (nI n)), (5, .int (nI P)), (6, .int (nI (feN K wi ag wr))), (7, .long (lN (sT sp (n * P - 1)))), (9, .long (moA lam P sp (feN K wi ag wr) n fr wr i)), (11, .int (nI i))]) hx hb dX12_meanOf_93 hl (by decide) rfl (fun ls hl => ?_)
          refine lv_lconst (v := lN 0) hx hb dX12_meanOf_95 (by decide) ?_
          refine lv_lstore (lv' := [(15, .long (lN 0)), (13, .long (lN (10 ^ n))), (12, .int (nI (frN P fr wr i))), (0, .ref mo), (1, .int (nI j)), (2, .int (nI fr)), (3, .int wr), (4, .int (nI n)), (5, .int (nI P)), (6, .int (nI (feN K wi ag wr))), (7, .long (lN (sT sp (n * P - 1)))), (9, .long (moA lam P sp (feN K wi ag wr) n fr wr i)), (11, .int (nI i))]) hx hb dX12_meanOf_96 hl (by decide) rfl (fun ls hl => ?_)
          refine lv_iconst (v := nI 0) hx hb dX12_meanOf_98 (by decide) ?_
          refine lv_istore (lv' := [(17, .int (nI 0)), (15, .long (lN 0)), (13, .long (lN (10 ^ n))), (12, .int (nI (frN P fr wr i))), (0, .ref mo), (1, .int (nI j)), (2, .int (nI fr)), (3, .int wr), (4, .int (nI n)), (5, .int (nI P)), (6, .int (nI (feN K wi ag wr))), (7, .long (lN (sT sp (n * P - 1)))), (9, .long (moA lam P sp (feN K wi ag wr) n fr wr i)), (11, .int (nI i))]) hx hb dX12_meanOf_99 hl (by decide) rfl (fun ls hl => ?_)
          have loop_101 : ∀ (N_101 : Nat) (r_ : Nat) (hr0 : r_ ≤ n) (hm_101 : n - r_ < N_101) (H : Heap) (locs : List Loc) (hH : fx_H G base s f sz H locs) (ls : Array Slot) (hl : lv_has ls 20 [(0, .ref mo), (1, .int (nI j)), (2, .int (nI fr)), (3, .int wr), (4, .int (nI n)), (5, .int (nI P)), (6, .int (nI (feN K wi ag wr))), (7, .long (lN (sT sp (n * P - 1)))), (9, .long (moA lam P sp (feN K wi ag wr) n fr wr i)), (11, .int (nI i)), (12, .int (nI (frN P fr wr i))), (13, .long (lN ((mR P sp (frN P fr wr i) (feN K wi ag wr) n r_).1))), (15, .long (lN ((mR P sp (frN P fr wr i) (feN K wi ag wr) n r_).2))), (17, .int (nI r_))]), W p l e rm_X12_meanOf s m args below meth c H locs 0 0 (MQ below (fx_Q G base (some (.long (moA lam P sp (feN K wi ag wr) n fr wr P))) f sz) args s rm_X12_meanOf.cells rm_X12_meanOf.slots (fun q => base ≤ q)) (F0 m 101 ls []) := by
            intro N_101
            induction N_101 with
            | zero => intro r_ hr0 hm_101; exact absurd hm_101 (Nat.not_lt_zero _)
            | succ N_101 ih_101 =>
              intro r_ hr0 hm_101 H locs hH ls hl
              have b4 : r_ * P ≤ 3 * 12 := Nat.mul_le_mul (by omega) (by omega)
              refine lv_iload hx hb dX12_meanOf_101 (lv_at hl 13 rfl) ?_
              refine lv_iload hx hb dX12_meanOf_103 (lv_at hl 4 rfl) ?_
              refine fx_N_ge (a := r_) (b := n) hx hb (by omega) (by omega) (tgt := 170) dX12_meanOf_105 (by decide) (fun c105 => ?_) (fun c105 => ?_)
              · refine lv_lload hx hb dX12_meanOf_170 (lv_at hl 8 rfl) ?_
                refine lv_aload_n hx hb dX12_meanOf_172 rfl (lv_at hl 0 rfl) ?_
                refine fx_get C hH (k := 7) (v := .ref li) h_mo ff_X12_25_11 rfl dX12_meanOf_173 ?_
                refine lv_iload hx hb dX12_meanOf_176 (lv_at hl 9 rfl) ?_
                refine fx_laldN C hH h_li (by omega) (by omega) dX12_meanOf_178 ?_
                refine lv_lload hx hb dX12_meanOf_179 (lv_at hl 12 rfl) ?_
                refine lv_lload hx hb dX12_meanOf_181 (lv_at hl 11 rfl) ?_
                refine lv_lload hx hb dX12_meanOf_183 (lv_at hl 7 rfl) ?_
                refine lv_lmul hx hb dX12_meanOf_185 ?_
                refine fx_tl (y := lN (((mR P sp (frN P fr wr i) (feN K wi ag wr) n r_).1) * (sT sp (n * P - 1)))) (lN_mul _ _) ?_
                refine lv_ladd hx hb dX12_meanOf_186 ?_
                refine fx_tl (y := lN ((mR P sp (frN P fr wr i) (feN K wi ag wr) n r_).2 + (((mR P sp (frN P fr wr i) (feN K wi ag wr) n r_).1) * (sT sp (n * P - 1))))) (lN_add _ _) ?_
                refine lv_lmul hx hb dX12_meanOf_187 ?_
                refine lv_ladd hx hb dX12_meanOf_188 ?_
                refine lv_lstore (lv' := [(9, .long ((moA lam P sp (feN K wi ag wr) n fr wr i) + ((lam i) * (lN ((mR P sp (frN P fr wr i) (feN K wi ag wr) n r_).2 + (((mR P sp (frN P fr wr i) (feN K wi ag wr) n r_).1) * (sT sp (n * P - 1)))))))), (0, .ref mo), (1, .int (nI j)), (2, .int (nI fr)), (3, .int wr), (4, .int (nI n)), (5, .int (nI P)), (6, .int (nI (feN K wi ag wr))), (7, .long (lN (sT sp (n * P - 1)))), (11, .int (nI i)), (12, .int (nI (frN P fr wr i))), (13, .long (lN ((mR P sp (frN P fr wr i) (feN K wi ag wr) n r_).1))), (15, .long (lN ((mR P sp (frN P fr wr i) (feN K wi ag wr) n r_).2))), (17, .int (nI r_))]) hx hb dX12_meanOf_189 hl (by decide) rfl (fun ls hl => ?_)
                refine lv_iinc (v := nI (i + 1)) (lv' := [(11, .int (nI (i + 1))), (9, .long ((moA lam P sp (feN K wi ag wr) n fr wr i) + ((lam i) * (lN ((mR P sp (frN P fr wr i) (feN K wi ag wr) n r_).2 + (((mR P sp (frN P fr wr i) (feN K wi ag wr) n r_).1) * (sT sp (n * P - 1)))))))), (0, .ref mo), (1, .int (nI j)), (2, .int (nI fr)), (3, .int wr), (4, .int (nI n)), (5, .int (nI P)), (6, .int (nI (feN K wi ag wr))), (7, .long (lN (sT sp (n * P - 1)))), (12, .int (nI (frN P fr wr i))), (13, .long (lN ((mR P sp (frN P fr wr i) (feN K wi ag wr) n r_).1))), (15, .long (lN ((mR P sp (frN P fr wr i) (feN K wi ag wr) n r_).2))), (17, .int (nI r_))]) hx hb dX12_meanOf_191 hl (k := 9) rfl (nI_1 _) (by decide) rfl (fun ls hl => ?_)
                refine lv_goto (tgt := 59) hx hb dX12_meanOf_194 (by decide) ?_
                have hl : lv_has ls 20 [(0, .ref mo), (1, .int (nI j)), (2, .int (nI fr)), (3, .int wr), (4, .int (nI n)), (5, .int (nI P)), (6, .int (nI (feN K wi ag wr))), (7, .long (lN (sT sp (n * P - 1)))), (9, .long ((moA lam P sp (feN K wi ag wr) n fr wr i) + ((lam i) * (lN ((mR P sp (frN P fr wr i) (feN K wi ag wr) n r_).2 + (((mR P sp (frN P fr wr i) (feN K wi ag wr) n r_).1) * (sT sp (n * P - 1)))))))), (11, .int (nI (i + 1)))] := lv_sub hl [2, 3, 4, 5, 6, 7, 8, 9, 1, 0] rfl
                have hl : lv_has ls 20 [(0, .ref mo), (1, .int (nI j)), (2, .int (nI fr)), (3, .int wr), (4, .int (nI n)), (5, .int (nI P)), (6, .int (nI (feN K wi ag wr))), (7, .long (lN (sT sp (n * P - 1)))), (9, .long (moA lam P sp (feN K wi ag wr) n fr wr (i + 1))), (11, .int (nI (i + 1)))] := by
                  have hrn : r_ = n := by omega
                  subst hrn
                  exact hl
                exact ih_59 (i + 1) (by omega) (by omega) _ _ hH _ hl
              · refine lv_lconst (v := lN 1) hx hb dX12_meanOf_108 (by decide) ?_
                refine lv_iload hx hb dX12_meanOf_109 (lv_at hl 10 rfl) ?_
                refine lv_iload hx hb dX12_meanOf_111 (lv_at hl 13 rfl) ?_
                refine lv_iload hx hb dX12_meanOf_113 (lv_at hl 5 rfl) ?_
                refine lv_imul hx hb dX12_meanOf_115 ?_
                refine fx_ti (y := nI (r_ * P)) (pk_mul _ _) ?_
                refine lv_iadd hx hb dX12_meanOf_116 ?_
                refine fx_ti (y := nI (frN P fr wr i + (r_ * P))) (nI_add _ _) ?_
                refine lv_i2l (v := lN (frN P fr wr i + (r_ * P))) hx hb dX12_meanOf_117 (nI_l (by omega)) ?_
                refine lv_aload_n hx hb dX12_meanOf_118 rfl (lv_at hl 0 rfl) ?_
                refine fx_get C hH (k := 5) (v := .ref rl) h_mo ff_X12_19_11 rfl dX12_meanOf_119 ?_
                refine lv_iconst (v := nI 1) hx hb dX12_meanOf_122 (by decide) ?_
                refine fx_ialdN C hH h_rl (by omega) (by omega) dX12_meanOf_123 ?_
                refine fx_ti (y := nI sp) hsp ?_
                refine lv_iconst (v := nI 1) hx hb dX12_meanOf_124 (by decide) ?_
                refine lv_iadd hx hb dX12_meanOf_125 ?_
                refine fx_ti (y := nI (sp + 1)) (nI_add _ _) ?_
                refine lv_i2l (v := lN (sp + 1)) hx hb dX12_meanOf_126 (nI_l (by omega)) ?_
                refine lv_lmul hx hb dX12_meanOf_127 ?_
                refine fx_tl (y := lN ((frN P fr wr i + (r_ * P)) * (sp + 1))) (lN_mul _ _) ?_
                refine lv_ladd hx hb dX12_meanOf_128 ?_
                refine fx_tl (y := lN (1 + ((frN P fr wr i + (r_ * P)) * (sp + 1)))) (lN_add _ _) ?_
                refine lv_lstore (lv' := [(18, .long (lN (1 + ((frN P fr wr i + (r_ * P)) * (sp + 1))))), (0, .ref mo), (1, .int (nI j)), (2, .int (nI fr)), (3, .int wr), (4, .int (nI n)), (5, .int (nI P)), (6, .int (nI (feN K wi ag wr))), (7, .long (lN (sT sp (n * P - 1)))), (9, .long (moA lam P sp (feN K wi ag wr) n fr wr i)), (11, .int (nI i)), (12, .int (nI (frN P fr wr i))), (13, .long (lN ((mR P sp (frN P fr wr i) (feN K wi ag wr) n r_).1))), (15, .long (lN ((mR P sp (frN P fr wr i) (feN K wi ag wr) n r_).2))), (17, .int (nI r_))]) hx hb dX12_meanOf_129 hl (by decide) rfl (fun ls hl => ?_)
                refine lv_lload hx hb dX12_meanOf_131 (lv_at hl 13 rfl) ?_
                refine lv_lload hx hb dX12_meanOf_133 (lv_at hl 12 rfl) ?_
                refine lv_ldc2 (v := (10)) hx hb C.2.2.2.1 (C.2.2.2.2.1 _ kL_X12_203 rfl args) dX12_meanOf_135 ?_
                refine fx_tl (y := lN 10) (by decide) ?_
                refine lv_ldiv hx hb dX12_meanOf_138 (fun q => absurd ((pk_lEQ (b := 0) (by omega) (by omega)).mp q) (by omega)) ?_
                refine fx_tl (y := lN (((mR P sp (frN P fr wr i) (feN K wi ag wr) n r_).1) / 10)) (pk_lDiv (by have := mR_le P sp (frN P fr wr i) (feN K wi ag wr) n hfl r_; omega) (by omega) (by omega)) ?_
                refine lv_iload hx hb dX12_meanOf_139 (lv_at hl 7 rfl) ?_
                refine lv_i2l (v := lN (feN K wi ag wr)) hx hb dX12_meanOf_141 (nI_l (by omega)) ?_
                refine lv_lmul hx hb dX12_meanOf_142 ?_
                refine fx_tl (y := lN ((((mR P sp (frN P fr wr i) (feN K wi ag wr) n r_).1) / 10) * (feN K wi ag wr))) (lN_mul _ _) ?_
                refine lv_lload hx hb dX12_meanOf_143 (lv_at hl 0 rfl) ?_
                refine lv_lmul hx hb dX12_meanOf_145 ?_
                refine fx_tl (y := lN (((((mR P sp (frN P fr wr i) (feN K wi ag wr) n r_).1) / 10) * (feN K wi ag wr)) * (1 + ((frN P fr wr i + (r_ * P)) * (sp + 1))))) (lN_mul _ _) ?_
                refine lv_ladd hx hb dX12_meanOf_146 ?_
                refine fx_tl (y := lN ((mR P sp (frN P fr wr i) (feN K wi ag wr) n r_).2 + (((((mR P sp (frN P fr wr i) (feN K wi ag wr) n r_).1) / 10) * (feN K wi ag wr)) * (1 + ((frN P fr wr i + (r_ * P)) * (sp + 1)))))) (lN_add _ _) ?_
                refine lv_lstore (lv' := [(15, .long (lN ((mR P sp (frN P fr wr i) (feN K wi ag wr) n r_).2 + (((((mR P sp (frN P fr wr i) (feN K wi ag wr) n r_).1) / 10) * (feN K wi ag wr)) * (1 + ((frN P fr wr i + (r_ * P)) * (sp + 1))))))), (18, .long (lN (1 + ((frN P fr wr i + (r_ * P)) * (sp + 1))))), (0, .ref mo), (1, .int (nI j)), (2, .int (nI fr)), (3, .int wr), (4, .int (nI n)), (5, .int (nI P)), (6, .int (nI (feN K wi ag wr))), (7, .long (lN (sT sp (n * P - 1)))), (9, .long (moA lam P sp (feN K wi ag wr) n fr wr i)), (11, .int (nI i)), (12, .int (nI (frN P fr wr i))), (13, .long (lN ((mR P sp (frN P fr wr i) (feN K wi ag wr) n r_).1))), (17, .int (nI r_))]) hx hb dX12_meanOf_147 hl (by decide) rfl (fun ls hl => ?_)
                refine lv_lload hx hb dX12_meanOf_149 (lv_at hl 13 rfl) ?_
                refine lv_ldc2 (v := (10)) hx hb C.2.2.2.1 (C.2.2.2.2.1 _ kL_X12_203 rfl args) dX12_meanOf_151 ?_
                refine fx_tl (y := lN 10) (by decide) ?_
                refine lv_ldiv hx hb dX12_meanOf_154 (fun q => absurd ((pk_lEQ (b := 0) (by omega) (by omega)).mp q) (by omega)) ?_
                refine fx_tl (y := lN (((mR P sp (frN P fr wr i) (feN K wi ag wr) n r_).1) / 10)) (pk_lDiv (by have := mR_le P sp (frN P fr wr i) (feN K wi ag wr) n hfl r_; omega) (by omega) (by omega)) ?_
                refine lv_bipush (v := nI 10) hx hb dX12_meanOf_155 (by decide) ?_
                refine lv_iload hx hb dX12_meanOf_157 (lv_at hl 8 rfl) ?_
                refine lv_isub hx hb dX12_meanOf_159 ?_
                refine fx_ti (y := nI (10 - (feN K wi ag wr))) (pk_sub (by omega)) ?_
                refine lv_i2l (v := lN (10 - (feN K wi ag wr))) hx hb dX12_meanOf_160 (nI_l (by omega)) ?_
                refine lv_lmul hx hb dX12_meanOf_161 ?_
                refine fx_tl (y := lN ((((mR P sp (frN P fr wr i) (feN K wi ag wr) n r_).1) / 10) * (10 - (feN K wi ag wr)))) (lN_mul _ _) ?_
                refine lv_lstore (lv' := [(13, .long (lN ((((mR P sp (frN P fr wr i) (feN K wi ag wr) n r_).1) / 10) * (10 - (feN K wi ag wr))))), (15, .long (lN ((mR P sp (frN P fr wr i) (feN K wi ag wr) n r_).2 + (((((mR P sp (frN P fr wr i) (feN K wi ag wr) n r_).1) / 10) * (feN K wi ag wr)) * (1 + ((frN P fr wr i + (r_ * P)) * (sp + 1))))))), (18, .long (lN (1 + ((frN P fr wr i + (r_ * P)) * (sp + 1))))), (0, .ref mo), (1, .int (nI j)), (2, .int (nI fr)), (3, .int wr), (4, .int (nI n)), (5, .int (nI P)), (6, .int (nI (feN K wi ag wr))), (7, .long (lN (sT sp (n * P - 1)))), (9, .long (moA lam P sp (feN K wi ag wr) n fr wr i)), (11, .int (nI i)), (12, .int (nI (frN P fr wr i))), (17, .int (nI r_))]) hx hb dX12_meanOf_162 hl (by decide) rfl (fun ls hl => ?_)
                refine lv_iinc (v := nI (r_ + 1)) (lv' := [(17, .int (nI (r_ + 1))), (13, .long (lN ((((mR P sp (frN P fr wr i) (feN K wi ag wr) n r_).1) / 10) * (10 - (feN K wi ag wr))))), (15, .long (lN ((mR P sp (frN P fr wr i) (feN K wi ag wr) n r_).2 + (((((mR P sp (frN P fr wr i) (feN K wi ag wr) n r_).1) / 10) * (feN K wi ag wr)) * (1 + ((frN P fr wr i + (r_ * P)) * (sp + 1))))))), (18, .long (lN (1 + ((frN P fr wr i + (r_ * P)) * (sp + 1))))), (0, .ref mo), (1, .int (nI j)), (2, .int (nI fr)), (3, .int wr), (4, .int (nI n)), (5, .int (nI P)), (6, .int (nI (feN K wi ag wr))), (7, .long (lN (sT sp (n * P - 1)))), (9, .long (moA lam P sp (feN K wi ag wr) n fr wr i)), (11, .int (nI i)), (12, .int (nI (frN P fr wr i)))]) hx hb dX12_meanOf_164 hl (k := 14) rfl (nI_1 _) (by decide) rfl (fun ls hl => ?_)
                refine lv_goto (tgt := 101) hx hb dX12_meanOf_167 (by decide) ?_
                have hl : lv_has ls 20 [(0, .ref mo), (1, .int (nI j)), (2, .int (nI fr)), (3, .int wr), (4, .int (nI n)), (5, .int (nI P)), (6, .int (nI (feN K wi ag wr))), (7, .long (lN (sT sp (n * P - 1)))), (9, .long (moA lam P sp (feN K wi ag wr) n fr wr i)), (11, .int (nI i)), (12, .int (nI (frN P fr wr i))), (13, .long (lN ((((mR P sp (frN P fr wr i) (feN K wi ag wr) n r_).1) / 10) * (10 - (feN K wi ag wr))))), (15, .long (lN ((mR P sp (frN P fr wr i) (feN K wi ag wr) n r_).2 + (((((mR P sp (frN P fr wr i) (feN K wi ag wr) n r_).1) / 10) * (feN K wi ag wr)) * (1 + ((frN P fr wr i + (r_ * P)) * (sp + 1))))))), (17, .int (nI (r_ + 1)))] := lv_sub hl [4, 5, 6, 7, 8, 9, 10, 11, 12, 13, 14, 1, 2, 0] rfl
                have hl : lv_has ls 20 [(0, .ref mo), (1, .int (nI j)), (2, .int (nI fr)), (3, .int wr), (4, .int (nI n)), (5, .int (nI P)), (6, .int (nI (feN K wi ag wr))), (7, .long (lN (sT sp (n * P - 1)))), (9, .long (moA lam P sp (feN K wi ag wr) n fr wr i)), (11, .int (nI i)), (12, .int (nI (frN P fr wr i))), (13, .long (lN ((mR P sp (frN P fr wr i) (feN K wi ag wr) n (r_ + 1)).1))), (15, .long (lN ((mR P sp (frN P fr wr i) (feN K wi ag wr) n (r_ + 1)).2))), (17, .int (nI (r_ + 1)))] := hl
                exact ih_101 (r_ + 1) (by omega) (by omega) _ _ hH _ hl
          have hl : lv_has ls 20 [(0, .ref mo), (1, .int (nI j)), (2, .int (nI fr)), (3, .int wr), (4, .int (nI n)), (5, .int (nI P)), (6, .int (nI (feN K wi ag wr))), (7, .long (lN (sT sp (n * P - 1)))), (9, .long (moA lam P sp (feN K wi ag wr) n fr wr i)), (11, .int (nI i)), (12, .int (nI (frN P fr wr i))), (13, .long (lN (10 ^ n))), (15, .long (lN 0)), (17, .int (nI 0))] := lv_sub hl [4, 5, 6, 7, 8, 9, 10, 11, 12, 13, 3, 2, 1, 0] rfl
          have hl : lv_has ls 20 [(0, .ref mo), (1, .int (nI j)), (2, .int (nI fr)), (3, .int wr), (4, .int (nI n)), (5, .int (nI P)), (6, .int (nI (feN K wi ag wr))), (7, .long (lN (sT sp (n * P - 1)))), (9, .long (moA lam P sp (feN K wi ag wr) n fr wr i)), (11, .int (nI i)), (12, .int (nI (frN P fr wr i))), (13, .long (lN ((mR P sp (frN P fr wr i) (feN K wi ag wr) n 0).1))), (15, .long (lN ((mR P sp (frN P fr wr i) (feN K wi ag wr) n 0).2))), (17, .int (nI 0))] := hl
          exact loop_101 _ 0 (by omega) (Nat.lt_succ_self _) _ _ hH _ hl
  have hl : lv_has ls 20 [(0, .ref mo), (1, .int (nI j)), (2, .int (nI fr)), (3, .int wr), (4, .int (nI n)), (5, .int (nI P)), (6, .int (nI (feN K wi ag wr))), (7, .long (lN (1 + (((n * P) - 1) * (sp + 1))))), (9, .long (((lam P) * (lN (1 + (((n * P) - 1) * (sp + 1))))) * (lN (10 ^ n)))), (11, .int (nI 0))] := lv_sub hl [5, 6, 7, 8, 9, 4, 3, 2, 1, 0] rfl
  have hl : lv_has ls 20 [(0, .ref mo), (1, .int (nI j)), (2, .int (nI fr)), (3, .int wr), (4, .int (nI n)), (5, .int (nI P)), (6, .int (nI (feN K wi ag wr))), (7, .long (lN (sT sp (n * P - 1)))), (9, .long (moA lam P sp (feN K wi ag wr) n fr wr 0)), (11, .int (nI 0))] := hl
  exact loop_59 _ 0 (by omega) (Nat.lt_succ_self _) _ _ hH _ hl
