theorem wgR_c {q q' : Nat → Int64} {fac : Nat → Nat} : ∀ {n : Nat}, (∀ i, i < 13 → q i = q' i) → ∀ i, i < 13 → wgR q fac n i = wgR q' fac n i
  | 0, hq, i, hi => hq i hi
  | n + 1, hq, i, hi => by
    have ih := wgR_c (fac := fac) (n := n) hq
    rw [wgR, wgR]
    by_cases hin : i = n
    · subst hin; rw [pk_uLs, pk_uLs, ih i hi]
    · rw [pk_uLn hin, pk_uLn hin, ih i hi]
theorem qH_c {q q' : Nat → Int64} {P : Nat} {wy : Int32} {pt cvf : Nat → Nat} {K wi ag : Nat} (hq : ∀ i, i < 13 → q i = q' i) : ∀ (k i : Nat), i < 13 → qH q P wy pt cvf K wi ag k i = qH q' P wy pt cvf K wi ag k i
  | 0, i, hi => hq i hi
  | k + 1, i, hi => wgR_c (qH_c hq k) i hi
theorem lo_c {q q' : Nat → Int64} {x : Int32} : ∀ {i : Nat}, (∀ j, j < i → q j = q' j) → lo q x i = lo q' x i
  | 0, _ => rfl
  | i + 1, h => by
    have ih := lo_c (x := x) (i := i) (fun j hj => h j (by omega))
    rw [lo, lo, ih]
    by_cases h1 : nI i = x
    · rw [if_pos h1, if_pos h1]
    · rw [if_neg h1, if_neg h1]
      cases hl : lo q' x i with
      | none => rfl
      | some b => 
        have hb := lo_lt hl
        show (if q i ≤ q b then some b else some i) = (if q' i ≤ q' b then some b else some i)
        rw [h i (by omega), h b (by omega)]
theorem nxR_c {K : Nat} {q q' : Nat → Int64} {pl : Nat} {wy : Int32} {lf : Nat} {ta : Int32} {P : Nat} (h : ∀ j, j < P → q j = q' j) : nxR K q pl wy lf ta P = nxR K q' pl wy lf ta P := by
  unfold nxR
  rw [lo_c (x := nI pl) h]
theorem fJ_c {g lam : Nat → Int64} : ∀ i, i < 13 → fJ g 0 lam 13 i = lam i := fun i h => by rw [fJ_at, if_pos (by omega), Nat.sub_zero]
abbrev hsP (q : Nat → Int64) (P : Nat) (wy : Int32) (pt cvf : Nat → Nat) (K wi ag n : Nat) (ta : Int32) (w : Nat → Int32) : Prop := ∀ z, z < n - 1 → nxR K (qH q P wy pt cvf K wi ag (z + 1)) (pt z) wy 0 ta P = w (z + 1)
theorem or_0 (x : Int32) : x ||| nI 0 = x := by
  show x ||| 0 = x
  exact Int32.or_zero
/-- seconds by words -/
def rsS (sp : Nat) (ov : Int32) (wd : Nat → Nat) (n m : Nat) : Nat → Int32
  | 0 => nI m
  | k + 1 => rsS sp ov wd n m k + (if wd (k % n) = 0 then nI sp else if wd (k % n) = 1 then ov else if wd (k % n) = 2 then nI 2 * nI sp else nI 0)
theorem rl_n {n g : Int32} {nz sn : Nat} (hn : n = nI nz) (hg : g = nI sn) (h1 : nz < 2 ^ 31) (h2 : sn < 2 ^ 31) (h : n ≤ g) : nz ≤ sn := by
  subst hn; subst hg
  rw [fa_le, nI_toInt h1, nI_toInt h2] at h
  omega
abbrev rm_X12_mean : Room := { frames := 3, cells := 0, slots := 0, locals := 86 }
set_option maxHeartbeats 4000000 in
set_option maxRecDepth 100000 in
theorem c_X12_mean_n {G : GG} {base : Nat} {l : Launch} {f : Hp} {sz : Nat} {Po : Option Value → Hp → Nat → Prop} {tl : Nat} {mo : Nat} {sx : Int32} {pp : Int32} {wr : Int32} {n : Int32} {wh : Int32} {th : Int32} {sa : Int32} {la : Nat} {ma : Nat} {it : Nat} {rl : Nat} {fr : Nat} {li : Nat} {wa : Nat} {ld : Nat} {ac : Int32} {tp : Nat} {tn : Int32} {cu : Int32} {sr : Int32} {tk : Int32} {va : Int32} {ft : Int32} {fA : Int32} {lt : Int32} {so : Nat} {ik : Nat} {kp : Nat} {kl : Nat} {tc : Nat} {tt : Int32} {rho : Nat → Int32} (h_mo : f mo = some (oO 11 [.int th, .int sa, .ref la, .ref ma, .ref it, .ref rl, .ref fr, .ref li, .ref wa, .ref ld, .int ac, .ref tp, .int tn, .int cu, .int sr, .int tk, .int va, .int ft, .int fA, .int lt, .ref so, .ref ik, .ref kp, .ref kl, .ref tc, .int tt])) (h_rl : f rl = some (oI 48 rho)) (ht : rho 5 = nI tl) (hs0 : ¬ (¬ sx < nI 0 ∧ ¬ (nI tl - nI 1) < sx)) (K1 : Po (some (.long (-1000001))) (fx_up f mo (oO 11 [.int (nI 0), .int sa, .ref la, .ref ma, .ref it, .ref rl, .ref fr, .ref li, .ref wa, .ref ld, .int ac, .ref tp, .int tn, .int cu, .int sr, .int tk, .int va, .int ft, .int fA, .int lt, .ref so, .ref ik, .ref kp, .ref kl, .ref tc, .int tt])) sz) : fx_MP G base l yX12_mean cX12_mean 6 (some .long) rm_X12_mean [.ref mo, .int sx, .int pp, .int wr, .int n, .int wh] f sz Po := by
  refine fx_ofP (by decide +kernel) (Nat.le_of_ble_eq_true rfl) ?_
  intro p e s m args below meth c C hr hk hnm hH ls hl
  obtain ⟨locs, hlocs⟩ : ∃ L : List Loc, L = [] := ⟨_, rfl⟩
  rw [← hlocs] at hH ⊢
  generalize s.heap = H at hH ⊢
  have hx := C.1
  have hb := C.2.1
  have hl : lv_has ls 6 [(0, .ref mo), (1, .int sx), (2, .int pp), (3, .int wr), (4, .int n), (5, .int wh)] := hl
  refine lv_aload_n hx hb dX12_mean_0 rfl (lv_at hl 0 rfl) ?_
  refine lv_iconst (v := nI 0) hx hb dX12_mean_1 (by decide) ?_
  refine fx_putT C hH (k := 0) h_mo ff_X12_54_11 fL_11 fT_11_0 rfl rfl (Nat.le_of_ble_eq_true rfl) dX12_mean_2 (fun H locs hH => ?_)
  have hH : fx_H G base s (fx_up f mo (oO 11 [.int (nI 0), .int sa, .ref la, .ref ma, .ref it, .ref rl, .ref fr, .ref li, .ref wa, .ref ld, .int ac, .ref tp, .int tn, .int cu, .int sr, .int tk, .int va, .int ft, .int fA, .int lt, .ref so, .ref ik, .ref kp, .ref kl, .ref tc, .int tt])) sz H locs := hH
  have h1_rl : (fx_up f mo (oO 11 [.int (nI 0), .int sa, .ref la, .ref ma, .ref it, .ref rl, .ref fr, .ref li, .ref wa, .ref ld, .int ac, .ref tp, .int tn, .int cu, .int sr, .int tk, .int va, .int ft, .int fA, .int lt, .ref so, .ref ik, .ref kp, .ref kl, .ref tc, .int tt])) rl = some (oI 48 rho) := (fx_up_n _ _ (fx_ne h_rl h_mo rfl)).trans h_rl
  have h1_mo : (fx_up f mo (oO 11 [.int (nI 0), .int sa, .ref la, .ref ma, .ref it, .ref rl, .ref fr, .ref li, .ref wa, .ref ld, .int ac, .ref tp, .int tn, .int cu, .int sr, .int tk, .int va, .int ft, .int fA, .int lt, .ref so, .ref ik, .ref kp, .ref kl, .ref tc, .int tt])) mo = some (oO 11 [.int (nI 0), .int sa, .ref la, .ref ma, .ref it, .ref rl, .ref fr, .ref li, .ref wa, .ref ld, .int ac, .ref tp, .int tn, .int cu, .int sr, .int tk, .int va, .int ft, .int fA, .int lt, .ref so, .ref ik, .ref kp, .ref kl, .ref tc, .int tt]) := fx_up_s _ _ _
  refine lv_aload_n hx hb dX12_mean_5 rfl (lv_at hl 0 rfl) ?_
  refine lv_iload_n hx hb dX12_mean_6 rfl (lv_at hl 1 rfl) ?_
  refine fx_go1 hH (fx_runV C hH hl.1 (As := [.int sx]) (rest := []) (c_X12_isSeeker (G := G) (base := base) (l := l) (f := fx_up f mo (oO 11 [.int (nI 0), .int sa, .ref la, .ref ma, .ref it, .ref rl, .ref fr, .ref li, .ref wa, .ref ld, .int ac, .ref tp, .int tn, .int cu, .int sr, .int tk, .int va, .int ft, .int fA, .int lt, .ref so, .ref ik, .ref kp, .ref kl, .ref tc, .int tt])) (sz := sz) (tl := tl) (mo := mo) (pp := sx) (th := nI 0) (sa := sa) (la := la) (ma := ma) (it := it) (rl := rl) (fr := fr) (li := li) (wa := wa) (ld := ld) (ac := ac) (tp := tp) (tn := tn) (cu := cu) (sr := sr) (tk := tk) (va := va) (ft := ft) (fA := fA) (lt := lt) (so := so) (ik := ik) (kp := kp) (kl := kl) (tc := tc) (tt := tt) (rho := rho) h1_mo h1_rl ht) mY_X12_isSeeker ml_X12_165 im_X12_isSeeker se_X12_X12_isSeeker h1_mo rfl rfl ⟨(Nat.le_of_ble_eq_true rfl), (Nat.le_of_ble_eq_true rfl)⟩ rfl (Nat.le_of_ble_eq_true rfl) ⟨(Nat.le_of_ble_eq_true rfl), (Nat.le_of_ble_eq_true rfl)⟩ dX12_mean_7) (fun H locs hH => ?_)
  refine fx_b_eq hx hb (tgt := 52) dX12_mean_10 (by decide) (fun c10 => ?_) (fun c10 => absurd c10 (hs0))
  refine lv_ldc2 (v := (-1000001)) hx hb C.2.2.2.1 (C.2.2.2.2.1 _ kL_X12_201 rfl args) dX12_mean_52 ?_
  exact fx_lretP C hr hk hH (K1 ) (Nat.zero_le _) (Nat.zero_le _) dX12_mean_55
abbrev rm_X12_begin : Room := { frames := 3, cells := 0, slots := 0, locals := 86 }
set_option maxHeartbeats 4000000 in
set_option maxRecDepth 100000 in
theorem c_X12_begin_n {G : GG} {base : Nat} {l : Launch} {f : Hp} {sz : Nat} {Po : Option Value → Hp → Nat → Prop} {tl : Nat} {mo : Nat} {sx : Int32} {n : Int32} {th : Int32} {sa : Int32} {la : Nat} {ma : Nat} {it : Nat} {rl : Nat} {fr : Nat} {li : Nat} {wa : Nat} {ld : Nat} {ac : Int32} {tp : Nat} {tn : Int32} {cu : Int32} {sr : Int32} {tk : Int32} {va : Int32} {ft : Int32} {fA : Int32} {lt : Int32} {so : Nat} {ik : Nat} {kp : Nat} {kl : Nat} {tc : Nat} {tt : Int32} {rho : Nat → Int32} (h_mo : f mo = some (oO 11 [.int th, .int sa, .ref la, .ref ma, .ref it, .ref rl, .ref fr, .ref li, .ref wa, .ref ld, .int ac, .ref tp, .int tn, .int cu, .int sr, .int tk, .int va, .int ft, .int fA, .int lt, .ref so, .ref ik, .ref kp, .ref kl, .ref tc, .int tt])) (h_rl : f rl = some (oI 48 rho)) (ht : rho 5 = nI tl) (hs0 : ¬ (¬ sx < nI 0 ∧ ¬ (nI tl - nI 1) < sx)) (K1 : Po (some (.int (-1000001))) (fx_up f mo (oO 11 [.int (nI 0), .int sa, .ref la, .ref ma, .ref it, .ref rl, .ref fr, .ref li, .ref wa, .ref ld, .int ac, .ref tp, .int tn, .int cu, .int sr, .int tk, .int va, .int ft, .int fA, .int lt, .ref so, .ref ik, .ref kp, .ref kl, .ref tc, .int tt])) sz) : fx_MP G base l yX12_begin cX12_begin 9 (some .int) rm_X12_begin [.ref mo, .int sx, .int n] f sz Po := by
  refine fx_ofP (by decide +kernel) (Nat.le_of_ble_eq_true rfl) ?_
  intro p e s m args below meth c C hr hk hnm hH ls hl
  obtain ⟨locs, hlocs⟩ : ∃ L : List Loc, L = [] := ⟨_, rfl⟩
  rw [← hlocs] at hH ⊢
  generalize s.heap = H at hH ⊢
  have hx := C.1
  have hb := C.2.1
  have hl : lv_has ls 9 [(0, .ref mo), (1, .int sx), (2, .int n)] := hl
  refine lv_aload_n hx hb dX12_begin_0 rfl (lv_at hl 0 rfl) ?_
  refine lv_iconst (v := nI 0) hx hb dX12_begin_1 (by decide) ?_
  refine fx_putT C hH (k := 0) h_mo ff_X12_54_11 fL_11 fT_11_0 rfl rfl (Nat.le_of_ble_eq_true rfl) dX12_begin_2 (fun H locs hH => ?_)
  have hH : fx_H G base s (fx_up f mo (oO 11 [.int (nI 0), .int sa, .ref la, .ref ma, .ref it, .ref rl, .ref fr, .ref li, .ref wa, .ref ld, .int ac, .ref tp, .int tn, .int cu, .int sr, .int tk, .int va, .int ft, .int fA, .int lt, .ref so, .ref ik, .ref kp, .ref kl, .ref tc, .int tt])) sz H locs := hH
  have h1_rl : (fx_up f mo (oO 11 [.int (nI 0), .int sa, .ref la, .ref ma, .ref it, .ref rl, .ref fr, .ref li, .ref wa, .ref ld, .int ac, .ref tp, .int tn, .int cu, .int sr, .int tk, .int va, .int ft, .int fA, .int lt, .ref so, .ref ik, .ref kp, .ref kl, .ref tc, .int tt])) rl = some (oI 48 rho) := (fx_up_n _ _ (fx_ne h_rl h_mo rfl)).trans h_rl
  have h1_mo : (fx_up f mo (oO 11 [.int (nI 0), .int sa, .ref la, .ref ma, .ref it, .ref rl, .ref fr, .ref li, .ref wa, .ref ld, .int ac, .ref tp, .int tn, .int cu, .int sr, .int tk, .int va, .int ft, .int fA, .int lt, .ref so, .ref ik, .ref kp, .ref kl, .ref tc, .int tt])) mo = some (oO 11 [.int (nI 0), .int sa, .ref la, .ref ma, .ref it, .ref rl, .ref fr, .ref li, .ref wa, .ref ld, .int ac, .ref tp, .int tn, .int cu, .int sr, .int tk, .int va, .int ft, .int fA, .int lt, .ref so, .ref ik, .ref kp, .ref kl, .ref tc, .int tt]) := fx_up_s _ _ _
  refine lv_aload_n hx hb dX12_begin_5 rfl (lv_at hl 0 rfl) ?_
  refine lv_iload_n hx hb dX12_begin_6 rfl (lv_at hl 1 rfl) ?_
  refine fx_go1 hH (fx_runV C hH hl.1 (As := [.int sx]) (rest := []) (c_X12_isSeeker (G := G) (base := base) (l := l) (f := fx_up f mo (oO 11 [.int (nI 0), .int sa, .ref la, .ref ma, .ref it, .ref rl, .ref fr, .ref li, .ref wa, .ref ld, .int ac, .ref tp, .int tn, .int cu, .int sr, .int tk, .int va, .int ft, .int fA, .int lt, .ref so, .ref ik, .ref kp, .ref kl, .ref tc, .int tt])) (sz := sz) (tl := tl) (mo := mo) (pp := sx) (th := nI 0) (sa := sa) (la := la) (ma := ma) (it := it) (rl := rl) (fr := fr) (li := li) (wa := wa) (ld := ld) (ac := ac) (tp := tp) (tn := tn) (cu := cu) (sr := sr) (tk := tk) (va := va) (ft := ft) (fA := fA) (lt := lt) (so := so) (ik := ik) (kp := kp) (kl := kl) (tc := tc) (tt := tt) (rho := rho) h1_mo h1_rl ht) mY_X12_isSeeker ml_X12_165 im_X12_isSeeker se_X12_X12_isSeeker h1_mo rfl rfl ⟨(Nat.le_of_ble_eq_true rfl), (Nat.le_of_ble_eq_true rfl)⟩ rfl (Nat.le_of_ble_eq_true rfl) ⟨(Nat.le_of_ble_eq_true rfl), (Nat.le_of_ble_eq_true rfl)⟩ dX12_begin_7) (fun H locs hH => ?_)
  refine fx_b_eq hx hb (tgt := 25) dX12_begin_10 (by decide) (fun c10 => ?_) (fun c10 => absurd c10 (hs0))
  refine lv_ldc (v := (-1000001)) hx hb C.2.2.2.1 (C.2.2.2.2.1 _ kI_X12_74 rfl args) dX12_begin_25 ?_
  exact fx_iretP C hr hk hH (K1 ) (Nat.zero_le _) (Nat.zero_le _) dX12_begin_27
abbrev rm_X12_noEnd : Room := { frames := 2, cells := 0, slots := 0, locals := 47 }
set_option maxHeartbeats 4000000 in
set_option maxRecDepth 100000 in
theorem c_X12_noEnd_n {G : GG} {base : Nat} {l : Launch} {f : Hp} {sz : Nat} {Po : Option Value → Hp → Nat → Prop} {tl : Nat} {mo : Nat} {sx : Int32} {wr : Int32} {aq : Int32} {th : Int32} {sa : Int32} {la : Nat} {ma : Nat} {it : Nat} {rl : Nat} {fr : Nat} {li : Nat} {wa : Nat} {ld : Nat} {ac : Int32} {tp : Nat} {tn : Int32} {cu : Int32} {sr : Int32} {tk : Int32} {va : Int32} {ft : Int32} {fA : Int32} {lt : Int32} {so : Nat} {ik : Nat} {kp : Nat} {kl : Nat} {tc : Nat} {tt : Int32} {rho : Nat → Int32} (h_mo : f mo = some (oO 11 [.int th, .int sa, .ref la, .ref ma, .ref it, .ref rl, .ref fr, .ref li, .ref wa, .ref ld, .int ac, .ref tp, .int tn, .int cu, .int sr, .int tk, .int va, .int ft, .int fA, .int lt, .ref so, .ref ik, .ref kp, .ref kl, .ref tc, .int tt])) (h_rl : f rl = some (oI 48 rho)) (ht : rho 5 = nI tl) (hs0 : ¬ (¬ sx < nI 0 ∧ ¬ (nI tl - nI 1) < sx)) (K1 : Po (some (.int (-1000001))) (fx_up f mo (oO 11 [.int (nI 0), .int sa, .ref la, .ref ma, .ref it, .ref rl, .ref fr, .ref li, .ref wa, .ref ld, .int ac, .ref tp, .int tn, .int cu, .int sr, .int tk, .int va, .int ft, .int fA, .int lt, .ref so, .ref ik, .ref kp, .ref kl, .ref tc, .int tt])) sz) : fx_MP G base l yX12_noEnd cX12_noEnd 9 (some .int) rm_X12_noEnd [.ref mo, .int sx, .int wr, .int aq] f sz Po := by
  refine fx_ofP (by decide +kernel) (Nat.le_of_ble_eq_true rfl) ?_
  intro p e s m args below meth c C hr hk hnm hH ls hl
  obtain ⟨locs, hlocs⟩ : ∃ L : List Loc, L = [] := ⟨_, rfl⟩
  rw [← hlocs] at hH ⊢
  generalize s.heap = H at hH ⊢
  have hx := C.1
  have hb := C.2.1
  have hl : lv_has ls 9 [(0, .ref mo), (1, .int sx), (2, .int wr), (3, .int aq)] := hl
  refine lv_aload_n hx hb dX12_noEnd_0 rfl (lv_at hl 0 rfl) ?_
  refine lv_iconst (v := nI 0) hx hb dX12_noEnd_1 (by decide) ?_
  refine fx_putT C hH (k := 0) h_mo ff_X12_54_11 fL_11 fT_11_0 rfl rfl (Nat.le_of_ble_eq_true rfl) dX12_noEnd_2 (fun H locs hH => ?_)
  have hH : fx_H G base s (fx_up f mo (oO 11 [.int (nI 0), .int sa, .ref la, .ref ma, .ref it, .ref rl, .ref fr, .ref li, .ref wa, .ref ld, .int ac, .ref tp, .int tn, .int cu, .int sr, .int tk, .int va, .int ft, .int fA, .int lt, .ref so, .ref ik, .ref kp, .ref kl, .ref tc, .int tt])) sz H locs := hH
  have h1_rl : (fx_up f mo (oO 11 [.int (nI 0), .int sa, .ref la, .ref ma, .ref it, .ref rl, .ref fr, .ref li, .ref wa, .ref ld, .int ac, .ref tp, .int tn, .int cu, .int sr, .int tk, .int va, .int ft, .int fA, .int lt, .ref so, .ref ik, .ref kp, .ref kl, .ref tc, .int tt])) rl = some (oI 48 rho) := (fx_up_n _ _ (fx_ne h_rl h_mo rfl)).trans h_rl
  have h1_mo : (fx_up f mo (oO 11 [.int (nI 0), .int sa, .ref la, .ref ma, .ref it, .ref rl, .ref fr, .ref li, .ref wa, .ref ld, .int ac, .ref tp, .int tn, .int cu, .int sr, .int tk, .int va, .int ft, .int fA, .int lt, .ref so, .ref ik, .ref kp, .ref kl, .ref tc, .int tt])) mo = some (oO 11 [.int (nI 0), .int sa, .ref la, .ref ma, .ref it, .ref rl, .ref fr, .ref li, .ref wa, .ref ld, .int ac, .ref tp, .int tn, .int cu, .int sr, .int tk, .int va, .int ft, .int fA, .int lt, .ref so, .ref ik, .ref kp, .ref kl, .ref tc, .int tt]) := fx_up_s _ _ _
  refine lv_aload_n hx hb dX12_noEnd_5 rfl (lv_at hl 0 rfl) ?_
  refine lv_iload_n hx hb dX12_noEnd_6 rfl (lv_at hl 1 rfl) ?_
  refine fx_go1 hH (fx_runV C hH hl.1 (As := [.int sx]) (rest := []) (c_X12_isSeeker (G := G) (base := base) (l := l) (f := fx_up f mo (oO 11 [.int (nI 0), .int sa, .ref la, .ref ma, .ref it, .ref rl, .ref fr, .ref li, .ref wa, .ref ld, .int ac, .ref tp, .int tn, .int cu, .int sr, .int tk, .int va, .int ft, .int fA, .int lt, .ref so, .ref ik, .ref kp, .ref kl, .ref tc, .int tt])) (sz := sz) (tl := tl) (mo := mo) (pp := sx) (th := nI 0) (sa := sa) (la := la) (ma := ma) (it := it) (rl := rl) (fr := fr) (li := li) (wa := wa) (ld := ld) (ac := ac) (tp := tp) (tn := tn) (cu := cu) (sr := sr) (tk := tk) (va := va) (ft := ft) (fA := fA) (lt := lt) (so := so) (ik := ik) (kp := kp) (kl := kl) (tc := tc) (tt := tt) (rho := rho) h1_mo h1_rl ht) mY_X12_isSeeker ml_X12_165 im_X12_isSeeker se_X12_X12_isSeeker h1_mo rfl rfl ⟨(Nat.le_of_ble_eq_true rfl), (Nat.le_of_ble_eq_true rfl)⟩ rfl (Nat.le_of_ble_eq_true rfl) ⟨(Nat.le_of_ble_eq_true rfl), (Nat.le_of_ble_eq_true rfl)⟩ dX12_noEnd_7) (fun H locs hH => ?_)
  refine fx_b_eq hx hb (tgt := 32) dX12_noEnd_10 (by decide) (fun c10 => ?_) (fun c10 => absurd c10 (hs0))
  refine lv_ldc (v := (-1000001)) hx hb C.2.2.2.1 (C.2.2.2.2.1 _ kI_X12_74 rfl args) dX12_noEnd_32 ?_
  exact fx_iretP C hr hk hH (K1 ) (Nat.zero_le _) (Nat.zero_le _) dX12_noEnd_34
abbrev rm_X12_pays : Room := { frames := 3, cells := 0, slots := 0, locals := 86 }
set_option maxHeartbeats 4000000 in
set_option maxRecDepth 100000 in
theorem c_X12_pays_n {G : GG} {base : Nat} {l : Launch} {f : Hp} {sz : Nat} {Po : Option Value → Hp → Nat → Prop} {tl : Nat} {mo : Nat} {sx : Int32} {ff : Int32} {th : Int32} {sa : Int32} {la : Nat} {ma : Nat} {it : Nat} {rl : Nat} {fr : Nat} {li : Nat} {wa : Nat} {ld : Nat} {ac : Int32} {tp : Nat} {tn : Int32} {cu : Int32} {sr : Int32} {tk : Int32} {va : Int32} {ft : Int32} {fA : Int32} {lt : Int32} {so : Nat} {ik : Nat} {kp : Nat} {kl : Nat} {tc : Nat} {tt : Int32} {rho : Nat → Int32} (h_mo : f mo = some (oO 11 [.int th, .int sa, .ref la, .ref ma, .ref it, .ref rl, .ref fr, .ref li, .ref wa, .ref ld, .int ac, .ref tp, .int tn, .int cu, .int sr, .int tk, .int va, .int ft, .int fA, .int lt, .ref so, .ref ik, .ref kp, .ref kl, .ref tc, .int tt])) (h_rl : f rl = some (oI 48 rho)) (ht : rho 5 = nI tl) (hs0 : ¬ (¬ sx < nI 0 ∧ ¬ (nI tl - nI 1) < sx)) (K1 : Po (some (.int (-1000001))) (fx_up f mo (oO 11 [.int (nI 0), .int sa, .ref la, .ref ma, .ref it, .ref rl, .ref fr, .ref li, .ref wa, .ref ld, .int ac, .ref tp, .int tn, .int cu, .int sr, .int tk, .int va, .int ft, .int fA, .int lt, .ref so, .ref ik, .ref kp, .ref kl, .ref tc, .int tt])) sz) : fx_MP G base l yX12_pays cX12_pays 8 (some .int) rm_X12_pays [.ref mo, .int sx, .int ff] f sz Po := by
  refine fx_ofP (by decide +kernel) (Nat.le_of_ble_eq_true rfl) ?_
  intro p e s m args below meth c C hr hk hnm hH ls hl
  obtain ⟨locs, hlocs⟩ : ∃ L : List Loc, L = [] := ⟨_, rfl⟩
  rw [← hlocs] at hH ⊢
  generalize s.heap = H at hH ⊢
  have hx := C.1
  have hb := C.2.1
  have hl : lv_has ls 8 [(0, .ref mo), (1, .int sx), (2, .int ff)] := hl
  refine lv_aload_n hx hb dX12_pays_0 rfl (lv_at hl 0 rfl) ?_
  refine lv_iconst (v := nI 0) hx hb dX12_pays_1 (by decide) ?_
  refine fx_putT C hH (k := 0) h_mo ff_X12_54_11 fL_11 fT_11_0 rfl rfl (Nat.le_of_ble_eq_true rfl) dX12_pays_2 (fun H locs hH => ?_)
  have hH : fx_H G base s (fx_up f mo (oO 11 [.int (nI 0), .int sa, .ref la, .ref ma, .ref it, .ref rl, .ref fr, .ref li, .ref wa, .ref ld, .int ac, .ref tp, .int tn, .int cu, .int sr, .int tk, .int va, .int ft, .int fA, .int lt, .ref so, .ref ik, .ref kp, .ref kl, .ref tc, .int tt])) sz H locs := hH
  have h1_rl : (fx_up f mo (oO 11 [.int (nI 0), .int sa, .ref la, .ref ma, .ref it, .ref rl, .ref fr, .ref li, .ref wa, .ref ld, .int ac, .ref tp, .int tn, .int cu, .int sr, .int tk, .int va, .int ft, .int fA, .int lt, .ref so, .ref ik, .ref kp, .ref kl, .ref tc, .int tt])) rl = some (oI 48 rho) := (fx_up_n _ _ (fx_ne h_rl h_mo rfl)).trans h_rl
  have h1_mo : (fx_up f mo (oO 11 [.int (nI 0), .int sa, .ref la, .ref ma, .ref it, .ref rl, .ref fr, .ref li, .ref wa, .ref ld, .int ac, .ref tp, .int tn, .int cu, .int sr, .int tk, .int va, .int ft, .int fA, .int lt, .ref so, .ref ik, .ref kp, .ref kl, .ref tc, .int tt])) mo = some (oO 11 [.int (nI 0), .int sa, .ref la, .ref ma, .ref it, .ref rl, .ref fr, .ref li, .ref wa, .ref ld, .int ac, .ref tp, .int tn, .int cu, .int sr, .int tk, .int va, .int ft, .int fA, .int lt, .ref so, .ref ik, .ref kp, .ref kl, .ref tc, .int tt]) := fx_up_s _ _ _
  refine lv_aload_n hx hb dX12_pays_5 rfl (lv_at hl 0 rfl) ?_
  refine lv_iload_n hx hb dX12_pays_6 rfl (lv_at hl 1 rfl) ?_
  refine fx_go1 hH (fx_runV C hH hl.1 (As := [.int sx]) (rest := []) (c_X12_isSeeker (G := G) (base := base) (l := l) (f := fx_up f mo (oO 11 [.int (nI 0), .int sa, .ref la, .ref ma, .ref it, .ref rl, .ref fr, .ref li, .ref wa, .ref ld, .int ac, .ref tp, .int tn, .int cu, .int sr, .int tk, .int va, .int ft, .int fA, .int lt, .ref so, .ref ik, .ref kp, .ref kl, .ref tc, .int tt])) (sz := sz) (tl := tl) (mo := mo) (pp := sx) (th := nI 0) (sa := sa) (la := la) (ma := ma) (it := it) (rl := rl) (fr := fr) (li := li) (wa := wa) (ld := ld) (ac := ac) (tp := tp) (tn := tn) (cu := cu) (sr := sr) (tk := tk) (va := va) (ft := ft) (fA := fA) (lt := lt) (so := so) (ik := ik) (kp := kp) (kl := kl) (tc := tc) (tt := tt) (rho := rho) h1_mo h1_rl ht) mY_X12_isSeeker ml_X12_165 im_X12_isSeeker se_X12_X12_isSeeker h1_mo rfl rfl ⟨(Nat.le_of_ble_eq_true rfl), (Nat.le_of_ble_eq_true rfl)⟩ rfl (Nat.le_of_ble_eq_true rfl) ⟨(Nat.le_of_ble_eq_true rfl), (Nat.le_of_ble_eq_true rfl)⟩ dX12_pays_7) (fun H locs hH => ?_)
  refine fx_b_eq hx hb (tgt := 25) dX12_pays_10 (by decide) (fun c10 => ?_) (fun c10 => absurd c10 (hs0))
  refine lv_ldc (v := (-1000001)) hx hb C.2.2.2.1 (C.2.2.2.2.1 _ kI_X12_74 rfl args) dX12_pays_25 ?_
  exact fx_iretP C hr hk hH (K1 ) (Nat.zero_le _) (Nat.zero_le _) dX12_pays_27
abbrev rm_X12_rule : Room := { frames := 3, cells := 0, slots := 0, locals := 76 }
set_option maxHeartbeats 4000000 in
set_option maxRecDepth 100000 in
theorem c_X12_rule_n {G : GG} {base : Nat} {l : Launch} {f : Hp} {sz : Nat} {Po : Option Value → Hp → Nat → Prop} {tl : Nat} {mo : Nat} {sx : Int32} {r : Int32} {n : Int32} {m_ : Int32} {wh : Int32} {th : Int32} {sa : Int32} {la : Nat} {ma : Nat} {it : Nat} {rl : Nat} {fr : Nat} {li : Nat} {wa : Nat} {ld : Nat} {ac : Int32} {tp : Nat} {tn : Int32} {cu : Int32} {sr : Int32} {tk : Int32} {va : Int32} {ft : Int32} {fA : Int32} {lt : Int32} {so : Nat} {ik : Nat} {kp : Nat} {kl : Nat} {tc : Nat} {tt : Int32} {rho : Nat → Int32} (h_mo : f mo = some (oO 11 [.int th, .int sa, .ref la, .ref ma, .ref it, .ref rl, .ref fr, .ref li, .ref wa, .ref ld, .int ac, .ref tp, .int tn, .int cu, .int sr, .int tk, .int va, .int ft, .int fA, .int lt, .ref so, .ref ik, .ref kp, .ref kl, .ref tc, .int tt])) (h_rl : f rl = some (oI 48 rho)) (ht : rho 5 = nI tl) (hs0 : ¬ (¬ sx < nI 0 ∧ ¬ (nI tl - nI 1) < sx)) (K1 : Po (some (.long (-1000001))) (fx_up f mo (oO 11 [.int (nI 0), .int sa, .ref la, .ref ma, .ref it, .ref rl, .ref fr, .ref li, .ref wa, .ref ld, .int ac, .ref tp, .int tn, .int cu, .int sr, .int tk, .int va, .int ft, .int fA, .int lt, .ref so, .ref ik, .ref kp, .ref kl, .ref tc, .int tt])) sz) : fx_MP G base l yX12_rule cX12_rule 10 (some .long) rm_X12_rule [.ref mo, .int sx, .int r, .int n, .int m_, .int wh] f sz Po := by
  refine fx_ofP (by decide +kernel) (Nat.le_of_ble_eq_true rfl) ?_
  intro p e s m args below meth c C hr hk hnm hH ls hl
  obtain ⟨locs, hlocs⟩ : ∃ L : List Loc, L = [] := ⟨_, rfl⟩
  rw [← hlocs] at hH ⊢
  generalize s.heap = H at hH ⊢
  have hx := C.1
  have hb := C.2.1
  have hl : lv_has ls 10 [(0, .ref mo), (1, .int sx), (2, .int r), (3, .int n), (4, .int m_), (5, .int wh)] := hl
  refine lv_aload_n hx hb dX12_rule_0 rfl (lv_at hl 0 rfl) ?_
  refine lv_iconst (v := nI 0) hx hb dX12_rule_1 (by decide) ?_
  refine fx_putT C hH (k := 0) h_mo ff_X12_54_11 fL_11 fT_11_0 rfl rfl (Nat.le_of_ble_eq_true rfl) dX12_rule_2 (fun H locs hH => ?_)
  have hH : fx_H G base s (fx_up f mo (oO 11 [.int (nI 0), .int sa, .ref la, .ref ma, .ref it, .ref rl, .ref fr, .ref li, .ref wa, .ref ld, .int ac, .ref tp, .int tn, .int cu, .int sr, .int tk, .int va, .int ft, .int fA, .int lt, .ref so, .ref ik, .ref kp, .ref kl, .ref tc, .int tt])) sz H locs := hH
  have h1_rl : (fx_up f mo (oO 11 [.int (nI 0), .int sa, .ref la, .ref ma, .ref it, .ref rl, .ref fr, .ref li, .ref wa, .ref ld, .int ac, .ref tp, .int tn, .int cu, .int sr, .int tk, .int va, .int ft, .int fA, .int lt, .ref so, .ref ik, .ref kp, .ref kl, .ref tc, .int tt])) rl = some (oI 48 rho) := (fx_up_n _ _ (fx_ne h_rl h_mo rfl)).trans h_rl
  have h1_mo : (fx_up f mo (oO 11 [.int (nI 0), .int sa, .ref la, .ref ma, .ref it, .ref rl, .ref fr, .ref li, .ref wa, .ref ld, .int ac, .ref tp, .int tn, .int cu, .int sr, .int tk, .int va, .int ft, .int fA, .int lt, .ref so, .ref ik, .ref kp, .ref kl, .ref tc, .int tt])) mo = some (oO 11 [.int (nI 0), .int sa, .ref la, .ref ma, .ref it, .ref rl, .ref fr, .ref li, .ref wa, .ref ld, .int ac, .ref tp, .int tn, .int cu, .int sr, .int tk, .int va, .int ft, .int fA, .int lt, .ref so, .ref ik, .ref kp, .ref kl, .ref tc, .int tt]) := fx_up_s _ _ _
  refine lv_aload_n hx hb dX12_rule_5 rfl (lv_at hl 0 rfl) ?_
  refine lv_iload_n hx hb dX12_rule_6 rfl (lv_at hl 1 rfl) ?_
  refine fx_go1 hH (fx_runV C hH hl.1 (As := [.int sx]) (rest := []) (c_X12_isSeeker (G := G) (base := base) (l := l) (f := fx_up f mo (oO 11 [.int (nI 0), .int sa, .ref la, .ref ma, .ref it, .ref rl, .ref fr, .ref li, .ref wa, .ref ld, .int ac, .ref tp, .int tn, .int cu, .int sr, .int tk, .int va, .int ft, .int fA, .int lt, .ref so, .ref ik, .ref kp, .ref kl, .ref tc, .int tt])) (sz := sz) (tl := tl) (mo := mo) (pp := sx) (th := nI 0) (sa := sa) (la := la) (ma := ma) (it := it) (rl := rl) (fr := fr) (li := li) (wa := wa) (ld := ld) (ac := ac) (tp := tp) (tn := tn) (cu := cu) (sr := sr) (tk := tk) (va := va) (ft := ft) (fA := fA) (lt := lt) (so := so) (ik := ik) (kp := kp) (kl := kl) (tc := tc) (tt := tt) (rho := rho) h1_mo h1_rl ht) mY_X12_isSeeker ml_X12_165 im_X12_isSeeker se_X12_X12_isSeeker h1_mo rfl rfl ⟨(Nat.le_of_ble_eq_true rfl), (Nat.le_of_ble_eq_true rfl)⟩ rfl (Nat.le_of_ble_eq_true rfl) ⟨(Nat.le_of_ble_eq_true rfl), (Nat.le_of_ble_eq_true rfl)⟩ dX12_rule_7) (fun H locs hH => ?_)
  refine fx_b_eq hx hb (tgt := 58) dX12_rule_10 (by decide) (fun c10 => ?_) (fun c10 => absurd c10 (hs0))
  refine lv_ldc2 (v := (-1000001)) hx hb C.2.2.2.1 (C.2.2.2.2.1 _ kL_X12_201 rfl args) dX12_rule_58 ?_
  exact fx_lretP C hr hk hH (K1 ) (Nat.zero_le _) (Nat.zero_le _) dX12_rule_61
abbrev rm_X12_search : Room := { frames := 2, cells := 0, slots := 0, locals := 47 }
set_option maxHeartbeats 4000000 in
set_option maxRecDepth 100000 in
theorem c_X12_search_n {G : GG} {base : Nat} {l : Launch} {f : Hp} {sz : Nat} {Po : Option Value → Hp → Nat → Prop} {tl : Nat} {mo : Nat} {sx : Int32} {seed : Int32} {wh : Int32} {th : Int32} {sa : Int32} {la : Nat} {ma : Nat} {it : Nat} {rl : Nat} {fr : Nat} {li : Nat} {wa : Nat} {ld : Nat} {ac : Int32} {tp : Nat} {tn : Int32} {cu : Int32} {sr : Int32} {tk : Int32} {va : Int32} {ft : Int32} {fA : Int32} {lt : Int32} {so : Nat} {ik : Nat} {kp : Nat} {kl : Nat} {tc : Nat} {tt : Int32} {rho : Nat → Int32} (h_mo : f mo = some (oO 11 [.int th, .int sa, .ref la, .ref ma, .ref it, .ref rl, .ref fr, .ref li, .ref wa, .ref ld, .int ac, .ref tp, .int tn, .int cu, .int sr, .int tk, .int va, .int ft, .int fA, .int lt, .ref so, .ref ik, .ref kp, .ref kl, .ref tc, .int tt])) (h_rl : f rl = some (oI 48 rho)) (ht : rho 5 = nI tl) (hs0 : ¬ (¬ sx < nI 0 ∧ ¬ (nI tl - nI 1) < sx)) (K1 : Po (some (.int (-1000001))) (fx_up f mo (oO 11 [.int (nI 0), .int sa, .ref la, .ref ma, .ref it, .ref rl, .ref fr, .ref li, .ref wa, .ref ld, .int ac, .ref tp, .int tn, .int cu, .int sr, .int tk, .int va, .int ft, .int fA, .int lt, .ref so, .ref ik, .ref kp, .ref kl, .ref tc, .int tt])) sz) : fx_MP G base l yX12_search cX12_search 14 (some .int) rm_X12_search [.ref mo, .int sx, .int seed, .int wh] f sz Po := by
  refine fx_ofP (by decide +kernel) (Nat.le_of_ble_eq_true rfl) ?_
  intro p e s m args below meth c C hr hk hnm hH ls hl
  obtain ⟨locs, hlocs⟩ : ∃ L : List Loc, L = [] := ⟨_, rfl⟩
  rw [← hlocs] at hH ⊢
  generalize s.heap = H at hH ⊢
  have hx := C.1
  have hb := C.2.1
  have hl : lv_has ls 14 [(0, .ref mo), (1, .int sx), (2, .int seed), (3, .int wh)] := hl
  refine lv_aload_n hx hb dX12_search_0 rfl (lv_at hl 0 rfl) ?_
  refine lv_iconst (v := nI 0) hx hb dX12_search_1 (by decide) ?_
  refine fx_putT C hH (k := 0) h_mo ff_X12_54_11 fL_11 fT_11_0 rfl rfl (Nat.le_of_ble_eq_true rfl) dX12_search_2 (fun H locs hH => ?_)
  have hH : fx_H G base s (fx_up f mo (oO 11 [.int (nI 0), .int sa, .ref la, .ref ma, .ref it, .ref rl, .ref fr, .ref li, .ref wa, .ref ld, .int ac, .ref tp, .int tn, .int cu, .int sr, .int tk, .int va, .int ft, .int fA, .int lt, .ref so, .ref ik, .ref kp, .ref kl, .ref tc, .int tt])) sz H locs := hH
  have h1_rl : (fx_up f mo (oO 11 [.int (nI 0), .int sa, .ref la, .ref ma, .ref it, .ref rl, .ref fr, .ref li, .ref wa, .ref ld, .int ac, .ref tp, .int tn, .int cu, .int sr, .int tk, .int va, .int ft, .int fA, .int lt, .ref so, .ref ik, .ref kp, .ref kl, .ref tc, .int tt])) rl = some (oI 48 rho) := (fx_up_n _ _ (fx_ne h_rl h_mo rfl)).trans h_rl
  have h1_mo : (fx_up f mo (oO 11 [.int (nI 0), .int sa, .ref la, .ref ma, .ref it, .ref rl, .ref fr, .ref li, .ref wa, .ref ld, .int ac, .ref tp, .int tn, .int cu, .int sr, .int tk, .int va, .int ft, .int fA, .int lt, .ref so, .ref ik, .ref kp, .ref kl, .ref tc, .int tt])) mo = some (oO 11 [.int (nI 0), .int sa, .ref la, .ref ma, .ref it, .ref rl, .ref fr, .ref li, .ref wa, .ref ld, .int ac, .ref tp, .int tn, .int cu, .int sr, .int tk, .int va, .int ft, .int fA, .int lt, .ref so, .ref ik, .ref kp, .ref kl, .ref tc, .int tt]) := fx_up_s _ _ _
  refine lv_aload_n hx hb dX12_search_5 rfl (lv_at hl 0 rfl) ?_
  refine lv_iload_n hx hb dX12_search_6 rfl (lv_at hl 1 rfl) ?_
  refine fx_go1 hH (fx_runV C hH hl.1 (As := [.int sx]) (rest := []) (c_X12_isSeeker (G := G) (base := base) (l := l) (f := fx_up f mo (oO 11 [.int (nI 0), .int sa, .ref la, .ref ma, .ref it, .ref rl, .ref fr, .ref li, .ref wa, .ref ld, .int ac, .ref tp, .int tn, .int cu, .int sr, .int tk, .int va, .int ft, .int fA, .int lt, .ref so, .ref ik, .ref kp, .ref kl, .ref tc, .int tt])) (sz := sz) (tl := tl) (mo := mo) (pp := sx) (th := nI 0) (sa := sa) (la := la) (ma := ma) (it := it) (rl := rl) (fr := fr) (li := li) (wa := wa) (ld := ld) (ac := ac) (tp := tp) (tn := tn) (cu := cu) (sr := sr) (tk := tk) (va := va) (ft := ft) (fA := fA) (lt := lt) (so := so) (ik := ik) (kp := kp) (kl := kl) (tc := tc) (tt := tt) (rho := rho) h1_mo h1_rl ht) mY_X12_isSeeker ml_X12_165 im_X12_isSeeker se_X12_X12_isSeeker h1_mo rfl rfl ⟨(Nat.le_of_ble_eq_true rfl), (Nat.le_of_ble_eq_true rfl)⟩ rfl (Nat.le_of_ble_eq_true rfl) ⟨(Nat.le_of_ble_eq_true rfl), (Nat.le_of_ble_eq_true rfl)⟩ dX12_search_7) (fun H locs hH => ?_)
  refine fx_b_eq hx hb (tgt := 35) dX12_search_10 (by decide) (fun c10 => ?_) (fun c10 => absurd c10 (hs0))
  refine lv_ldc (v := (-1000001)) hx hb C.2.2.2.1 (C.2.2.2.2.1 _ kI_X12_74 rfl args) dX12_search_35 ?_
  exact fx_iretP C hr hk hH (K1 ) (Nat.zero_le _) (Nat.zero_le _) dX12_search_37
set_option maxHeartbeats 4000000 in
set_option maxRecDepth 100000 in
theorem c_X12_meanOf_v {G : GG} {base : Nat} {l : Launch} {f : Hp} {sz : Nat} {K : Nat} {wi : Nat} {ag : Nat} {P : Nat} {sp : Nat} {mo : Nat} {j : Nat} {fr_ : Nat} {wr : Int32} {n : Nat} {th : Int32} {sa : Int32} {la : Nat} {ma : Nat} {it : Nat} {rl : Nat} {fr : Nat} {li : Nat} {wa : Nat} {ld : Nat} {ac : Int32} {tp : Nat} {tn : Int32} {cu : Int32} {sr : Int32} {tk : Int32} {va : Int32} {ft : Int32} {fA : Int32} {lt : Int32} {so : Nat} {ik : Nat} {kp : Nat} {kl : Nat} {tc : Nat} {tt : Int32} {rho : Nat → Int32} {lam : Nat → Int64} (h_mo : f mo = some (oO 11 [.int th, .int sa, .ref la, .ref ma, .ref it, .ref rl, .ref fr, .ref li, .ref wa, .ref ld, .int ac, .ref tp, .int tn, .int cu, .int sr, .int tk, .int va, .int ft, .int fA, .int lt, .ref so, .ref ik, .ref kp, .ref kl, .ref tc, .int tt])) (h_rl : f rl = some (oI 48 rho)) (h_li : f li = some (oJ 13 lam)) (hj : j < 4) (hk0 : rho (36 + (3 * j) + 0) = nI K) (hk1 : rho (36 + (3 * j) + 1) = nI wi) (hk2 : rho (36 + (3 * j) + 2) = nI ag) (hK : 1 ≤ K ∧ K ≤ 5) (hwi : wi ≤ 10) (hag : ag ≤ 10) (hP : rho 0 = nI P) (hP2 : 1 ≤ P ∧ P ≤ 12) (hsp : rho 1 = nI sp) (hst : sp ≤ 9) (hfr : fr_ < P) (hwr : wr = nI 1 ∨ wr = -1) (hn : 1 ≤ n ∧ n ≤ 3) : fx_M G base l yX12_meanOf cX12_meanOf 20 (some .long) rm_X12_meanOf [.ref mo, .int (nI j), .int (nI fr_), .int wr, .int (nI n)] f sz (some (.long (moA lam P sp (feN K wi ag wr) n fr_ wr P))) f sz := by
  refine fx_of (by decide +kernel) (Nat.le_of_ble_eq_true rfl) ?_
  intro p e s m args below meth c C hr hk hnm hH ls hl
  obtain ⟨locs, hlocs⟩ : ∃ L : List Loc, L = [] := ⟨_, rfl⟩
  rw [← hlocs] at hH ⊢
  generalize s.heap = H at hH ⊢
  have hx := C.1
  have hb := C.2.1
  have hl : lv_has ls 20 [(0, .ref mo), (1, .int (nI j)), (2, .int (nI fr_)), (3, .int wr), (4, .int (nI n))] := hl
  have hfl : feN K wi ag wr ≤ 10 := feN_le hwi hag
  have b1 : sT sp (n * P - 1) < 2 ^ 31 := sT_lt hst (by have : n * P ≤ 3 * 12 := Nat.mul_le_mul (by omega) (by omega); omega)
  have b2 : 1 ≤ n * P := Nat.mul_pos (by omega) (by omega)
  have b3 : n * P ≤ 3 * 12 := Nat.mul_le_mul (by omega) (by omega)
  have b7 : 10 ^ n < 2 ^ 63 := p10_lt (by omega)
  refine lv_aload_n hx hb dX12_meanOf_0 rfl (lv_at hl 0 rfl) ?_
  refine fx_get C hH (k := 5) (v := .ref rl) h_mo ff_X12_19_11 rfl dX12_meanOf_1 ?_
  refine lv_iconst (v := nI 0) hx hb dX12_meanOf_4 (by decide) ?_
  refine fx_ialdN C hH h_rl (by omega) (by omega) dX12_meanOf_5 ?_
  refine fx_ti (y := nI P) hP ?_
  refine lv_istore (lv' := [(5, .int (nI P)), (0, .ref mo), (1, .int (nI j)), (2, .int (nI fr_)), (3, .int wr), (4, .int (nI n))]) hx hb dX12_meanOf_6 hl (by decide) rfl (fun ls hl => ?_)
  refine lv_aload_n hx hb dX12_meanOf_8 rfl (lv_at hl 1 rfl) ?_
  refine lv_iload_n hx hb dX12_meanOf_9 rfl (lv_at hl 2 rfl) ?_
  refine lv_iload_n hx hb dX12_meanOf_10 rfl (lv_at hl 4 rfl) ?_
  refine fx_go1 hH (fx_runV C hH hl.1 (As := [.int (nI j), .int wr]) (rest := []) (c_X12_feel (G := G) (base := base) (l := l) (f := f) (sz := sz) (K := K) (wi := wi) (ag := ag) (mo := mo) (j := j) (wy := wr) (th := th) (sa := sa) (la := la) (ma := ma) (it := it) (rl := rl) (fr := fr) (li := li) (wa := wa) (ld := ld) (ac := ac) (tp := tp) (tn := tn) (cu := cu) (sr := sr) (tk := tk) (va := va) (ft := ft) (fA := fA) (lt := lt) (so := so) (ik := ik) (kp := kp) (kl := kl) (tc := tc) (tt := tt) (rho := rho) h_mo h_rl (by omega) hk0 hk1 hk2 (by omega) (by omega) (by omega)) mY_X12_feel ml_X12_162 im_X12_feel se_X12_X12_feel h_mo rfl rfl ⟨(Nat.le_of_ble_eq_true rfl), (Nat.le_of_ble_eq_true rfl)⟩ rfl (Nat.le_of_ble_eq_true rfl) ⟨(Nat.le_of_ble_eq_true rfl), (Nat.le_of_ble_eq_true rfl)⟩ dX12_meanOf_11) (fun H locs hH => ?_)
  refine lv_istore (lv' := [(6, .int (nI (feN K wi ag wr))), (5, .int (nI P)), (0, .ref mo), (1, .int (nI j)), (2, .int (nI fr_)), (3, .int wr), (4, .int (nI n))]) hx hb dX12_meanOf_14 hl (by decide) rfl (fun ls hl => ?_)
  refine lv_lconst (v := lN 1) hx hb dX12_meanOf_16 (by decide) ?_
  refine lv_iload hx hb dX12_meanOf_17 (lv_at hl 6 rfl) ?_
  refine lv_iload hx hb dX12_meanOf_19 (lv_at hl 1 rfl) ?_
  refine lv_imul hx hb dX12_meanOf_21 ?_
  refine fx_ti (y := nI (n * P)) (pk_mul _ _) ?_
  refine lv_iconst (v := nI 1) hx hb dX12_meanOf_22 (by decide) ?_
  refine lv_isub hx hb dX12_meanOf_23 ?_
  refine fx_ti (y := nI ((n * P) - 1)) (pk_sub (by omega)) ?_
  refine lv_i2l (v := lN ((n * P) - 1)) hx hb dX12_meanOf_24 (nI_l (by omega)) ?_
  refine lv_aload_n hx hb dX12_meanOf_25 rfl (lv_at hl 2 rfl) ?_
  refine fx_get C hH (k := 5) (v := .ref rl) h_mo ff_X12_19_11 rfl dX12_meanOf_26 ?_
  refine lv_iconst (v := nI 1) hx hb dX12_meanOf_29 (by decide) ?_
  refine fx_ialdN C hH h_rl (by omega) (by omega) dX12_meanOf_30 ?_
  refine fx_ti (y := nI sp) hsp ?_
  refine lv_iconst (v := nI 1) hx hb dX12_meanOf_31 (by decide) ?_
  refine lv_iadd hx hb dX12_meanOf_32 ?_
  refine fx_ti (y := nI (sp + 1)) (nI_add _ _) ?_
  refine lv_i2l (v := lN (sp + 1)) hx hb dX12_meanOf_33 (nI_l (by omega)) ?_
  refine lv_lmul hx hb dX12_meanOf_34 ?_
  refine fx_tl (y := lN (((n * P) - 1) * (sp + 1))) (lN_mul _ _) ?_
  refine lv_ladd hx hb dX12_meanOf_35 ?_
  refine fx_tl (y := lN (1 + (((n * P) - 1) * (sp + 1)))) (lN_add _ _) ?_
  refine lv_lstore (lv' := [(7, .long (lN (1 + (((n * P) - 1) * (sp + 1))))), (6, .int (nI (feN K wi ag wr))), (5, .int (nI P)), (0, .ref mo), (1, .int (nI j)), (2, .int (nI fr_)), (3, .int wr), (4, .int (nI n))]) hx hb dX12_meanOf_36 hl (by decide) rfl (fun ls hl => ?_)
  refine lv_aload_n hx hb dX12_meanOf_38 rfl (lv_at hl 3 rfl) ?_
  refine fx_get C hH (k := 7) (v := .ref li) h_mo ff_X12_25_11 rfl dX12_meanOf_39 ?_
  refine lv_iload hx hb dX12_meanOf_42 (lv_at hl 2 rfl) ?_
  refine fx_laldN C hH h_li (by omega) (by omega) dX12_meanOf_44 ?_
  refine lv_lload hx hb dX12_meanOf_45 (lv_at hl 0 rfl) ?_
  refine lv_lmul hx hb dX12_meanOf_47 ?_
  refine lv_iload hx hb dX12_meanOf_48 (lv_at hl 7 rfl) ?_
  refine fx_go1 hH (fx_runS C hH hl.1 (As := [.int (nI n)]) (rest := [.long ((lam P) * (lN (1 + (((n * P) - 1) * (sp + 1)))))]) (c_X12_tens (G := G) (base := base) (l := l) (f := f) (sz := sz) (n := n) (by omega)) mY_X12_tens ml_X12_213 st_X12_tens rfl ⟨(Nat.le_of_ble_eq_true rfl), (Nat.le_of_ble_eq_true rfl)⟩ rfl (Nat.le_of_ble_eq_true rfl) ⟨(Nat.le_of_ble_eq_true rfl), (Nat.le_of_ble_eq_true rfl)⟩ dX12_meanOf_50) (fun H locs hH => ?_)
  refine lv_lmul hx hb dX12_meanOf_53 ?_
  refine lv_lstore (lv' := [(9, .long (((lam P) * (lN (1 + (((n * P) - 1) * (sp + 1))))) * (lN (10 ^ n)))), (7, .long (lN (1 + (((n * P) - 1) * (sp + 1))))), (6, .int (nI (feN K wi ag wr))), (5, .int (nI P)), (0, .ref mo), (1, .int (nI j)), (2, .int (nI fr_)), (3, .int wr), (4, .int (nI n))]) hx hb dX12_meanOf_54 hl (by decide) rfl (fun ls hl => ?_)
  refine lv_iconst (v := nI 0) hx hb dX12_meanOf_56 (by decide) ?_
  refine lv_istore (lv' := [(11, .int (nI 0)), (9, .long (((lam P) * (lN (1 + (((n * P) - 1) * (sp + 1))))) * (lN (10 ^ n)))), (7, .long (lN (1 + (((n * P) - 1) * (sp + 1))))), (6, .int (nI (feN K wi ag wr))), (5, .int (nI P)), (0, .ref mo), (1, .int (nI j)), (2, .int (nI fr_)), (3, .int wr), (4, .int (nI n))]) hx hb dX12_meanOf_57 hl (by decide) rfl (fun ls hl => ?_)
  have loop_59 : ∀ (N_59 : Nat) (i : Nat) (hi : i ≤ P) (hm_59 : P - i < N_59) (H : Heap) (locs : List Loc) (hH : fx_H G base s f sz H locs) (ls : Array Slot) (hl : lv_has ls 20 [(0, .ref mo), (1, .int (nI j)), (2, .int (nI fr_)), (3, .int wr), (4, .int (nI n)), (5, .int (nI P)), (6, .int (nI (feN K wi ag wr))), (7, .long (lN (sT sp (n * P - 1)))), (9, .long (moA lam P sp (feN K wi ag wr) n fr_ wr i)), (11, .int (nI i))]), W p l e rm_X12_meanOf s m args below meth c H locs 0 0 (MQ below (fx_Q G base (some (.long (moA lam P sp (feN K wi ag wr) n fr_ wr P))) f sz) args s rm_X12_meanOf.cells rm_X12_meanOf.slots (fun q => base ≤ q)) (F0 m 59 ls []) := by
    intro N_59
    induction N_59 with
    | zero => intro i hi hm_59; exact absurd hm_59 (Nat.not_lt_zero _)
    | succ N_59 ih_59 =>
      intro i hi hm_59 H locs hH ls hl
      have b6 : frN P fr_ wr i < P := frN_lt (by omega)
      refine lv_iload hx hb dX12_meanOf_59 (lv_at hl 9 rfl) ?_
      refine lv_iload hx hb dX12_meanOf_61 (lv_at hl 5 rfl) ?_
      refine fx_N_ge (a := i) (b := P) hx hb (by omega) (by omega) (tgt := 197) dX12_meanOf_63 (by decide) (fun c63 => ?_) (fun c63 => ?_)
      · refine lv_lload hx hb dX12_meanOf_197 (lv_at hl 8 rfl) ?_
        exact fx_lret C hr hk hH (by rw [show i = P from by omega]) rfl rfl (Nat.zero_le _) (Nat.zero_le _) dX12_meanOf_199
      · refine lv_aload_n hx hb dX12_meanOf_66 rfl (lv_at hl 0 rfl) ?_
        refine lv_iload_n hx hb dX12_meanOf_67 rfl (lv_at hl 3 rfl) ?_
        refine lv_iconst (v := nI 1) hx hb dX12_meanOf_68 (by decide) ?_
        refine lv_icmp_ne hx hb (tgt := 79) dX12_meanOf_69 (by decide) (fun c69 => ?_) (fun c69 => ?_)
        · refine lv_iload_n hx hb dX12_meanOf_79 rfl (lv_at hl 2 rfl) ?_
          refine lv_iload hx hb dX12_meanOf_80 (lv_at hl 9 rfl) ?_
          refine lv_isub hx hb dX12_meanOf_82 ?_
          refine fx_go1 hH (fx_runV C hH hl.1 (As := [.int ((nI fr_) - (nI i))]) (rest := []) (c_X12_around (G := G) (base := base) (l := l) (f := f) (sz := sz) (P := P) (mo := mo) (pp := (nI fr_) - (nI i)) (th := th) (sa := sa) (la := la) (ma := ma) (it := it) (rl := rl) (fr := fr) (li := li) (wa := wa) (ld := ld) (ac := ac) (tp := tp) (tn := tn) (cu := cu) (sr := sr) (tk := tk) (va := va) (ft := ft) (fA := fA) (lt := lt) (so := so) (ik := ik) (kp := kp) (kl := kl) (tc := tc) (tt := tt) (rho := rho) h_mo h_rl hP (by omega)) mY_X12_around ml_X12_181 im_X12_around se_X12_X12_around h_mo rfl rfl ⟨(Nat.le_of_ble_eq_true rfl), (Nat.le_of_ble_eq_true rfl)⟩ rfl (Nat.le_of_ble_eq_true rfl) ⟨(Nat.le_of_ble_eq_true rfl), (Nat.le_of_ble_eq_true rfl)⟩ dX12_meanOf_83) (fun H locs hH => ?_)
          refine fx_ti (y := nI (frN P fr_ wr i)) (by rw [frN, if_neg c69]; exact frN_t P (by omega) i (by omega) fr_ hfr) ?_
          refine lv_istore (lv' := [(12, .int (nI (frN P fr_ wr i))), (0, .ref mo), (1, .int (nI j)), (2, .int (nI fr_)), (3, .int wr), (4, .int (nI n)), (5, .int (nI P)), (6, .int (nI (feN K wi ag wr))), (7, .long (lN (sT sp (n * P - 1)))), (9, .long (moA lam P sp (feN K wi ag wr) n fr_ wr i)), (11, .int (nI i))]) hx hb dX12_meanOf_86 hl (by decide) rfl (fun ls hl => ?_)
          refine lv_iload hx hb dX12_meanOf_88 (lv_at hl 5 rfl) ?_
          refine fx_go1 hH (fx_runS C hH hl.1 (As := [.int (nI n)]) (rest := []) (c_X12_tens (G := G) (base := base) (l := l) (f := f) (sz := sz) (n := n) (by omega)) mY_X12_tens ml_X12_213 st_X12_tens rfl ⟨(Nat.le_of_ble_eq_true rfl), (Nat.le_of_ble_eq_true rfl)⟩ rfl (Nat.le_of_ble_eq_true rfl) ⟨(Nat.le_of_ble_eq_true rfl), (Nat.le_of_ble_eq_true rfl)⟩ dX12_meanOf_90) (fun H locs hH => ?_)
          refine lv_lstore (lv' := [(13, .long (lN (10 ^ n))), (12, .int (nI (frN P fr_ wr i))), (0, .ref mo), (1, .int (nI j)), (2, .int (nI fr_)), (3, .int wr), (4, .int (nI n)), (5, .int (nI P)), (6, .int (nI (feN K wi ag wr))), (7, .long (lN (sT sp (n * P - 1)))), (9, .long (moA lam P sp (feN K wi ag wr) n fr_ wr i)), (11, .int (nI i))]) hx hb dX12_meanOf_93 hl (by decide) rfl (fun ls hl => ?_)
          refine lv_lconst (v := lN 0) hx hb dX12_meanOf_95 (by decide) ?_
          refine lv_lstore (lv' := [(15, .long (lN 0)), (13, .long (lN (10 ^ n))), (12, .int (nI (frN P fr_ wr i))), (0, .ref mo), (1, .int (nI j)), (2, .int (nI fr_)), (3, .int wr), (4, .int (nI n)), (5, .int (nI P)), (6, .int (nI (feN K wi ag wr))), (7, .long (lN (sT sp (n * P - 1)))), (9, .long (moA lam P sp (feN K wi ag wr) n fr_ wr i)), (11, .int (nI i))]) hx hb dX12_meanOf_96 hl (by decide) rfl (fun ls hl => ?_)
          refine lv_iconst (v := nI 0) hx hb dX12_meanOf_98 (by decide) ?_
          refine lv_istore (lv' := [(17, .int (nI 0)), (15, .long (lN 0)), (13, .long (lN (10 ^ n))), (12, .int (nI (frN P fr_ wr i))), (0, .ref mo), (1, .int (nI j)), (2, .int (nI fr_)), (3, .int wr), (4, .int (nI n)), (5, .int (nI P)), (6, .int (nI (feN K wi ag wr))), (7, .long (lN (sT sp (n * P - 1)))), (9, .long (moA lam P sp (feN K wi ag wr) n fr_ wr i)), (11, .int (nI i))]) hx hb dX12_meanOf_99 hl (by decide) rfl (fun ls hl => ?_)
          have loop_101 : ∀ (N_101 : Nat) (r_ : Nat) (hr0 : r_ ≤ n) (hm_101 : n - r_ < N_101) (H : Heap) (locs : List Loc) (hH : fx_H G base s f sz H locs) (ls : Array Slot) (hl : lv_has ls 20 [(0, .ref mo), (1, .int (nI j)), (2, .int (nI fr_)), (3, .int wr), (4, .int (nI n)), (5, .int (nI P)), (6, .int (nI (feN K wi ag wr))), (7, .long (lN (sT sp (n * P - 1)))), (9, .long (moA lam P sp (feN K wi ag wr) n fr_ wr i)), (11, .int (nI i)), (12, .int (nI (frN P fr_ wr i))), (13, .long (lN ((mR P sp (frN P fr_ wr i) (feN K wi ag wr) n r_).1))), (15, .long (lN ((mR P sp (frN P fr_ wr i) (feN K wi ag wr) n r_).2))), (17, .int (nI r_))]), W p l e rm_X12_meanOf s m args below meth c H locs 0 0 (MQ below (fx_Q G base (some (.long (moA lam P sp (feN K wi ag wr) n fr_ wr P))) f sz) args s rm_X12_meanOf.cells rm_X12_meanOf.slots (fun q => base ≤ q)) (F0 m 101 ls []) := by
            intro N_101
            induction N_101 with
            | zero => intro r_ hr0 hm_101; exact absurd hm_101 (Nat.not_lt_zero _)
            | succ N_101 ih_101 =>
              intro r_ hr0 hm_101 H locs hH ls hl
              have b4 : r_ * P ≤ 3 * 12 := Nat.mul_le_mul (by omega) (by omega)
              refine lv_iload hx hb dX12_meanOf_101 (lv_at hl 13 rfl) ?_
              refine lv_iload hx hb dX12_meanOf_103 (lv_at hl 4 rfl) ?_
              refine fx_N_ge (a := r_) (b := n) hx hb (by omega) (by omega) (tgt := 170) dX12_meanOf_105 (by decide) (fun c105 => ?_) (fun c105 => ?_)
              · refine lv_lload hx hb dX12_meanOf_170 (lv_at hl 8 rfl) ?_
                refine lv_aload_n hx hb dX12_meanOf_172 rfl (lv_at hl 0 rfl) ?_
                refine fx_get C hH (k := 7) (v := .ref li) h_mo ff_X12_25_11 rfl dX12_meanOf_173 ?_
                refine lv_iload hx hb dX12_meanOf_176 (lv_at hl 9 rfl) ?_
                refine fx_laldN C hH h_li (by omega) (by omega) dX12_meanOf_178 ?_
                refine lv_lload hx hb dX12_meanOf_179 (lv_at hl 12 rfl) ?_
                refine lv_lload hx hb dX12_meanOf_181 (lv_at hl 11 rfl) ?_
                refine lv_lload hx hb dX12_meanOf_183 (lv_at hl 7 rfl) ?_
                refine lv_lmul hx hb dX12_meanOf_185 ?_
                refine fx_tl (y := lN (((mR P sp (frN P fr_ wr i) (feN K wi ag wr) n r_).1) * (sT sp (n * P - 1)))) (lN_mul _ _) ?_
                refine lv_ladd hx hb dX12_meanOf_186 ?_
                refine fx_tl (y := lN ((mR P sp (frN P fr_ wr i) (feN K wi ag wr) n r_).2 + (((mR P sp (frN P fr_ wr i) (feN K wi ag wr) n r_).1) * (sT sp (n * P - 1))))) (lN_add _ _) ?_
                refine lv_lmul hx hb dX12_meanOf_187 ?_
                refine lv_ladd hx hb dX12_meanOf_188 ?_
                refine lv_lstore (lv' := [(9, .long ((moA lam P sp (feN K wi ag wr) n fr_ wr i) + ((lam i) * (lN ((mR P sp (frN P fr_ wr i) (feN K wi ag wr) n r_).2 + (((mR P sp (frN P fr_ wr i) (feN K wi ag wr) n r_).1) * (sT sp (n * P - 1)))))))), (0, .ref mo), (1, .int (nI j)), (2, .int (nI fr_)), (3, .int wr), (4, .int (nI n)), (5, .int (nI P)), (6, .int (nI (feN K wi ag wr))), (7, .long (lN (sT sp (n * P - 1)))), (11, .int (nI i)), (12, .int (nI (frN P fr_ wr i))), (13, .long (lN ((mR P sp (frN P fr_ wr i) (feN K wi ag wr) n r_).1))), (15, .long (lN ((mR P sp (frN P fr_ wr i) (feN K wi ag wr) n r_).2))), (17, .int (nI r_))]) hx hb dX12_meanOf_189 hl (by decide) rfl (fun ls hl => ?_)
                refine lv_iinc (v := nI (i + 1)) (lv' := [(11, .int (nI (i + 1))), (9, .long ((moA lam P sp (feN K wi ag wr) n fr_ wr i) + ((lam i) * (lN ((mR P sp (frN P fr_ wr i) (feN K wi ag wr) n r_).2 + (((mR P sp (frN P fr_ wr i) (feN K wi ag wr) n r_).1) * (sT sp (n * P - 1)))))))), (0, .ref mo), (1, .int (nI j)), (2, .int (nI fr_)), (3, .int wr), (4, .int (nI n)), (5, .int (nI P)), (6, .int (nI (feN K wi ag wr))), (7, .long (lN (sT sp (n * P - 1)))), (12, .int (nI (frN P fr_ wr i))), (13, .long (lN ((mR P sp (frN P fr_ wr i) (feN K wi ag wr) n r_).1))), (15, .long (lN ((mR P sp (frN P fr_ wr i) (feN K wi ag wr) n r_).2))), (17, .int (nI r_))]) hx hb dX12_meanOf_191 hl (k := 9) rfl (nI_1 _) (by decide) rfl (fun ls hl => ?_)
                refine lv_goto (tgt := 59) hx hb dX12_meanOf_194 (by decide) ?_
                have hl : lv_has ls 20 [(0, .ref mo), (1, .int (nI j)), (2, .int (nI fr_)), (3, .int wr), (4, .int (nI n)), (5, .int (nI P)), (6, .int (nI (feN K wi ag wr))), (7, .long (lN (sT sp (n * P - 1)))), (9, .long ((moA lam P sp (feN K wi ag wr) n fr_ wr i) + ((lam i) * (lN ((mR P sp (frN P fr_ wr i) (feN K wi ag wr) n r_).2 + (((mR P sp (frN P fr_ wr i) (feN K wi ag wr) n r_).1) * (sT sp (n * P - 1)))))))), (11, .int (nI (i + 1)))] := lv_sub hl [2, 3, 4, 5, 6, 7, 8, 9, 1, 0] rfl
                have hl : lv_has ls 20 [(0, .ref mo), (1, .int (nI j)), (2, .int (nI fr_)), (3, .int wr), (4, .int (nI n)), (5, .int (nI P)), (6, .int (nI (feN K wi ag wr))), (7, .long (lN (sT sp (n * P - 1)))), (9, .long (moA lam P sp (feN K wi ag wr) n fr_ wr (i + 1))), (11, .int (nI (i + 1)))] := by
                  have hrn : r_ = n := by omega
                  subst hrn
                  exact hl
                exact ih_59 (i + 1) (by omega) (by omega) _ _ hH _ hl
              · refine lv_lconst (v := lN 1) hx hb dX12_meanOf_108 (by decide) ?_
                refine lv_iload hx hb dX12_meanOf_109 (lv_at hl 10 rfl) ?_
                refine lv_iload hx hb dX12_meanOf_111 (lv_at hl 13 rfl) ?_
                refine lv_iload hx hb dX12_meanOf_113 (lv_at hl 5 rfl) ?_
                refine lv_imul hx hb dX12_meanOf_115 ?_
                refine fx_ti (y := nI (r_ * P)) (pk_mul _ _) ?_
                refine lv_iadd hx hb dX12_meanOf_116 ?_
                refine fx_ti (y := nI (frN P fr_ wr i + (r_ * P))) (nI_add _ _) ?_
                refine lv_i2l (v := lN (frN P fr_ wr i + (r_ * P))) hx hb dX12_meanOf_117 (nI_l (by omega)) ?_
                refine lv_aload_n hx hb dX12_meanOf_118 rfl (lv_at hl 0 rfl) ?_
                refine fx_get C hH (k := 5) (v := .ref rl) h_mo ff_X12_19_11 rfl dX12_meanOf_119 ?_
                refine lv_iconst (v := nI 1) hx hb dX12_meanOf_122 (by decide) ?_
                refine fx_ialdN C hH h_rl (by omega) (by omega) dX12_meanOf_123 ?_
                refine fx_ti (y := nI sp) hsp ?_
                refine lv_iconst (v := nI 1) hx hb dX12_meanOf_124 (by decide) ?_
                refine lv_iadd hx hb dX12_meanOf_125 ?_
                refine fx_ti (y := nI (sp + 1)) (nI_add _ _) ?_
                refine lv_i2l (v := lN (sp + 1)) hx hb dX12_meanOf_126 (nI_l (by omega)) ?_
                refine lv_lmul hx hb dX12_meanOf_127 ?_
                refine fx_tl (y := lN ((frN P fr_ wr i + (r_ * P)) * (sp + 1))) (lN_mul _ _) ?_
                refine lv_ladd hx hb dX12_meanOf_128 ?_
                refine fx_tl (y := lN (1 + ((frN P fr_ wr i + (r_ * P)) * (sp + 1)))) (lN_add _ _) ?_
                refine lv_lstore (lv' := [(18, .long (lN (1 + ((frN P fr_ wr i + (r_ * P)) * (sp + 1))))), (0, .ref mo), (1, .int (nI j)), (2, .int (nI fr_)), (3, .int wr), (4, .int (nI n)), (5, .int (nI P)), (6, .int (nI (feN K wi ag wr))), (7, .long (lN (sT sp (n * P - 1)))), (9, .long (moA lam P sp (feN K wi ag wr) n fr_ wr i)), (11, .int (nI i)), (12, .int (nI (frN P fr_ wr i))), (13, .long (lN ((mR P sp (frN P fr_ wr i) (feN K wi ag wr) n r_).1))), (15, .long (lN ((mR P sp (frN P fr_ wr i) (feN K wi ag wr) n r_).2))), (17, .int (nI r_))]) hx hb dX12_meanOf_129 hl (by decide) rfl (fun ls hl => ?_)
                refine lv_lload hx hb dX12_meanOf_131 (lv_at hl 13 rfl) ?_
                refine lv_lload hx hb dX12_meanOf_133 (lv_at hl 12 rfl) ?_
                refine lv_ldc2 (v := (10)) hx hb C.2.2.2.1 (C.2.2.2.2.1 _ kL_X12_203 rfl args) dX12_meanOf_135 ?_
                refine fx_tl (y := lN 10) (by decide) ?_
                refine lv_ldiv hx hb dX12_meanOf_138 (fun q => absurd ((pk_lEQ (b := 0) (by omega) (by omega)).mp q) (by omega)) ?_
                refine fx_tl (y := lN (((mR P sp (frN P fr_ wr i) (feN K wi ag wr) n r_).1) / 10)) (pk_lDiv (by have := mR_le P sp (frN P fr_ wr i) (feN K wi ag wr) n hfl r_; omega) (by omega) (by omega)) ?_
                refine lv_iload hx hb dX12_meanOf_139 (lv_at hl 7 rfl) ?_
                refine lv_i2l (v := lN (feN K wi ag wr)) hx hb dX12_meanOf_141 (nI_l (by omega)) ?_
                refine lv_lmul hx hb dX12_meanOf_142 ?_
                refine fx_tl (y := lN ((((mR P sp (frN P fr_ wr i) (feN K wi ag wr) n r_).1) / 10) * (feN K wi ag wr))) (lN_mul _ _) ?_
                refine lv_lload hx hb dX12_meanOf_143 (lv_at hl 0 rfl) ?_
                refine lv_lmul hx hb dX12_meanOf_145 ?_
                refine fx_tl (y := lN (((((mR P sp (frN P fr_ wr i) (feN K wi ag wr) n r_).1) / 10) * (feN K wi ag wr)) * (1 + ((frN P fr_ wr i + (r_ * P)) * (sp + 1))))) (lN_mul _ _) ?_
                refine lv_ladd hx hb dX12_meanOf_146 ?_
                refine fx_tl (y := lN ((mR P sp (frN P fr_ wr i) (feN K wi ag wr) n r_).2 + (((((mR P sp (frN P fr_ wr i) (feN K wi ag wr) n r_).1) / 10) * (feN K wi ag wr)) * (1 + ((frN P fr_ wr i + (r_ * P)) * (sp + 1)))))) (lN_add _ _) ?_
                refine lv_lstore (lv' := [(15, .long (lN ((mR P sp (frN P fr_ wr i) (feN K wi ag wr) n r_).2 + (((((mR P sp (frN P fr_ wr i) (feN K wi ag wr) n r_).1) / 10) * (feN K wi ag wr)) * (1 + ((frN P fr_ wr i + (r_ * P)) * (sp + 1))))))), (18, .long (lN (1 + ((frN P fr_ wr i + (r_ * P)) * (sp + 1))))), (0, .ref mo), (1, .int (nI j)), (2, .int (nI fr_)), (3, .int wr), (4, .int (nI n)), (5, .int (nI P)), (6, .int (nI (feN K wi ag wr))), (7, .long (lN (sT sp (n * P - 1)))), (9, .long (moA lam P sp (feN K wi ag wr) n fr_ wr i)), (11, .int (nI i)), (12, .int (nI (frN P fr_ wr i))), (13, .long (lN ((mR P sp (frN P fr_ wr i) (feN K wi ag wr) n r_).1))), (17, .int (nI r_))]) hx hb dX12_meanOf_147 hl (by decide) rfl (fun ls hl => ?_)
                refine lv_lload hx hb dX12_meanOf_149 (lv_at hl 13 rfl) ?_
                refine lv_ldc2 (v := (10)) hx hb C.2.2.2.1 (C.2.2.2.2.1 _ kL_X12_203 rfl args) dX12_meanOf_151 ?_
                refine fx_tl (y := lN 10) (by decide) ?_
                refine lv_ldiv hx hb dX12_meanOf_154 (fun q => absurd ((pk_lEQ (b := 0) (by omega) (by omega)).mp q) (by omega)) ?_
                refine fx_tl (y := lN (((mR P sp (frN P fr_ wr i) (feN K wi ag wr) n r_).1) / 10)) (pk_lDiv (by have := mR_le P sp (frN P fr_ wr i) (feN K wi ag wr) n hfl r_; omega) (by omega) (by omega)) ?_
                refine lv_bipush (v := nI 10) hx hb dX12_meanOf_155 (by decide) ?_
                refine lv_iload hx hb dX12_meanOf_157 (lv_at hl 8 rfl) ?_
                refine lv_isub hx hb dX12_meanOf_159 ?_
                refine fx_ti (y := nI (10 - (feN K wi ag wr))) (pk_sub (by omega)) ?_
                refine lv_i2l (v := lN (10 - (feN K wi ag wr))) hx hb dX12_meanOf_160 (nI_l (by omega)) ?_
                refine lv_lmul hx hb dX12_meanOf_161 ?_
                refine fx_tl (y := lN ((((mR P sp (frN P fr_ wr i) (feN K wi ag wr) n r_).1) / 10) * (10 - (feN K wi ag wr)))) (lN_mul _ _) ?_
                refine lv_lstore (lv' := [(13, .long (lN ((((mR P sp (frN P fr_ wr i) (feN K wi ag wr) n r_).1) / 10) * (10 - (feN K wi ag wr))))), (15, .long (lN ((mR P sp (frN P fr_ wr i) (feN K wi ag wr) n r_).2 + (((((mR P sp (frN P fr_ wr i) (feN K wi ag wr) n r_).1) / 10) * (feN K wi ag wr)) * (1 + ((frN P fr_ wr i + (r_ * P)) * (sp + 1))))))), (18, .long (lN (1 + ((frN P fr_ wr i + (r_ * P)) * (sp + 1))))), (0, .ref mo), (1, .int (nI j)), (2, .int (nI fr_)), (3, .int wr), (4, .int (nI n)), (5, .int (nI P)), (6, .int (nI (feN K wi ag wr))), (7, .long (lN (sT sp (n * P - 1)))), (9, .long (moA lam P sp (feN K wi ag wr) n fr_ wr i)), (11, .int (nI i)), (12, .int (nI (frN P fr_ wr i))), (17, .int (nI r_))]) hx hb dX12_meanOf_162 hl (by decide) rfl (fun ls hl => ?_)
                refine lv_iinc (v := nI (r_ + 1)) (lv' := [(17, .int (nI (r_ + 1))), (13, .long (lN ((((mR P sp (frN P fr_ wr i) (feN K wi ag wr) n r_).1) / 10) * (10 - (feN K wi ag wr))))), (15, .long (lN ((mR P sp (frN P fr_ wr i) (feN K wi ag wr) n r_).2 + (((((mR P sp (frN P fr_ wr i) (feN K wi ag wr) n r_).1) / 10) * (feN K wi ag wr)) * (1 + ((frN P fr_ wr i + (r_ * P)) * (sp + 1))))))), (18, .long (lN (1 + ((frN P fr_ wr i + (r_ * P)) * (sp + 1))))), (0, .ref mo), (1, .int (nI j)), (2, .int (nI fr_)), (3, .int wr), (4, .int (nI n)), (5, .int (nI P)), (6, .int (nI (feN K wi ag wr))), (7, .long (lN (sT sp (n * P - 1)))), (9, .long (moA lam P sp (feN K wi ag wr) n fr_ wr i)), (11, .int (nI i)), (12, .int (nI (frN P fr_ wr i)))]) hx hb dX12_meanOf_164 hl (k := 14) rfl (nI_1 _) (by decide) rfl (fun ls hl => ?_)
                refine lv_goto (tgt := 101) hx hb dX12_meanOf_167 (by decide) ?_
                have hl : lv_has ls 20 [(0, .ref mo), (1, .int (nI j)), (2, .int (nI fr_)), (3, .int wr), (4, .int (nI n)), (5, .int (nI P)), (6, .int (nI (feN K wi ag wr))), (7, .long (lN (sT sp (n * P - 1)))), (9, .long (moA lam P sp (feN K wi ag wr) n fr_ wr i)), (11, .int (nI i)), (12, .int (nI (frN P fr_ wr i))), (13, .long (lN ((((mR P sp (frN P fr_ wr i) (feN K wi ag wr) n r_).1) / 10) * (10 - (feN K wi ag wr))))), (15, .long (lN ((mR P sp (frN P fr_ wr i) (feN K wi ag wr) n r_).2 + (((((mR P sp (frN P fr_ wr i) (feN K wi ag wr) n r_).1) / 10) * (feN K wi ag wr)) * (1 + ((frN P fr_ wr i + (r_ * P)) * (sp + 1))))))), (17, .int (nI (r_ + 1)))] := lv_sub hl [4, 5, 6, 7, 8, 9, 10, 11, 12, 13, 14, 1, 2, 0] rfl
                have hl : lv_has ls 20 [(0, .ref mo), (1, .int (nI j)), (2, .int (nI fr_)), (3, .int wr), (4, .int (nI n)), (5, .int (nI P)), (6, .int (nI (feN K wi ag wr))), (7, .long (lN (sT sp (n * P - 1)))), (9, .long (moA lam P sp (feN K wi ag wr) n fr_ wr i)), (11, .int (nI i)), (12, .int (nI (frN P fr_ wr i))), (13, .long (lN ((mR P sp (frN P fr_ wr i) (feN K wi ag wr) n (r_ + 1)).1))), (15, .long (lN ((mR P sp (frN P fr_ wr i) (feN K wi ag wr) n (r_ + 1)).2))), (17, .int (nI (r_ + 1)))] := hl
                exact ih_101 (r_ + 1) (by omega) (by omega) _ _ hH _ hl
          have hl : lv_has ls 20 [(0, .ref mo), (1, .int (nI j)), (2, .int (nI fr_)), (3, .int wr), (4, .int (nI n)), (5, .int (nI P)), (6, .int (nI (feN K wi ag wr))), (7, .long (lN (sT sp (n * P - 1)))), (9, .long (moA lam P sp (feN K wi ag wr) n fr_ wr i)), (11, .int (nI i)), (12, .int (nI (frN P fr_ wr i))), (13, .long (lN (10 ^ n))), (15, .long (lN 0)), (17, .int (nI 0))] := lv_sub hl [4, 5, 6, 7, 8, 9, 10, 11, 12, 13, 3, 2, 1, 0] rfl
          have hl : lv_has ls 20 [(0, .ref mo), (1, .int (nI j)), (2, .int (nI fr_)), (3, .int wr), (4, .int (nI n)), (5, .int (nI P)), (6, .int (nI (feN K wi ag wr))), (7, .long (lN (sT sp (n * P - 1)))), (9, .long (moA lam P sp (feN K wi ag wr) n fr_ wr i)), (11, .int (nI i)), (12, .int (nI (frN P fr_ wr i))), (13, .long (lN ((mR P sp (frN P fr_ wr i) (feN K wi ag wr) n 0).1))), (15, .long (lN ((mR P sp (frN P fr_ wr i) (feN K wi ag wr) n 0).2))), (17, .int (nI 0))] := hl
          exact loop_101 _ 0 (by omega) (Nat.lt_succ_self _) _ _ hH _ hl
        · refine lv_iload hx hb dX12_meanOf_72 (lv_at hl 9 rfl) ?_
          refine lv_iload_n hx hb dX12_meanOf_74 rfl (lv_at hl 2 rfl) ?_
          refine lv_isub hx hb dX12_meanOf_75 ?_
          refine lv_goto (tgt := 83) hx hb dX12_meanOf_76 (by decide) ?_
          refine fx_go1 hH (fx_runV C hH hl.1 (As := [.int ((nI i) - (nI fr_))]) (rest := []) (c_X12_around (G := G) (base := base) (l := l) (f := f) (sz := sz) (P := P) (mo := mo) (pp := (nI i) - (nI fr_)) (th := th) (sa := sa) (la := la) (ma := ma) (it := it) (rl := rl) (fr := fr) (li := li) (wa := wa) (ld := ld) (ac := ac) (tp := tp) (tn := tn) (cu := cu) (sr := sr) (tk := tk) (va := va) (ft := ft) (fA := fA) (lt := lt) (so := so) (ik := ik) (kp := kp) (kl := kl) (tc := tc) (tt := tt) (rho := rho) h_mo h_rl hP (by omega)) mY_X12_around ml_X12_181 im_X12_around se_X12_X12_around h_mo rfl rfl ⟨(Nat.le_of_ble_eq_true rfl), (Nat.le_of_ble_eq_true rfl)⟩ rfl (Nat.le_of_ble_eq_true rfl) ⟨(Nat.le_of_ble_eq_true rfl), (Nat.le_of_ble_eq_true rfl)⟩ dX12_meanOf_83) (fun H locs hH => ?_)
          refine fx_ti (y := nI (frN P fr_ wr i)) (by rw [frN, if_pos c69]; exact frN_t P (by omega) fr_ hfr i (by omega)) ?_
          refine lv_istore (lv' := [(12, .int (nI (frN P fr_ wr i))), (0, .ref mo), (1, .int (nI j)), (2, .int (nI fr_)), (3, .int wr), (4, .int (nI n)), (5, .int (nI P)), (6, .int (nI (feN K wi ag wr))), (7, .long (lN (sT sp (n * P - 1)))), (9, .long (moA lam P sp (feN K wi ag wr) n fr_ wr i)), (11, .int (nI i))]) hx hb dX12_meanOf_86 hl (by decide) rfl (fun ls hl => ?_)
          refine lv_iload hx hb dX12_meanOf_88 (lv_at hl 5 rfl) ?_
          refine fx_go1 hH (fx_runS C hH hl.1 (As := [.int (nI n)]) (rest := []) (c_X12_tens (G := G) (base := base) (l := l) (f := f) (sz := sz) (n := n) (by omega)) mY_X12_tens ml_X12_213 st_X12_tens rfl ⟨(Nat.le_of_ble_eq_true rfl), (Nat.le_of_ble_eq_true rfl)⟩ rfl (Nat.le_of_ble_eq_true rfl) ⟨(Nat.le_of_ble_eq_true rfl), (Nat.le_of_ble_eq_true rfl)⟩ dX12_meanOf_90) (fun H locs hH => ?_)
          refine lv_lstore (lv' := [(13, .long (lN (10 ^ n))), (12, .int (nI (frN P fr_ wr i))), (0, .ref mo), (1, .int (nI j)), (2, .int (nI fr_)), (3, .int wr), (4, .int (nI n)), (5, .int (nI P)), (6, .int (nI (feN K wi ag wr))), (7, .long (lN (sT sp (n * P - 1)))), (9, .long (moA lam P sp (feN K wi ag wr) n fr_ wr i)), (11, .int (nI i))]) hx hb dX12_meanOf_93 hl (by decide) rfl (fun ls hl => ?_)
          refine lv_lconst (v := lN 0) hx hb dX12_meanOf_95 (by decide) ?_
          refine lv_lstore (lv' := [(15, .long (lN 0)), (13, .long (lN (10 ^ n))), (12, .int (nI (frN P fr_ wr i))), (0, .ref mo), (1, .int (nI j)), (2, .int (nI fr_)), (3, .int wr), (4, .int (nI n)), (5, .int (nI P)), (6, .int (nI (feN K wi ag wr))), (7, .long (lN (sT sp (n * P - 1)))), (9, .long (moA lam P sp (feN K wi ag wr) n fr_ wr i)), (11, .int (nI i))]) hx hb dX12_meanOf_96 hl (by decide) rfl (fun ls hl => ?_)
          refine lv_iconst (v := nI 0) hx hb dX12_meanOf_98 (by decide) ?_
          refine lv_istore (lv' := [(17, .int (nI 0)), (15, .long (lN 0)), (13, .long (lN (10 ^ n))), (12, .int (nI (frN P fr_ wr i))), (0, .ref mo), (1, .int (nI j)), (2, .int (nI fr_)), (3, .int wr), (4, .int (nI n)), (5, .int (nI P)), (6, .int (nI (feN K wi ag wr))), (7, .long (lN (sT sp (n * P - 1)))), (9, .long (moA lam P sp (feN K wi ag wr) n fr_ wr i)), (11, .int (nI i))]) hx hb dX12_meanOf_99 hl (by decide) rfl (fun ls hl => ?_)
          have loop_101 : ∀ (N_101 : Nat) (r_ : Nat) (hr0 : r_ ≤ n) (hm_101 : n - r_ < N_101) (H : Heap) (locs : List Loc) (hH : fx_H G base s f sz H locs) (ls : Array Slot) (hl : lv_has ls 20 [(0, .ref mo), (1, .int (nI j)), (2, .int (nI fr_)), (3, .int wr), (4, .int (nI n)), (5, .int (nI P)), (6, .int (nI (feN K wi ag wr))), (7, .long (lN (sT sp (n * P - 1)))), (9, .long (moA lam P sp (feN K wi ag wr) n fr_ wr i)), (11, .int (nI i)), (12, .int (nI (frN P fr_ wr i))), (13, .long (lN ((mR P sp (frN P fr_ wr i) (feN K wi ag wr) n r_).1))), (15, .long (lN ((mR P sp (frN P fr_ wr i) (feN K wi ag wr) n r_).2))), (17, .int (nI r_))]), W p l e rm_X12_meanOf s m args below meth c H locs 0 0 (MQ below (fx_Q G base (some (.long (moA lam P sp (feN K wi ag wr) n fr_ wr P))) f sz) args s rm_X12_meanOf.cells rm_X12_meanOf.slots (fun q => base ≤ q)) (F0 m 101 ls []) := by
            intro N_101
            induction N_101 with
            | zero => intro r_ hr0 hm_101; exact absurd hm_101 (Nat.not_lt_zero _)
            | succ N_101 ih_101 =>
              intro r_ hr0 hm_101 H locs hH ls hl
              have b4 : r_ * P ≤ 3 * 12 := Nat.mul_le_mul (by omega) (by omega)
              refine lv_iload hx hb dX12_meanOf_101 (lv_at hl 13 rfl) ?_
              refine lv_iload hx hb dX12_meanOf_103 (lv_at hl 4 rfl) ?_
              refine fx_N_ge (a := r_) (b := n) hx hb (by omega) (by omega) (tgt := 170) dX12_meanOf_105 (by decide) (fun c105 => ?_) (fun c105 => ?_)
              · refine lv_lload hx hb dX12_meanOf_170 (lv_at hl 8 rfl) ?_
                refine lv_aload_n hx hb dX12_meanOf_172 rfl (lv_at hl 0 rfl) ?_
                refine fx_get C hH (k := 7) (v := .ref li) h_mo ff_X12_25_11 rfl dX12_meanOf_173 ?_
                refine lv_iload hx hb dX12_meanOf_176 (lv_at hl 9 rfl) ?_
                refine fx_laldN C hH h_li (by omega) (by omega) dX12_meanOf_178 ?_
                refine lv_lload hx hb dX12_meanOf_179 (lv_at hl 12 rfl) ?_
                refine lv_lload hx hb dX12_meanOf_181 (lv_at hl 11 rfl) ?_
                refine lv_lload hx hb dX12_meanOf_183 (lv_at hl 7 rfl) ?_
                refine lv_lmul hx hb dX12_meanOf_185 ?_
                refine fx_tl (y := lN (((mR P sp (frN P fr_ wr i) (feN K wi ag wr) n r_).1) * (sT sp (n * P - 1)))) (lN_mul _ _) ?_
                refine lv_ladd hx hb dX12_meanOf_186 ?_
                refine fx_tl (y := lN ((mR P sp (frN P fr_ wr i) (feN K wi ag wr) n r_).2 + (((mR P sp (frN P fr_ wr i) (feN K wi ag wr) n r_).1) * (sT sp (n * P - 1))))) (lN_add _ _) ?_
                refine lv_lmul hx hb dX12_meanOf_187 ?_
                refine lv_ladd hx hb dX12_meanOf_188 ?_
                refine lv_lstore (lv' := [(9, .long ((moA lam P sp (feN K wi ag wr) n fr_ wr i) + ((lam i) * (lN ((mR P sp (frN P fr_ wr i) (feN K wi ag wr) n r_).2 + (((mR P sp (frN P fr_ wr i) (feN K wi ag wr) n r_).1) * (sT sp (n * P - 1)))))))), (0, .ref mo), (1, .int (nI j)), (2, .int (nI fr_)), (3, .int wr), (4, .int (nI n)), (5, .int (nI P)), (6, .int (nI (feN K wi ag wr))), (7, .long (lN (sT sp (n * P - 1)))), (11, .int (nI i)), (12, .int (nI (frN P fr_ wr i))), (13, .long (lN ((mR P sp (frN P fr_ wr i) (feN K wi ag wr) n r_).1))), (15, .long (lN ((mR P sp (frN P fr_ wr i) (feN K wi ag wr) n r_).2))), (17, .int (nI r_))]) hx hb dX12_meanOf_189 hl (by decide) rfl (fun ls hl => ?_)
                refine lv_iinc (v := nI (i + 1)) (lv' := [(11, .int (nI (i + 1))), (9, .long ((moA lam P sp (feN K wi ag wr) n fr_ wr i) + ((lam i) * (lN ((mR P sp (frN P fr_ wr i) (feN K wi ag wr) n r_).2 + (((mR P sp (frN P fr_ wr i) (feN K wi ag wr) n r_).1) * (sT sp (n * P - 1)))))))), (0, .ref mo), (1, .int (nI j)), (2, .int (nI fr_)), (3, .int wr), (4, .int (nI n)), (5, .int (nI P)), (6, .int (nI (feN K wi ag wr))), (7, .long (lN (sT sp (n * P - 1)))), (12, .int (nI (frN P fr_ wr i))), (13, .long (lN ((mR P sp (frN P fr_ wr i) (feN K wi ag wr) n r_).1))), (15, .long (lN ((mR P sp (frN P fr_ wr i) (feN K wi ag wr) n r_).2))), (17, .int (nI r_))]) hx hb dX12_meanOf_191 hl (k := 9) rfl (nI_1 _) (by decide) rfl (fun ls hl => ?_)
                refine lv_goto (tgt := 59) hx hb dX12_meanOf_194 (by decide) ?_
                have hl : lv_has ls 20 [(0, .ref mo), (1, .int (nI j)), (2, .int (nI fr_)), (3, .int wr), (4, .int (nI n)), (5, .int (nI P)), (6, .int (nI (feN K wi ag wr))), (7, .long (lN (sT sp (n * P - 1)))), (9, .long ((moA lam P sp (feN K wi ag wr) n fr_ wr i) + ((lam i) * (lN ((mR P sp (frN P fr_ wr i) (feN K wi ag wr) n r_).2 + (((mR P sp (frN P fr_ wr i) (feN K wi ag wr) n r_).1) * (sT sp (n * P - 1)))))))), (11, .int (nI (i + 1)))] := lv_sub hl [2, 3, 4, 5, 6, 7, 8, 9, 1, 0] rfl
                have hl : lv_has ls 20 [(0, .ref mo), (1, .int (nI j)), (2, .int (nI fr_)), (3, .int wr), (4, .int (nI n)), (5, .int (nI P)), (6, .int (nI (feN K wi ag wr))), (7, .long (lN (sT sp (n * P - 1)))), (9, .long (moA lam P sp (feN K wi ag wr) n fr_ wr (i + 1))), (11, .int (nI (i + 1)))] := by
                  have hrn : r_ = n := by omega
                  subst hrn
                  exact hl
                exact ih_59 (i + 1) (by omega) (by omega) _ _ hH _ hl
              · refine lv_lconst (v := lN 1) hx hb dX12_meanOf_108 (by decide) ?_
                refine lv_iload hx hb dX12_meanOf_109 (lv_at hl 10 rfl) ?_
                refine lv_iload hx hb dX12_meanOf_111 (lv_at hl 13 rfl) ?_
                refine lv_iload hx hb dX12_meanOf_113 (lv_at hl 5 rfl) ?_
                refine lv_imul hx hb dX12_meanOf_115 ?_
                refine fx_ti (y := nI (r_ * P)) (pk_mul _ _) ?_
                refine lv_iadd hx hb dX12_meanOf_116 ?_
                refine fx_ti (y := nI (frN P fr_ wr i + (r_ * P))) (nI_add _ _) ?_
                refine lv_i2l (v := lN (frN P fr_ wr i + (r_ * P))) hx hb dX12_meanOf_117 (nI_l (by omega)) ?_
                refine lv_aload_n hx hb dX12_meanOf_118 rfl (lv_at hl 0 rfl) ?_
                refine fx_get C hH (k := 5) (v := .ref rl) h_mo ff_X12_19_11 rfl dX12_meanOf_119 ?_
                refine lv_iconst (v := nI 1) hx hb dX12_meanOf_122 (by decide) ?_
                refine fx_ialdN C hH h_rl (by omega) (by omega) dX12_meanOf_123 ?_
                refine fx_ti (y := nI sp) hsp ?_
                refine lv_iconst (v := nI 1) hx hb dX12_meanOf_124 (by decide) ?_
                refine lv_iadd hx hb dX12_meanOf_125 ?_
                refine fx_ti (y := nI (sp + 1)) (nI_add _ _) ?_
                refine lv_i2l (v := lN (sp + 1)) hx hb dX12_meanOf_126 (nI_l (by omega)) ?_
                refine lv_lmul hx hb dX12_meanOf_127 ?_
                refine fx_tl (y := lN ((frN P fr_ wr i + (r_ * P)) * (sp + 1))) (lN_mul _ _) ?_
                refine lv_ladd hx hb dX12_meanOf_128 ?_
                refine fx_tl (y := lN (1 + ((frN P fr_ wr i + (r_ * P)) * (sp + 1)))) (lN_add _ _) ?_
                refine lv_lstore (lv' := [(18, .long (lN (1 + ((frN P fr_ wr i + (r_ * P)) * (sp + 1))))), (0, .ref mo), (1, .int (nI j)), (2, .int (nI fr_)), (3, .int wr), (4, .int (nI n)), (5, .int (nI P)), (6, .int (nI (feN K wi ag wr))), (7, .long (lN (sT sp (n * P - 1)))), (9, .long (moA lam P sp (feN K wi ag wr) n fr_ wr i)), (11, .int (nI i)), (12, .int (nI (frN P fr_ wr i))), (13, .long (lN ((mR P sp (frN P fr_ wr i) (feN K wi ag wr) n r_).1))), (15, .long (lN ((mR P sp (frN P fr_ wr i) (feN K wi ag wr) n r_).2))), (17, .int (nI r_))]) hx hb dX12_meanOf_129 hl (by decide) rfl (fun ls hl => ?_)
                refine lv_lload hx hb dX12_meanOf_131 (lv_at hl 13 rfl) ?_
                refine lv_lload hx hb dX12_meanOf_133 (lv_at hl 12 rfl) ?_
                refine lv_ldc2 (v := (10)) hx hb C.2.2.2.1 (C.2.2.2.2.1 _ kL_X12_203 rfl args) dX12_meanOf_135 ?_
                refine fx_tl (y := lN 10) (by decide) ?_
                refine lv_ldiv hx hb dX12_meanOf_138 (fun q => absurd ((pk_lEQ (b := 0) (by omega) (by omega)).mp q) (by omega)) ?_
                refine fx_tl (y := lN (((mR P sp (frN P fr_ wr i) (feN K wi ag wr) n r_).1) / 10)) (pk_lDiv (by have := mR_le P sp (frN P fr_ wr i) (feN K wi ag wr) n hfl r_; omega) (by omega) (by omega)) ?_
                refine lv_iload hx hb dX12_meanOf_139 (lv_at hl 7 rfl) ?_
                refine lv_i2l (v := lN (feN K wi ag wr)) hx hb dX12_meanOf_141 (nI_l (by omega)) ?_
                refine lv_lmul hx hb dX12_meanOf_142 ?_
                refine fx_tl (y := lN ((((mR P sp (frN P fr_ wr i) (feN K wi ag wr) n r_).1) / 10) * (feN K wi ag wr))) (lN_mul _ _) ?_
                refine lv_lload hx hb dX12_meanOf_143 (lv_at hl 0 rfl) ?_
                refine lv_lmul hx hb dX12_meanOf_145 ?_
                refine fx_tl (y := lN (((((mR P sp (frN P fr_ wr i) (feN K wi ag wr) n r_).1) / 10) * (feN K wi ag wr)) * (1 + ((frN P fr_ wr i + (r_ * P)) * (sp + 1))))) (lN_mul _ _) ?_
                refine lv_ladd hx hb dX12_meanOf_146 ?_
                refine fx_tl (y := lN ((mR P sp (frN P fr_ wr i) (feN K wi ag wr) n r_).2 + (((((mR P sp (frN P fr_ wr i) (feN K wi ag wr) n r_).1) / 10) * (feN K wi ag wr)) * (1 + ((frN P fr_ wr i + (r_ * P)) * (sp + 1)))))) (lN_add _ _) ?_
                refine lv_lstore (lv' := [(15, .long (lN ((mR P sp (frN P fr_ wr i) (feN K wi ag wr) n r_).2 + (((((mR P sp (frN P fr_ wr i) (feN K wi ag wr) n r_).1) / 10) * (feN K wi ag wr)) * (1 + ((frN P fr_ wr i + (r_ * P)) * (sp + 1))))))), (18, .long (lN (1 + ((frN P fr_ wr i + (r_ * P)) * (sp + 1))))), (0, .ref mo), (1, .int (nI j)), (2, .int (nI fr_)), (3, .int wr), (4, .int (nI n)), (5, .int (nI P)), (6, .int (nI (feN K wi ag wr))), (7, .long (lN (sT sp (n * P - 1)))), (9, .long (moA lam P sp (feN K wi ag wr) n fr_ wr i)), (11, .int (nI i)), (12, .int (nI (frN P fr_ wr i))), (13, .long (lN ((mR P sp (frN P fr_ wr i) (feN K wi ag wr) n r_).1))), (17, .int (nI r_))]) hx hb dX12_meanOf_147 hl (by decide) rfl (fun ls hl => ?_)
                refine lv_lload hx hb dX12_meanOf_149 (lv_at hl 13 rfl) ?_
                refine lv_ldc2 (v := (10)) hx hb C.2.2.2.1 (C.2.2.2.2.1 _ kL_X12_203 rfl args) dX12_meanOf_151 ?_
                refine fx_tl (y := lN 10) (by decide) ?_
                refine lv_ldiv hx hb dX12_meanOf_154 (fun q => absurd ((pk_lEQ (b := 0) (by omega) (by omega)).mp q) (by omega)) ?_
                refine fx_tl (y := lN (((mR P sp (frN P fr_ wr i) (feN K wi ag wr) n r_).1) / 10)) (pk_lDiv (by have := mR_le P sp (frN P fr_ wr i) (feN K wi ag wr) n hfl r_; omega) (by omega) (by omega)) ?_
                refine lv_bipush (v := nI 10) hx hb dX12_meanOf_155 (by decide) ?_
                refine lv_iload hx hb dX12_meanOf_157 (lv_at hl 8 rfl) ?_
                refine lv_isub hx hb dX12_meanOf_159 ?_
                refine fx_ti (y := nI (10 - (feN K wi ag wr))) (pk_sub (by omega)) ?_
                refine lv_i2l (v := lN (10 - (feN K wi ag wr))) hx hb dX12_meanOf_160 (nI_l (by omega)) ?_
                refine lv_lmul hx hb dX12_meanOf_161 ?_
                refine fx_tl (y := lN ((((mR P sp (frN P fr_ wr i) (feN K wi ag wr) n r_).1) / 10) * (10 - (feN K wi ag wr)))) (lN_mul _ _) ?_
                refine lv_lstore (lv' := [(13, .long (lN ((((mR P sp (frN P fr_ wr i) (feN K wi ag wr) n r_).1) / 10) * (10 - (feN K wi ag wr))))), (15, .long (lN ((mR P sp (frN P fr_ wr i) (feN K wi ag wr) n r_).2 + (((((mR P sp (frN P fr_ wr i) (feN K wi ag wr) n r_).1) / 10) * (feN K wi ag wr)) * (1 + ((frN P fr_ wr i + (r_ * P)) * (sp + 1))))))), (18, .long (lN (1 + ((frN P fr_ wr i + (r_ * P)) * (sp + 1))))), (0, .ref mo), (1, .int (nI j)), (2, .int (nI fr_)), (3, .int wr), (4, .int (nI n)), (5, .int (nI P)), (6, .int (nI (feN K wi ag wr))), (7, .long (lN (sT sp (n * P - 1)))), (9, .long (moA lam P sp (feN K wi ag wr) n fr_ wr i)), (11, .int (nI i)), (12, .int (nI (frN P fr_ wr i))), (17, .int (nI r_))]) hx hb dX12_meanOf_162 hl (by decide) rfl (fun ls hl => ?_)
                refine lv_iinc (v := nI (r_ + 1)) (lv' := [(17, .int (nI (r_ + 1))), (13, .long (lN ((((mR P sp (frN P fr_ wr i) (feN K wi ag wr) n r_).1) / 10) * (10 - (feN K wi ag wr))))), (15, .long (lN ((mR P sp (frN P fr_ wr i) (feN K wi ag wr) n r_).2 + (((((mR P sp (frN P fr_ wr i) (feN K wi ag wr) n r_).1) / 10) * (feN K wi ag wr)) * (1 + ((frN P fr_ wr i + (r_ * P)) * (sp + 1))))))), (18, .long (lN (1 + ((frN P fr_ wr i + (r_ * P)) * (sp + 1))))), (0, .ref mo), (1, .int (nI j)), (2, .int (nI fr_)), (3, .int wr), (4, .int (nI n)), (5, .int (nI P)), (6, .int (nI (feN K wi ag wr))), (7, .long (lN (sT sp (n * P - 1)))), (9, .long (moA lam P sp (feN K wi ag wr) n fr_ wr i)), (11, .int (nI i)), (12, .int (nI (frN P fr_ wr i)))]) hx hb dX12_meanOf_164 hl (k := 14) rfl (nI_1 _) (by decide) rfl (fun ls hl => ?_)
                refine lv_goto (tgt := 101) hx hb dX12_meanOf_167 (by decide) ?_
                have hl : lv_has ls 20 [(0, .ref mo), (1, .int (nI j)), (2, .int (nI fr_)), (3, .int wr), (4, .int (nI n)), (5, .int (nI P)), (6, .int (nI (feN K wi ag wr))), (7, .long (lN (sT sp (n * P - 1)))), (9, .long (moA lam P sp (feN K wi ag wr) n fr_ wr i)), (11, .int (nI i)), (12, .int (nI (frN P fr_ wr i))), (13, .long (lN ((((mR P sp (frN P fr_ wr i) (feN K wi ag wr) n r_).1) / 10) * (10 - (feN K wi ag wr))))), (15, .long (lN ((mR P sp (frN P fr_ wr i) (feN K wi ag wr) n r_).2 + (((((mR P sp (frN P fr_ wr i) (feN K wi ag wr) n r_).1) / 10) * (feN K wi ag wr)) * (1 + ((frN P fr_ wr i + (r_ * P)) * (sp + 1))))))), (17, .int (nI (r_ + 1)))] := lv_sub hl [4, 5, 6, 7, 8, 9, 10, 11, 12, 13, 14, 1, 2, 0] rfl
                have hl : lv_has ls 20 [(0, .ref mo), (1, .int (nI j)), (2, .int (nI fr_)), (3, .int wr), (4, .int (nI n)), (5, .int (nI P)), (6, .int (nI (feN K wi ag wr))), (7, .long (lN (sT sp (n * P - 1)))), (9, .long (moA lam P sp (feN K wi ag wr) n fr_ wr i)), (11, .int (nI i)), (12, .int (nI (frN P fr_ wr i))), (13, .long (lN ((mR P sp (frN P fr_ wr i) (feN K wi ag wr) n (r_ + 1)).1))), (15, .long (lN ((mR P sp (frN P fr_ wr i) (feN K wi ag wr) n (r_ + 1)).2))), (17, .int (nI (r_ + 1)))] := hl
                exact ih_101 (r_ + 1) (by omega) (by omega) _ _ hH _ hl
          have hl : lv_has ls 20 [(0, .ref mo), (1, .int (nI j)), (2, .int (nI fr_)), (3, .int wr), (4, .int (nI n)), (5, .int (nI P)), (6, .int (nI (feN K wi ag wr))), (7, .long (lN (sT sp (n * P - 1)))), (9, .long (moA lam P sp (feN K wi ag wr) n fr_ wr i)), (11, .int (nI i)), (12, .int (nI (frN P fr_ wr i))), (13, .long (lN (10 ^ n))), (15, .long (lN 0)), (17, .int (nI 0))] := lv_sub hl [4, 5, 6, 7, 8, 9, 10, 11, 12, 13, 3, 2, 1, 0] rfl
          have hl : lv_has ls 20 [(0, .ref mo), (1, .int (nI j)), (2, .int (nI fr_)), (3, .int wr), (4, .int (nI n)), (5, .int (nI P)), (6, .int (nI (feN K wi ag wr))), (7, .long (lN (sT sp (n * P - 1)))), (9, .long (moA lam P sp (feN K wi ag wr) n fr_ wr i)), (11, .int (nI i)), (12, .int (nI (frN P fr_ wr i))), (13, .long (lN ((mR P sp (frN P fr_ wr i) (feN K wi ag wr) n 0).1))), (15, .long (lN ((mR P sp (frN P fr_ wr i) (feN K wi ag wr) n 0).2))), (17, .int (nI 0))] := hl
          exact loop_101 _ 0 (by omega) (Nat.lt_succ_self _) _ _ hH _ hl
  have hl : lv_has ls 20 [(0, .ref mo), (1, .int (nI j)), (2, .int (nI fr_)), (3, .int wr), (4, .int (nI n)), (5, .int (nI P)), (6, .int (nI (feN K wi ag wr))), (7, .long (lN (1 + (((n * P) - 1) * (sp + 1))))), (9, .long (((lam P) * (lN (1 + (((n * P) - 1) * (sp + 1))))) * (lN (10 ^ n)))), (11, .int (nI 0))] := lv_sub hl [5, 6, 7, 8, 9, 4, 3, 2, 1, 0] rfl
  have hl : lv_has ls 20 [(0, .ref mo), (1, .int (nI j)), (2, .int (nI fr_)), (3, .int wr), (4, .int (nI n)), (5, .int (nI P)), (6, .int (nI (feN K wi ag wr))), (7, .long (lN (sT sp (n * P - 1)))), (9, .long (moA lam P sp (feN K wi ag wr) n fr_ wr 0)), (11, .int (nI 0))] := hl
  exact loop_59 _ 0 (by omega) (Nat.lt_succ_self _) _ _ hH _ hl
set_option maxHeartbeats 4000000 in
set_option maxRecDepth 100000 in
theorem c_X12_mean_k {G : GG} {base : Nat} {l : Launch} {f : Hp} {sz : Nat} {Po : Option Value → Hp → Nat → Prop} {K : Nat} {wi : Nat} {ag : Nat} {tl : Nat} {P : Nat} {v : Nat → Nat} {ss : Nat → Nat → Int32 → Nat} {sp : Nat} {mo : Nat} {j : Nat} {pp : Int32} {wr : Int32} {n : Int32} {wh : Int32} {th : Int32} {sa : Int32} {la : Nat} {ma : Nat} {it : Nat} {rl : Nat} {fr : Nat} {li : Nat} {wa : Nat} {ld : Nat} {ac : Int32} {tp : Nat} {tn : Int32} {cu : Int32} {sr : Int32} {tk : Int32} {va : Int32} {ft : Int32} {fA : Int32} {lt : Int32} {so : Nat} {ik : Nat} {kp : Nat} {kl : Nat} {tc : Nat} {tt : Int32} {rho : Nat → Int32} {lam : Nat → Int64} (h_mo : f mo = some (oO 11 [.int th, .int sa, .ref la, .ref ma, .ref it, .ref rl, .ref fr, .ref li, .ref wa, .ref ld, .int ac, .ref tp, .int tn, .int cu, .int sr, .int tk, .int va, .int ft, .int fA, .int lt, .ref so, .ref ik, .ref kp, .ref kl, .ref tc, .int tt])) (h_rl : f rl = some (oI 48 rho)) (h_li : f li = some (oJ 13 lam)) (hj : j < tl) (htl : tl ≤ 4) (ht : rho 5 = nI tl) (hk0 : rho (36 + (3 * j) + 0) = nI K) (hk1 : rho (36 + (3 * j) + 1) = nI wi) (hk2 : rho (36 + (3 * j) + 2) = nI ag) (hK : 1 ≤ K ∧ K ≤ 5) (hwi : wi ≤ 10) (hag : ag ≤ 10) (hP : rho 0 = nI P) (hP2 : 4 ≤ P ∧ P ≤ 12) (hv : ∀ i, i ≤ P → lam i = lN (v i)) (hs1 : 0 < sN v (P + 1)) (hs2 : sN v (P + 1) ≤ 117 * 10 ^ 10) (hsp : rho 1 = nI sp) (hst : sp ≤ 9) (hso : ∀ n fr wr, 1 ≤ n → n ≤ 3 → fr < P → (wr = nI 1 ∨ wr = -1) → moA lam P sp (feN K wi ag wr) n fr wr P = lN (ss n fr wr) ∧ ss n fr wr < 2 ^ 63) (K1 : ∀ (c18 : ¬ (¬ pp < nI 0 ∧ ¬ (nI P - nI 1) < pp)), Po (some (.long (-1000001))) (fx_up f mo (oO 11 [.int (nI 0), .int sa, .ref la, .ref ma, .ref it, .ref rl, .ref fr, .ref li, .ref wa, .ref ld, .int ac, .ref tp, .int tn, .int cu, .int sr, .int tk, .int va, .int ft, .int fA, .int lt, .ref so, .ref ik, .ref kp, .ref kl, .ref tc, .int tt])) sz)
    (K2 : ∀ (c18 : (¬ pp < nI 0 ∧ ¬ (nI P - nI 1) < pp)), ∀ (c25 : ¬ (wr = nI 1 ∨ wr = -1)), Po (some (.long (-1000001))) (fx_up f mo (oO 11 [.int (nI 0), .int sa, .ref la, .ref ma, .ref it, .ref rl, .ref fr, .ref li, .ref wa, .ref ld, .int ac, .ref tp, .int tn, .int cu, .int sr, .int tk, .int va, .int ft, .int fA, .int lt, .ref so, .ref ik, .ref kp, .ref kl, .ref tc, .int tt])) sz)
    (K3 : ∀ (c18 : (¬ pp < nI 0 ∧ ¬ (nI P - nI 1) < pp)), ∀ (c25 : (wr = nI 1 ∨ wr = -1)), ∀ (c38 : ¬ (¬ n < nI 1 ∧ ¬ nI 3 < n)), Po (some (.long (-1000001))) (fx_up f mo (oO 11 [.int (nI 0), .int sa, .ref la, .ref ma, .ref it, .ref rl, .ref fr, .ref li, .ref wa, .ref ld, .int ac, .ref tp, .int tn, .int cu, .int sr, .int tk, .int va, .int ft, .int fA, .int lt, .ref so, .ref ik, .ref kp, .ref kl, .ref tc, .int tt])) sz)
    (K4 : ∀ (c18 : (¬ pp < nI 0 ∧ ¬ (nI P - nI 1) < pp)), ∀ (c25 : (wr = nI 1 ∨ wr = -1)), ∀ (c38 : (¬ n < nI 1 ∧ ¬ nI 3 < n)), ∀ (c49 : (¬ wh < nI 0 ∧ ¬ nI 1 < wh)), ∀ (px : Nat), ∀ (hpx : px < P), ∀ (hpe : pp = nI px), ∀ (nz : Nat), ∀ (hnz : 1 ≤ nz), ∀ (hnz2 : nz ≤ 3), ∀ (hne : n = nI nz), ∀ (wz : Nat), ∀ (hwz : wz ≤ 1), ∀ (ewz : wh = nI wz), Po (some (.long (lN ((if wz = 0 then (ss nz px wr) else ((10 ^ nz) * (sN v (P + 1)))) / Nat.gcd (ss nz px wr) ((10 ^ nz) * (sN v (P + 1))))))) (fx_up f mo (oO 11 [.int (nI 0), .int sa, .ref la, .ref ma, .ref it, .ref rl, .ref fr, .ref li, .ref wa, .ref ld, .int ac, .ref tp, .int tn, .int cu, .int sr, .int tk, .int va, .int ft, .int fA, .int lt, .ref so, .ref ik, .ref kp, .ref kl, .ref tc, .int tt])) sz)
    (K5 : ∀ (c18 : (¬ pp < nI 0 ∧ ¬ (nI P - nI 1) < pp)), ∀ (c25 : (wr = nI 1 ∨ wr = -1)), ∀ (c38 : (¬ n < nI 1 ∧ ¬ nI 3 < n)), ∀ (c49 : ¬ (¬ wh < nI 0 ∧ ¬ nI 1 < wh)), Po (some (.long (-1000001))) (fx_up f mo (oO 11 [.int (nI 0), .int sa, .ref la, .ref ma, .ref it, .ref rl, .ref fr, .ref li, .ref wa, .ref ld, .int ac, .ref tp, .int tn, .int cu, .int sr, .int tk, .int va, .int ft, .int fA, .int lt, .ref so, .ref ik, .ref kp, .ref kl, .ref tc, .int tt])) sz) : fx_MP G base l yX12_mean cX12_mean 6 (some .long) rm_X12_mean [.ref mo, .int (nI j), .int pp, .int wr, .int n, .int wh] f sz Po := by
  refine fx_ofP (by decide +kernel) (Nat.le_of_ble_eq_true rfl) ?_
  intro p e s m args below meth c C hr hk hnm hH ls hl
  obtain ⟨locs, hlocs⟩ : ∃ L : List Loc, L = [] := ⟨_, rfl⟩
  rw [← hlocs] at hH ⊢
  generalize s.heap = H at hH ⊢
  have hx := C.1
  have hb := C.2.1
  have hl : lv_has ls 6 [(0, .ref mo), (1, .int (nI j)), (2, .int pp), (3, .int wr), (4, .int n), (5, .int wh)] := hl
  refine lv_aload_n hx hb dX12_mean_0 rfl (lv_at hl 0 rfl) ?_
  refine lv_iconst (v := nI 0) hx hb dX12_mean_1 (by decide) ?_
  refine fx_putT C hH (k := 0) h_mo ff_X12_54_11 fL_11 fT_11_0 rfl rfl (Nat.le_of_ble_eq_true rfl) dX12_mean_2 (fun H locs hH => ?_)
  have hH : fx_H G base s (fx_up f mo (oO 11 [.int (nI 0), .int sa, .ref la, .ref ma, .ref it, .ref rl, .ref fr, .ref li, .ref wa, .ref ld, .int ac, .ref tp, .int tn, .int cu, .int sr, .int tk, .int va, .int ft, .int fA, .int lt, .ref so, .ref ik, .ref kp, .ref kl, .ref tc, .int tt])) sz H locs := hH
  have h1_rl : (fx_up f mo (oO 11 [.int (nI 0), .int sa, .ref la, .ref ma, .ref it, .ref rl, .ref fr, .ref li, .ref wa, .ref ld, .int ac, .ref tp, .int tn, .int cu, .int sr, .int tk, .int va, .int ft, .int fA, .int lt, .ref so, .ref ik, .ref kp, .ref kl, .ref tc, .int tt])) rl = some (oI 48 rho) := (fx_up_n _ _ (fx_ne h_rl h_mo rfl)).trans h_rl
  have h1_li : (fx_up f mo (oO 11 [.int (nI 0), .int sa, .ref la, .ref ma, .ref it, .ref rl, .ref fr, .ref li, .ref wa, .ref ld, .int ac, .ref tp, .int tn, .int cu, .int sr, .int tk, .int va, .int ft, .int fA, .int lt, .ref so, .ref ik, .ref kp, .ref kl, .ref tc, .int tt])) li = some (oJ 13 lam) := (fx_up_n _ _ (fx_ne h_li h_mo rfl)).trans h_li
  have h1_mo : (fx_up f mo (oO 11 [.int (nI 0), .int sa, .ref la, .ref ma, .ref it, .ref rl, .ref fr, .ref li, .ref wa, .ref ld, .int ac, .ref tp, .int tn, .int cu, .int sr, .int tk, .int va, .int ft, .int fA, .int lt, .ref so, .ref ik, .ref kp, .ref kl, .ref tc, .int tt])) mo = some (oO 11 [.int (nI 0), .int sa, .ref la, .ref ma, .ref it, .ref rl, .ref fr, .ref li, .ref wa, .ref ld, .int ac, .ref tp, .int tn, .int cu, .int sr, .int tk, .int va, .int ft, .int fA, .int lt, .ref so, .ref ik, .ref kp, .ref kl, .ref tc, .int tt]) := fx_up_s _ _ _
  refine lv_aload_n hx hb dX12_mean_5 rfl (lv_at hl 0 rfl) ?_
  refine lv_iload_n hx hb dX12_mean_6 rfl (lv_at hl 1 rfl) ?_
  refine fx_go1 hH (fx_runV C hH hl.1 (As := [.int (nI j)]) (rest := []) (c_X12_isSeeker (G := G) (base := base) (l := l) (f := fx_up f mo (oO 11 [.int (nI 0), .int sa, .ref la, .ref ma, .ref it, .ref rl, .ref fr, .ref li, .ref wa, .ref ld, .int ac, .ref tp, .int tn, .int cu, .int sr, .int tk, .int va, .int ft, .int fA, .int lt, .ref so, .ref ik, .ref kp, .ref kl, .ref tc, .int tt])) (sz := sz) (tl := tl) (mo := mo) (pp := nI j) (th := nI 0) (sa := sa) (la := la) (ma := ma) (it := it) (rl := rl) (fr := fr) (li := li) (wa := wa) (ld := ld) (ac := ac) (tp := tp) (tn := tn) (cu := cu) (sr := sr) (tk := tk) (va := va) (ft := ft) (fA := fA) (lt := lt) (so := so) (ik := ik) (kp := kp) (kl := kl) (tc := tc) (tt := tt) (rho := rho) h1_mo h1_rl ht) mY_X12_isSeeker ml_X12_165 im_X12_isSeeker se_X12_X12_isSeeker h1_mo rfl rfl ⟨(Nat.le_of_ble_eq_true rfl), (Nat.le_of_ble_eq_true rfl)⟩ rfl (Nat.le_of_ble_eq_true rfl) ⟨(Nat.le_of_ble_eq_true rfl), (Nat.le_of_ble_eq_true rfl)⟩ dX12_mean_7) (fun H locs hH => ?_)
  refine fx_b_eq hx hb (tgt := 52) dX12_mean_10 (by decide) (fun c10 => absurd c10 (fun z => z (rngS' (by omega) hj))) (fun c10 => ?_)
  refine lv_aload_n hx hb dX12_mean_13 rfl (lv_at hl 0 rfl) ?_
  refine lv_iload_n hx hb dX12_mean_14 rfl (lv_at hl 2 rfl) ?_
  refine fx_go1 hH (fx_runV C hH hl.1 (As := [.int pp]) (rest := []) (c_X12_isPlace (G := G) (base := base) (l := l) (f := fx_up f mo (oO 11 [.int (nI 0), .int sa, .ref la, .ref ma, .ref it, .ref rl, .ref fr, .ref li, .ref wa, .ref ld, .int ac, .ref tp, .int tn, .int cu, .int sr, .int tk, .int va, .int ft, .int fA, .int lt, .ref so, .ref ik, .ref kp, .ref kl, .ref tc, .int tt])) (sz := sz) (P := P) (mo := mo) (pp := pp) (th := nI 0) (sa := sa) (la := la) (ma := ma) (it := it) (rl := rl) (fr := fr) (li := li) (wa := wa) (ld := ld) (ac := ac) (tp := tp) (tn := tn) (cu := cu) (sr := sr) (tk := tk) (va := va) (ft := ft) (fA := fA) (lt := lt) (so := so) (ik := ik) (kp := kp) (kl := kl) (tc := tc) (tt := tt) (rho := rho) h1_mo h1_rl hP) mY_X12_isPlace ml_X12_194 im_X12_isPlace se_X12_X12_isPlace h1_mo rfl rfl ⟨(Nat.le_of_ble_eq_true rfl), (Nat.le_of_ble_eq_true rfl)⟩ rfl (Nat.le_of_ble_eq_true rfl) ⟨(Nat.le_of_ble_eq_true rfl), (Nat.le_of_ble_eq_true rfl)⟩ dX12_mean_15) (fun H locs hH => ?_)
  refine fx_b_eq hx hb (tgt := 52) dX12_mean_18 (by decide) (fun c18 => ?_) (fun c18 => ?_)
  · refine lv_ldc2 (v := (-1000001)) hx hb C.2.2.2.1 (C.2.2.2.2.1 _ kL_X12_201 rfl args) dX12_mean_52 ?_
    exact fx_lretP C hr hk hH (K1 c18) (Nat.zero_le _) (Nat.zero_le _) dX12_mean_55
  · refine lv_iload_n hx hb dX12_mean_21 rfl (lv_at hl 3 rfl) ?_
    refine fx_go1 hH (fx_runS C hH hl.1 (As := [.int wr]) (rest := []) (c_X12_isWay (G := G) (base := base) (l := l) (f := fx_up f mo (oO 11 [.int (nI 0), .int sa, .ref la, .ref ma, .ref it, .ref rl, .ref fr, .ref li, .ref wa, .ref ld, .int ac, .ref tp, .int tn, .int cu, .int sr, .int tk, .int va, .int ft, .int fA, .int lt, .ref so, .ref ik, .ref kp, .ref kl, .ref tc, .int tt])) (sz := sz) (w := wr) ) mY_X12_isWay ml_X12_217 st_X12_isWay rfl ⟨(Nat.le_of_ble_eq_true rfl), (Nat.le_of_ble_eq_true rfl)⟩ rfl (Nat.le_of_ble_eq_true rfl) ⟨(Nat.le_of_ble_eq_true rfl), (Nat.le_of_ble_eq_true rfl)⟩ dX12_mean_22) (fun H locs hH => ?_)
    refine fx_b_eq hx hb (tgt := 52) dX12_mean_25 (by decide) (fun c25 => ?_) (fun c25 => ?_)
    · refine lv_ldc2 (v := (-1000001)) hx hb C.2.2.2.1 (C.2.2.2.2.1 _ kL_X12_201 rfl args) dX12_mean_52 ?_
      exact fx_lretP C hr hk hH (K2 c18 c25) (Nat.zero_le _) (Nat.zero_le _) dX12_mean_55
    · refine lv_iload hx hb dX12_mean_28 (lv_at hl 4 rfl) ?_
      refine lv_i2l (v := n.toInt64) hx hb dX12_mean_30 rfl ?_
      refine lv_lconst (v := lN 1) hx hb dX12_mean_31 (by decide) ?_
      refine lv_ldc2 (v := (3)) hx hb C.2.2.2.1 (C.2.2.2.2.1 _ kL_X12_199 rfl args) dX12_mean_32 ?_
      refine fx_tl (y := lN 3) (by decide) ?_
      refine fx_go1 hH (fx_runS C hH hl.1 (As := [.long n.toInt64, .long (lN 1), .long (lN 3)]) (rest := []) (c_X12_in_i (G := G) (base := base) (l := l) (f := fx_up f mo (oO 11 [.int (nI 0), .int sa, .ref la, .ref ma, .ref it, .ref rl, .ref fr, .ref li, .ref wa, .ref ld, .int ac, .ref tp, .int tn, .int cu, .int sr, .int tk, .int va, .int ft, .int fA, .int lt, .ref so, .ref ik, .ref kp, .ref kl, .ref tc, .int tt])) (sz := sz) (x := n) (lo := 1) (hi := 3) (by omega) (by omega)) mY_X12_in ml_X12_64 st_X12_in rfl ⟨(Nat.le_of_ble_eq_true rfl), (Nat.le_of_ble_eq_true rfl)⟩ rfl (Nat.le_of_ble_eq_true rfl) ⟨(Nat.le_of_ble_eq_true rfl), (Nat.le_of_ble_eq_true rfl)⟩ dX12_mean_35) (fun H locs hH => ?_)
      refine fx_b_eq hx hb (tgt := 52) dX12_mean_38 (by decide) (fun c38 => ?_) (fun c38 => ?_)
      · refine lv_ldc2 (v := (-1000001)) hx hb C.2.2.2.1 (C.2.2.2.2.1 _ kL_X12_201 rfl args) dX12_mean_52 ?_
        exact fx_lretP C hr hk hH (K3 c18 c25 c38) (Nat.zero_le _) (Nat.zero_le _) dX12_mean_55
      · refine lv_iload hx hb dX12_mean_41 (lv_at hl 5 rfl) ?_
        refine lv_i2l (v := wh.toInt64) hx hb dX12_mean_43 rfl ?_
        refine lv_lconst (v := lN 0) hx hb dX12_mean_44 (by decide) ?_
        refine lv_lconst (v := lN 1) hx hb dX12_mean_45 (by decide) ?_
        refine fx_go1 hH (fx_runS C hH hl.1 (As := [.long wh.toInt64, .long (lN 0), .long (lN 1)]) (rest := []) (c_X12_in_i (G := G) (base := base) (l := l) (f := fx_up f mo (oO 11 [.int (nI 0), .int sa, .ref la, .ref ma, .ref it, .ref rl, .ref fr, .ref li, .ref wa, .ref ld, .int ac, .ref tp, .int tn, .int cu, .int sr, .int tk, .int va, .int ft, .int fA, .int lt, .ref so, .ref ik, .ref kp, .ref kl, .ref tc, .int tt])) (sz := sz) (x := wh) (lo := 0) (hi := 1) (by omega) (by omega)) mY_X12_in ml_X12_64 st_X12_in rfl ⟨(Nat.le_of_ble_eq_true rfl), (Nat.le_of_ble_eq_true rfl)⟩ rfl (Nat.le_of_ble_eq_true rfl) ⟨(Nat.le_of_ble_eq_true rfl), (Nat.le_of_ble_eq_true rfl)⟩ dX12_mean_46) (fun H locs hH => ?_)
        refine fx_b_ne hx hb (tgt := 56) dX12_mean_49 (by decide) (fun c49 => ?_) (fun c49 => ?_)
        · obtain ⟨px, hpx, rfl⟩ := rngS (by omega) c18
          obtain ⟨nz, hnz, hnz2, rfl⟩ := rng1 (M := 1) (N := 3) (by omega) (by omega) c38
          obtain ⟨wz, hwz, rfl⟩ := rng (N := 1) (by omega) c49.1 c49.2
          have hso := hso nz px wr hnz hnz2 hpx c25
          have h10 : 10 ^ nz ≤ 10 ^ 3 := Nat.pow_le_pow_right (by omega) hnz2
          have h10p : 0 < 10 ^ nz := Nat.pow_pos (by omega)
          have hbb : 10 ^ nz * sN v (P + 1) ≤ 10 ^ 3 * (117 * 10 ^ 10) := Nat.mul_le_mul h10 hs2
          have hbp : 0 < 10 ^ nz * sN v (P + 1) := Nat.mul_pos h10p hs1
          · skip
            refine lv_aload_n hx hb dX12_mean_56 rfl (lv_at hl 0 rfl) ?_
            refine lv_iload_n hx hb dX12_mean_57 rfl (lv_at hl 1 rfl) ?_
            refine lv_iload_n hx hb dX12_mean_58 rfl (lv_at hl 2 rfl) ?_
            refine lv_iload_n hx hb dX12_mean_59 rfl (lv_at hl 3 rfl) ?_
            refine lv_iload hx hb dX12_mean_60 (lv_at hl 4 rfl) ?_
            refine fx_go1 hH (fx_runV C hH hl.1 (As := [.int (nI j), .int (nI px), .int wr, .int (nI nz)]) (rest := []) (c_X12_meanOf_v (G := G) (base := base) (l := l) (f := fx_up f mo (oO 11 [.int (nI 0), .int sa, .ref la, .ref ma, .ref it, .ref rl, .ref fr, .ref li, .ref wa, .ref ld, .int ac, .ref tp, .int tn, .int cu, .int sr, .int tk, .int va, .int ft, .int fA, .int lt, .ref so, .ref ik, .ref kp, .ref kl, .ref tc, .int tt])) (sz := sz) (K := K) (wi := wi) (ag := ag) (P := P) (sp := sp) (mo := mo) (j := j) (fr_ := px) (wr := wr) (n := nz) (th := nI 0) (sa := sa) (la := la) (ma := ma) (it := it) (rl := rl) (fr := fr) (li := li) (wa := wa) (ld := ld) (ac := ac) (tp := tp) (tn := tn) (cu := cu) (sr := sr) (tk := tk) (va := va) (ft := ft) (fA := fA) (lt := lt) (so := so) (ik := ik) (kp := kp) (kl := kl) (tc := tc) (tt := tt) (rho := rho) (lam := lam) h1_mo h1_rl h1_li (by omega) hk0 hk1 hk2 (by omega) (by omega) (by omega) hP (by omega) hsp (by omega) (by omega) c25 (by omega)) mY_X12_meanOf ml_X12_220 im_X12_meanOf se_X12_X12_meanOf h1_mo rfl rfl ⟨(Nat.le_of_ble_eq_true rfl), (Nat.le_of_ble_eq_true rfl)⟩ rfl (Nat.le_of_ble_eq_true rfl) ⟨(Nat.le_of_ble_eq_true rfl), (Nat.le_of_ble_eq_true rfl)⟩ dX12_mean_62) (fun H locs hH => ?_)
            refine fx_tl (y := lN (ss nz px wr)) hso.1 ?_
            refine lv_iload hx hb dX12_mean_65 (lv_at hl 4 rfl) ?_
            refine fx_go1 hH (fx_runS C hH hl.1 (As := [.int (nI nz)]) (rest := [.long (lN (ss nz px wr))]) (c_X12_tens (G := G) (base := base) (l := l) (f := fx_up f mo (oO 11 [.int (nI 0), .int sa, .ref la, .ref ma, .ref it, .ref rl, .ref fr, .ref li, .ref wa, .ref ld, .int ac, .ref tp, .int tn, .int cu, .int sr, .int tk, .int va, .int ft, .int fA, .int lt, .ref so, .ref ik, .ref kp, .ref kl, .ref tc, .int tt])) (sz := sz) (n := nz) (by omega)) mY_X12_tens ml_X12_213 st_X12_tens rfl ⟨(Nat.le_of_ble_eq_true rfl), (Nat.le_of_ble_eq_true rfl)⟩ rfl (Nat.le_of_ble_eq_true rfl) ⟨(Nat.le_of_ble_eq_true rfl), (Nat.le_of_ble_eq_true rfl)⟩ dX12_mean_67) (fun H locs hH => ?_)
            refine lv_aload_n hx hb dX12_mean_70 rfl (lv_at hl 0 rfl) ?_
            refine fx_go1 hH (fx_runV C hH hl.1 (As := []) (rest := [.long (lN (10 ^ nz)), .long (lN (ss nz px wr))]) (c_X12_allLike (G := G) (base := base) (l := l) (f := fx_up f mo (oO 11 [.int (nI 0), .int sa, .ref la, .ref ma, .ref it, .ref rl, .ref fr, .ref li, .ref wa, .ref ld, .int ac, .ref tp, .int tn, .int cu, .int sr, .int tk, .int va, .int ft, .int fA, .int lt, .ref so, .ref ik, .ref kp, .ref kl, .ref tc, .int tt])) (sz := sz) (P := P) (mo := mo) (th := nI 0) (sa := sa) (la := la) (ma := ma) (it := it) (rl := rl) (fr := fr) (li := li) (wa := wa) (ld := ld) (ac := ac) (tp := tp) (tn := tn) (cu := cu) (sr := sr) (tk := tk) (va := va) (ft := ft) (fA := fA) (lt := lt) (so := so) (ik := ik) (kp := kp) (kl := kl) (tc := tc) (tt := tt) (rho := rho) (lam := lam) h1_mo h1_rl h1_li hP (by omega)) mY_X12_allLike ml_X12_205 im_X12_allLike se_X12_X12_allLike h1_mo rfl rfl ⟨(Nat.le_of_ble_eq_true rfl), (Nat.le_of_ble_eq_true rfl)⟩ rfl (Nat.le_of_ble_eq_true rfl) ⟨(Nat.le_of_ble_eq_true rfl), (Nat.le_of_ble_eq_true rfl)⟩ dX12_mean_71) (fun H locs hH => ?_)
            refine fx_tl (y := lN (sN v (P + 1))) (sJ_N (fun i hi => hv i (by omega))) ?_
            refine lv_lmul hx hb dX12_mean_74 ?_
            refine fx_tl (y := lN ((10 ^ nz) * (sN v (P + 1)))) (lN_mul _ _) ?_
            refine lv_iload hx hb dX12_mean_75 (lv_at hl 5 rfl) ?_
            refine fx_go1 hH (fx_runS C hH hl.1 (As := [.long (lN (ss nz px wr)), .long (lN ((10 ^ nz) * (sN v (P + 1)))), .int (nI wz)]) (rest := []) (c_X12_part (G := G) (base := base) (l := l) (f := fx_up f mo (oO 11 [.int (nI 0), .int sa, .ref la, .ref ma, .ref it, .ref rl, .ref fr, .ref li, .ref wa, .ref ld, .int ac, .ref tp, .int tn, .int cu, .int sr, .int tk, .int va, .int ft, .int fA, .int lt, .ref so, .ref ik, .ref kp, .ref kl, .ref tc, .int tt])) (sz := sz) (aa_ := ss nz px wr) (bb := (10 ^ nz) * (sN v (P + 1))) (wh := wz) (by omega) (by omega) (by omega) (Nat.gcd_pos_of_pos_right _ (by omega))) mY_X12_part ml_X12_209 st_X12_part rfl ⟨(Nat.le_of_ble_eq_true rfl), (Nat.le_of_ble_eq_true rfl)⟩ rfl (Nat.le_of_ble_eq_true rfl) ⟨(Nat.le_of_ble_eq_true rfl), (Nat.le_of_ble_eq_true rfl)⟩ dX12_mean_77) (fun H locs hH => ?_)
            exact fx_lretP C hr hk hH (K4 c18 c25 c38 c49 px hpx rfl nz hnz hnz2 rfl wz hwz rfl) (Nat.zero_le _) (Nat.zero_le _) dX12_mean_80
        · refine lv_ldc2 (v := (-1000001)) hx hb C.2.2.2.1 (C.2.2.2.2.1 _ kL_X12_201 rfl args) dX12_mean_52 ?_
          exact fx_lretP C hr hk hH (K5 c18 c25 c38 c49) (Nat.zero_le _) (Nat.zero_le _) dX12_mean_55
set_option maxHeartbeats 4000000 in
set_option maxRecDepth 100000 in
theorem c_X12_begin_k {G : GG} {base : Nat} {l : Launch} {f : Hp} {sz : Nat} {Po : Option Value → Hp → Nat → Prop} {K : Nat} {wi : Nat} {ag : Nat} {tl : Nat} {P : Nat} {sp : Nat} {mo : Nat} {j : Nat} {n : Int32} {th : Int32} {sa : Int32} {la : Nat} {ma : Nat} {it : Nat} {rl : Nat} {fr : Nat} {li : Nat} {wa : Nat} {ld : Nat} {ac : Int32} {tp : Nat} {tn : Int32} {cu : Int32} {sr : Int32} {tk : Int32} {va : Int32} {ft : Int32} {fA : Int32} {lt : Int32} {so : Nat} {ik : Nat} {kp : Nat} {kl : Nat} {tc : Nat} {tt : Int32} {rho : Nat → Int32} {lam : Nat → Int64} (h_mo : f mo = some (oO 11 [.int th, .int sa, .ref la, .ref ma, .ref it, .ref rl, .ref fr, .ref li, .ref wa, .ref ld, .int ac, .ref tp, .int tn, .int cu, .int sr, .int tk, .int va, .int ft, .int fA, .int lt, .ref so, .ref ik, .ref kp, .ref kl, .ref tc, .int tt])) (h_rl : f rl = some (oI 48 rho)) (h_li : f li = some (oJ 13 lam)) (hj : j < tl) (htl : tl ≤ 4) (ht : rho 5 = nI tl) (hk0 : rho (36 + (3 * j) + 0) = nI K) (hk1 : rho (36 + (3 * j) + 1) = nI wi) (hk2 : rho (36 + (3 * j) + 2) = nI ag) (hK : 1 ≤ K ∧ K ≤ 5) (hwi : wi ≤ 10) (hag : ag ≤ 10) (hP : rho 0 = nI P) (hP2 : 4 ≤ P ∧ P ≤ 12) (hsp : rho 1 = nI sp) (hst : sp ≤ 9) (K1 : ∀ (c22 : (¬ n < nI 1 ∧ ¬ nI 3 < n)), ∀ (nz : Nat), ∀ (hnz : 1 ≤ nz), ∀ (hnz2 : nz ≤ 3), ∀ (enz : n = nI nz), ∀ (i1 : Nat), ∀ (hi2 : i1 ≤ 2 * P), ∀ (c47 : (2 * P) ≤ i1), Po (some (.int ((bgO (fun k_ => moA lam P sp (feN K wi ag (if k_ % 2 = 0 then nI 1 else -1)) nz (k_ / 2) (if k_ % 2 = 0 then nI 1 else -1) P) i1).1))) (fx_up f mo (oO 11 [.int (nI 0), .int sa, .ref la, .ref ma, .ref it, .ref rl, .ref fr, .ref li, .ref wa, .ref ld, .int ac, .ref tp, .int tn, .int cu, .int sr, .int tk, .int va, .int ft, .int fA, .int lt, .ref so, .ref ik, .ref kp, .ref kl, .ref tc, .int tt])) sz)
    (K2 : ∀ (c22 : ¬ (¬ n < nI 1 ∧ ¬ nI 3 < n)), Po (some (.int (-1000001))) (fx_up f mo (oO 11 [.int (nI 0), .int sa, .ref la, .ref ma, .ref it, .ref rl, .ref fr, .ref li, .ref wa, .ref ld, .int ac, .ref tp, .int tn, .int cu, .int sr, .int tk, .int va, .int ft, .int fA, .int lt, .ref so, .ref ik, .ref kp, .ref kl, .ref tc, .int tt])) sz) : fx_MP G base l yX12_begin cX12_begin 9 (some .int) rm_X12_begin [.ref mo, .int (nI j), .int n] f sz Po := by
  refine fx_ofP (by decide +kernel) (Nat.le_of_ble_eq_true rfl) ?_
  intro p e s m args below meth c C hr hk hnm hH ls hl
  obtain ⟨locs, hlocs⟩ : ∃ L : List Loc, L = [] := ⟨_, rfl⟩
  rw [← hlocs] at hH ⊢
  generalize s.heap = H at hH ⊢
  have hx := C.1
  have hb := C.2.1
  have hl : lv_has ls 9 [(0, .ref mo), (1, .int (nI j)), (2, .int n)] := hl
  refine lv_aload_n hx hb dX12_begin_0 rfl (lv_at hl 0 rfl) ?_
  refine lv_iconst (v := nI 0) hx hb dX12_begin_1 (by decide) ?_
  refine fx_putT C hH (k := 0) h_mo ff_X12_54_11 fL_11 fT_11_0 rfl rfl (Nat.le_of_ble_eq_true rfl) dX12_begin_2 (fun H locs hH => ?_)
  have hH : fx_H G base s (fx_up f mo (oO 11 [.int (nI 0), .int sa, .ref la, .ref ma, .ref it, .ref rl, .ref fr, .ref li, .ref wa, .ref ld, .int ac, .ref tp, .int tn, .int cu, .int sr, .int tk, .int va, .int ft, .int fA, .int lt, .ref so, .ref ik, .ref kp, .ref kl, .ref tc, .int tt])) sz H locs := hH
  have h1_rl : (fx_up f mo (oO 11 [.int (nI 0), .int sa, .ref la, .ref ma, .ref it, .ref rl, .ref fr, .ref li, .ref wa, .ref ld, .int ac, .ref tp, .int tn, .int cu, .int sr, .int tk, .int va, .int ft, .int fA, .int lt, .ref so, .ref ik, .ref kp, .ref kl, .ref tc, .int tt])) rl = some (oI 48 rho) := (fx_up_n _ _ (fx_ne h_rl h_mo rfl)).trans h_rl
  have h1_li : (fx_up f mo (oO 11 [.int (nI 0), .int sa, .ref la, .ref ma, .ref it, .ref rl, .ref fr, .ref li, .ref wa, .ref ld, .int ac, .ref tp, .int tn, .int cu, .int sr, .int tk, .int va, .int ft, .int fA, .int lt, .ref so, .ref ik, .ref kp, .ref kl, .ref tc, .int tt])) li = some (oJ 13 lam) := (fx_up_n _ _ (fx_ne h_li h_mo rfl)).trans h_li
  have h1_mo : (fx_up f mo (oO 11 [.int (nI 0), .int sa, .ref la, .ref ma, .ref it, .ref rl, .ref fr, .ref li, .ref wa, .ref ld, .int ac, .ref tp, .int tn, .int cu, .int sr, .int tk, .int va, .int ft, .int fA, .int lt, .ref so, .ref ik, .ref kp, .ref kl, .ref tc, .int tt])) mo = some (oO 11 [.int (nI 0), .int sa, .ref la, .ref ma, .ref it, .ref rl, .ref fr, .ref li, .ref wa, .ref ld, .int ac, .ref tp, .int tn, .int cu, .int sr, .int tk, .int va, .int ft, .int fA, .int lt, .ref so, .ref ik, .ref kp, .ref kl, .ref tc, .int tt]) := fx_up_s _ _ _
  refine lv_aload_n hx hb dX12_begin_5 rfl (lv_at hl 0 rfl) ?_
  refine lv_iload_n hx hb dX12_begin_6 rfl (lv_at hl 1 rfl) ?_
  refine fx_go1 hH (fx_runV C hH hl.1 (As := [.int (nI j)]) (rest := []) (c_X12_isSeeker (G := G) (base := base) (l := l) (f := fx_up f mo (oO 11 [.int (nI 0), .int sa, .ref la, .ref ma, .ref it, .ref rl, .ref fr, .ref li, .ref wa, .ref ld, .int ac, .ref tp, .int tn, .int cu, .int sr, .int tk, .int va, .int ft, .int fA, .int lt, .ref so, .ref ik, .ref kp, .ref kl, .ref tc, .int tt])) (sz := sz) (tl := tl) (mo := mo) (pp := nI j) (th := nI 0) (sa := sa) (la := la) (ma := ma) (it := it) (rl := rl) (fr := fr) (li := li) (wa := wa) (ld := ld) (ac := ac) (tp := tp) (tn := tn) (cu := cu) (sr := sr) (tk := tk) (va := va) (ft := ft) (fA := fA) (lt := lt) (so := so) (ik := ik) (kp := kp) (kl := kl) (tc := tc) (tt := tt) (rho := rho) h1_mo h1_rl ht) mY_X12_isSeeker ml_X12_165 im_X12_isSeeker se_X12_X12_isSeeker h1_mo rfl rfl ⟨(Nat.le_of_ble_eq_true rfl), (Nat.le_of_ble_eq_true rfl)⟩ rfl (Nat.le_of_ble_eq_true rfl) ⟨(Nat.le_of_ble_eq_true rfl), (Nat.le_of_ble_eq_true rfl)⟩ dX12_begin_7) (fun H locs hH => ?_)
  refine fx_b_eq hx hb (tgt := 25) dX12_begin_10 (by decide) (fun c10 => absurd c10 (fun z => z (rngS' (by omega) hj))) (fun c10 => ?_)
  refine lv_iload_n hx hb dX12_begin_13 rfl (lv_at hl 2 rfl) ?_
  refine lv_i2l (v := n.toInt64) hx hb dX12_begin_14 rfl ?_
  refine lv_lconst (v := lN 1) hx hb dX12_begin_15 (by decide) ?_
  refine lv_ldc2 (v := (3)) hx hb C.2.2.2.1 (C.2.2.2.2.1 _ kL_X12_199 rfl args) dX12_begin_16 ?_
  refine fx_tl (y := lN 3) (by decide) ?_
  refine fx_go1 hH (fx_runS C hH hl.1 (As := [.long n.toInt64, .long (lN 1), .long (lN 3)]) (rest := []) (c_X12_in_i (G := G) (base := base) (l := l) (f := fx_up f mo (oO 11 [.int (nI 0), .int sa, .ref la, .ref ma, .ref it, .ref rl, .ref fr, .ref li, .ref wa, .ref ld, .int ac, .ref tp, .int tn, .int cu, .int sr, .int tk, .int va, .int ft, .int fA, .int lt, .ref so, .ref ik, .ref kp, .ref kl, .ref tc, .int tt])) (sz := sz) (x := n) (lo := 1) (hi := 3) (by omega) (by omega)) mY_X12_in ml_X12_64 st_X12_in rfl ⟨(Nat.le_of_ble_eq_true rfl), (Nat.le_of_ble_eq_true rfl)⟩ rfl (Nat.le_of_ble_eq_true rfl) ⟨(Nat.le_of_ble_eq_true rfl), (Nat.le_of_ble_eq_true rfl)⟩ dX12_begin_19) (fun H locs hH => ?_)
  refine fx_b_ne hx hb (tgt := 28) dX12_begin_22 (by decide) (fun c22 => ?_) (fun c22 => ?_)
  · obtain ⟨nz, hnz, hnz2, rfl⟩ := rng1 (M := 1) (N := 3) (by omega) (by omega) c22
    · skip
      refine lv_ldc (v := (-1000000)) hx hb C.2.2.2.1 (C.2.2.2.2.1 _ kI_X12_97 rfl args) dX12_begin_28 ?_
      refine lv_istore_n (lv' := [(3, .int (-1000000)), (0, .ref mo), (1, .int (nI j)), (2, .int (nI nz))]) hx hb dX12_begin_30 rfl hl (by decide) rfl (fun ls hl => ?_)
      refine lv_lconst (v := lN 0) hx hb dX12_begin_31 (by decide) ?_
      refine lv_lstore (lv' := [(4, .long (lN 0)), (3, .int (-1000000)), (0, .ref mo), (1, .int (nI j)), (2, .int (nI nz))]) hx hb dX12_begin_32 hl (by decide) rfl (fun ls hl => ?_)
      refine lv_iconst (v := nI 0) hx hb dX12_begin_34 (by decide) ?_
      refine lv_istore (lv' := [(6, .int (nI 0)), (4, .long (lN 0)), (3, .int (-1000000)), (0, .ref mo), (1, .int (nI j)), (2, .int (nI nz))]) hx hb dX12_begin_35 hl (by decide) rfl (fun ls hl => ?_)
      have loop_37 : ∀ (N_37 : Nat) (i1 : Nat) (hi2 : i1 ≤ 2 * P) (hm_37 : 2 * P - i1 < N_37) (H : Heap) (locs : List Loc) (hH : fx_H G base s (fx_up f mo (oO 11 [.int (nI 0), .int sa, .ref la, .ref ma, .ref it, .ref rl, .ref fr, .ref li, .ref wa, .ref ld, .int ac, .ref tp, .int tn, .int cu, .int sr, .int tk, .int va, .int ft, .int fA, .int lt, .ref so, .ref ik, .ref kp, .ref kl, .ref tc, .int tt])) sz H locs) (ls : Array Slot) (hl : lv_has ls 9 [(0, .ref mo), (1, .int (nI j)), (2, .int (nI nz)), (3, .int ((bgO (fun k_ => moA lam P sp (feN K wi ag (if k_ % 2 = 0 then nI 1 else -1)) nz (k_ / 2) (if k_ % 2 = 0 then nI 1 else -1) P) i1).1)), (4, .long ((bgO (fun k_ => moA lam P sp (feN K wi ag (if k_ % 2 = 0 then nI 1 else -1)) nz (k_ / 2) (if k_ % 2 = 0 then nI 1 else -1) P) i1).2)), (6, .int (nI i1))]), W p l e rm_X12_begin s m args below meth c H locs 0 0 (MQ below (fx_QP G base Po) args s rm_X12_begin.cells rm_X12_begin.slots (fun q => base ≤ q)) (F0 m 37 ls []) := by
        intro N_37
        induction N_37 with
        | zero => intro i1 hi2 hm_37; exact absurd hm_37 (Nat.not_lt_zero _)
        | succ N_37 ih_37 =>
          intro i1 hi2 hm_37 H locs hH ls hl
          refine lv_iload hx hb dX12_begin_37 (lv_at hl 5 rfl) ?_
          refine lv_iconst (v := nI 2) hx hb dX12_begin_39 (by decide) ?_
          refine lv_aload_n hx hb dX12_begin_40 rfl (lv_at hl 0 rfl) ?_
          refine fx_get C hH (k := 5) (v := .ref rl) h1_mo ff_X12_19_11 rfl dX12_begin_41 ?_
          refine lv_iconst (v := nI 0) hx hb dX12_begin_44 (by decide) ?_
          refine fx_ialdN C hH h1_rl (by omega) (by omega) dX12_begin_45 ?_
          refine fx_ti (y := nI P) hP ?_
          refine lv_imul hx hb dX12_begin_46 ?_
          refine fx_ti (y := nI (2 * P)) (pk_mul _ _) ?_
          refine fx_N_ge (a := i1) (b := 2 * P) hx hb (by omega) (by omega) (tgt := 101) dX12_begin_47 (by decide) (fun c47 => ?_) (fun c47 => ?_)
          · refine lv_iload_n hx hb dX12_begin_101 rfl (lv_at hl 3 rfl) ?_
            exact fx_iretP C hr hk hH (K1 c22 nz hnz hnz2 rfl i1 hi2 c47) (Nat.zero_le _) (Nat.zero_le _) dX12_begin_102
          · refine lv_aload_n hx hb dX12_begin_50 rfl (lv_at hl 0 rfl) ?_
            refine lv_iload_n hx hb dX12_begin_51 rfl (lv_at hl 1 rfl) ?_
            refine lv_iload hx hb dX12_begin_52 (lv_at hl 5 rfl) ?_
            refine lv_iconst (v := nI 2) hx hb dX12_begin_54 (by decide) ?_
            refine lv_idiv hx hb dX12_begin_55 (fun q => absurd ((nI_eq (b := 0) (by omega) (by omega)).mp q) (by omega)) ?_
            refine fx_ti (y := nI (i1 / 2)) (pk_div (by omega) (by omega) (by omega)) ?_
            refine lv_iload hx hb dX12_begin_56 (lv_at hl 5 rfl) ?_
            refine lv_iconst (v := nI 2) hx hb dX12_begin_58 (by decide) ?_
            refine lv_irem hx hb dX12_begin_59 (fun q => absurd ((nI_eq (b := 0) (by omega) (by omega)).mp q) (by omega)) ?_
            refine fx_ti (y := nI (i1 % 2)) (pk_rem (by omega) (by omega) (by omega)) ?_
            refine fx_O_ne (a := i1 % 2) hx hb (by omega) (tgt := 67) dX12_begin_60 (by decide) (fun c60 => ?_) (fun c60 => ?_)
            · refine lv_iconst (v := (-1)) hx hb dX12_begin_67 (by decide) ?_
              refine lv_iload_n hx hb dX12_begin_68 rfl (lv_at hl 2 rfl) ?_
              refine fx_go1 hH (fx_runV C hH hl.1 (As := [.int (nI j), .int (nI (i1 / 2)), .int (-1), .int (nI nz)]) (rest := []) (c_X12_meanOf_v (G := G) (base := base) (l := l) (f := fx_up f mo (oO 11 [.int (nI 0), .int sa, .ref la, .ref ma, .ref it, .ref rl, .ref fr, .ref li, .ref wa, .ref ld, .int ac, .ref tp, .int tn, .int cu, .int sr, .int tk, .int va, .int ft, .int fA, .int lt, .ref so, .ref ik, .ref kp, .ref kl, .ref tc, .int tt])) (sz := sz) (K := K) (wi := wi) (ag := ag) (P := P) (sp := sp) (mo := mo) (j := j) (fr_ := i1 / 2) (wr := (-1)) (n := nz) (th := nI 0) (sa := sa) (la := la) (ma := ma) (it := it) (rl := rl) (fr := fr) (li := li) (wa := wa) (ld := ld) (ac := ac) (tp := tp) (tn := tn) (cu := cu) (sr := sr) (tk := tk) (va := va) (ft := ft) (fA := fA) (lt := lt) (so := so) (ik := ik) (kp := kp) (kl := kl) (tc := tc) (tt := tt) (rho := rho) (lam := lam) h1_mo h1_rl h1_li (by omega) hk0 hk1 hk2 (by omega) (by omega) (by omega) hP (by omega) hsp (by omega) (by omega) (Or.inr rfl) (by omega)) mY_X12_meanOf ml_X12_220 im_X12_meanOf se_X12_X12_meanOf h1_mo rfl rfl ⟨(Nat.le_of_ble_eq_true rfl), (Nat.le_of_ble_eq_true rfl)⟩ rfl (Nat.le_of_ble_eq_true rfl) ⟨(Nat.le_of_ble_eq_true rfl), (Nat.le_of_ble_eq_true rfl)⟩ dX12_begin_69) (fun H locs hH => ?_)
              refine lv_lstore (lv' := [(7, .long (moA lam P sp (feN K wi ag (-1)) nz (i1 / 2) (-1) P)), (0, .ref mo), (1, .int (nI j)), (2, .int (nI nz)), (3, .int ((bgO (fun k_ => moA lam P sp (feN K wi ag (if k_ % 2 = 0 then nI 1 else -1)) nz (k_ / 2) (if k_ % 2 = 0 then nI 1 else -1) P) i1).1)), (4, .long ((bgO (fun k_ => moA lam P sp (feN K wi ag (if k_ % 2 = 0 then nI 1 else -1)) nz (k_ / 2) (if k_ % 2 = 0 then nI 1 else -1) P) i1).2)), (6, .int (nI i1))]) hx hb dX12_begin_72 hl (by decide) rfl (fun ls hl => ?_)
              refine lv_iload_n hx hb dX12_begin_74 rfl (lv_at hl 4 rfl) ?_
              refine lv_ldc (v := (-1000000)) hx hb C.2.2.2.1 (C.2.2.2.2.1 _ kI_X12_97 rfl args) dX12_begin_75 ?_
              refine lv_icmp_eq hx hb (tgt := 88) dX12_begin_77 (by decide) (fun c77 => ?_) (fun c77 => ?_)
              · refine lv_iload hx hb dX12_begin_88 (lv_at hl 6 rfl) ?_
                refine lv_istore_n (lv' := [(3, .int (nI i1)), (7, .long (moA lam P sp (feN K wi ag (-1)) nz (i1 / 2) (-1) P)), (0, .ref mo), (1, .int (nI j)), (2, .int (nI nz)), (4, .long ((bgO (fun k_ => moA lam P sp (feN K wi ag (if k_ % 2 = 0 then nI 1 else -1)) nz (k_ / 2) (if k_ % 2 = 0 then nI 1 else -1) P) i1).2)), (6, .int (nI i1))]) hx hb dX12_begin_90 rfl hl (by decide) rfl (fun ls hl => ?_)
                refine lv_lload hx hb dX12_begin_91 (lv_at hl 1 rfl) ?_
                refine lv_lstore (lv' := [(4, .long (moA lam P sp (feN K wi ag (-1)) nz (i1 / 2) (-1) P)), (3, .int (nI i1)), (7, .long (moA lam P sp (feN K wi ag (-1)) nz (i1 / 2) (-1) P)), (0, .ref mo), (1, .int (nI j)), (2, .int (nI nz)), (6, .int (nI i1))]) hx hb dX12_begin_93 hl (by decide) rfl (fun ls hl => ?_)
                refine lv_iinc (v := nI (i1 + 1)) (lv' := [(6, .int (nI (i1 + 1))), (4, .long (moA lam P sp (feN K wi ag (-1)) nz (i1 / 2) (-1) P)), (3, .int (nI i1)), (7, .long (moA lam P sp (feN K wi ag (-1)) nz (i1 / 2) (-1) P)), (0, .ref mo), (1, .int (nI j)), (2, .int (nI nz))]) hx hb dX12_begin_95 hl (k := 6) rfl (nI_1 _) (by decide) rfl (fun ls hl => ?_)
                refine lv_goto (tgt := 37) hx hb dX12_begin_98 (by decide) ?_
                have hl : lv_has ls 9 [(0, .ref mo), (1, .int (nI j)), (2, .int (nI nz)), (3, .int (nI i1)), (4, .long (moA lam P sp (feN K wi ag (-1)) nz (i1 / 2) (-1) P)), (6, .int (nI (i1 + 1)))] := lv_sub hl [4, 5, 6, 2, 1, 0] rfl
                have hl : lv_has ls 9 [(0, .ref mo), (1, .int (nI j)), (2, .int (nI nz)), (3, .int ((bgO (fun k_ => moA lam P sp (feN K wi ag (if k_ % 2 = 0 then nI 1 else -1)) nz (k_ / 2) (if k_ % 2 = 0 then nI 1 else -1) P) (i1 + 1)).1)), (4, .long ((bgO (fun k_ => moA lam P sp (feN K wi ag (if k_ % 2 = 0 then nI 1 else -1)) nz (k_ / 2) (if k_ % 2 = 0 then nI 1 else -1) P) (i1 + 1)).2)), (6, .int (nI (i1 + 1)))] := by
                  have h0 : i1 = 0 := by
                    cases i1 with
                    | zero => rfl
                    | succ i0 => exact absurd c77 (nI_none (by have := bgS_lt (mn := (fun k_ => moA lam P sp (feN K wi ag (if k_ % 2 = 0 then nI 1 else -1)) nz (k_ / 2) (if k_ % 2 = 0 then nI 1 else -1) P)) i0; omega))
                  subst h0
                  exact absurd rfl c60
                exact ih_37 (i1 + 1) (by omega) (by omega) _ _ hH _ hl
              · refine lv_lload hx hb dX12_begin_80 (lv_at hl 0 rfl) ?_
                refine lv_lload hx hb dX12_begin_82 (lv_at hl 5 rfl) ?_
                refine W.lcmp hx hb dX12_begin_84 ?_
                refine fx_J_ge hx hb (tgt := 95) dX12_begin_85 (by decide) (fun c85 => ?_) (fun c85 => ?_)
                · refine lv_iinc (v := nI (i1 + 1)) (lv' := [(6, .int (nI (i1 + 1))), (7, .long (moA lam P sp (feN K wi ag (-1)) nz (i1 / 2) (-1) P)), (0, .ref mo), (1, .int (nI j)), (2, .int (nI nz)), (3, .int ((bgO (fun k_ => moA lam P sp (feN K wi ag (if k_ % 2 = 0 then nI 1 else -1)) nz (k_ / 2) (if k_ % 2 = 0 then nI 1 else -1) P) i1).1)), (4, .long ((bgO (fun k_ => moA lam P sp (feN K wi ag (if k_ % 2 = 0 then nI 1 else -1)) nz (k_ / 2) (if k_ % 2 = 0 then nI 1 else -1) P) i1).2))]) hx hb dX12_begin_95 hl (k := 6) rfl (nI_1 _) (by decide) rfl (fun ls hl => ?_)
                  refine lv_goto (tgt := 37) hx hb dX12_begin_98 (by decide) ?_
                  have hl : lv_has ls 9 [(0, .ref mo), (1, .int (nI j)), (2, .int (nI nz)), (3, .int ((bgO (fun k_ => moA lam P sp (feN K wi ag (if k_ % 2 = 0 then nI 1 else -1)) nz (k_ / 2) (if k_ % 2 = 0 then nI 1 else -1) P) i1).1)), (4, .long ((bgO (fun k_ => moA lam P sp (feN K wi ag (if k_ % 2 = 0 then nI 1 else -1)) nz (k_ / 2) (if k_ % 2 = 0 then nI 1 else -1) P) i1).2)), (6, .int (nI (i1 + 1)))] := lv_sub hl [2, 3, 4, 5, 6, 0] rfl
                  have hl : lv_has ls 9 [(0, .ref mo), (1, .int (nI j)), (2, .int (nI nz)), (3, .int ((bgO (fun k_ => moA lam P sp (feN K wi ag (if k_ % 2 = 0 then nI 1 else -1)) nz (k_ / 2) (if k_ % 2 = 0 then nI 1 else -1) P) (i1 + 1)).1)), (4, .long ((bgO (fun k_ => moA lam P sp (feN K wi ag (if k_ % 2 = 0 then nI 1 else -1)) nz (k_ / 2) (if k_ % 2 = 0 then nI 1 else -1) P) (i1 + 1)).2)), (6, .int (nI (i1 + 1)))] := by
                    obtain ⟨i0, rfl⟩ : ∃ i0, i1 = i0 + 1 := ⟨i1 - 1, by cases i1 with | zero => exact absurd rfl c77 | succ i0 => rfl⟩
                    have e_ : bgO (fun k_ => moA lam P sp (feN K wi ag (if k_ % 2 = 0 then nI 1 else -1)) nz (k_ / 2) (if k_ % 2 = 0 then nI 1 else -1) P) (i0 + 1 + 1) = bgO (fun k_ => moA lam P sp (feN K wi ag (if k_ % 2 = 0 then nI 1 else -1)) nz (k_ / 2) (if k_ % 2 = 0 then nI 1 else -1) P) (i0 + 1) := by
                      show (nI (bgS (fun k_ => moA lam P sp (feN K wi ag (if k_ % 2 = 0 then nI 1 else -1)) nz (k_ / 2) (if k_ % 2 = 0 then nI 1 else -1) P) (i0 + 1)).1, (bgS (fun k_ => moA lam P sp (feN K wi ag (if k_ % 2 = 0 then nI 1 else -1)) nz (k_ / 2) (if k_ % 2 = 0 then nI 1 else -1) P) (i0 + 1)).2) = (nI (bgS (fun k_ => moA lam P sp (feN K wi ag (if k_ % 2 = 0 then nI 1 else -1)) nz (k_ / 2) (if k_ % 2 = 0 then nI 1 else -1) P) i0).1, (bgS (fun k_ => moA lam P sp (feN K wi ag (if k_ % 2 = 0 then nI 1 else -1)) nz (k_ / 2) (if k_ % 2 = 0 then nI 1 else -1) P) i0).2)
                      rw [bgS, if_neg (by simp only [if_neg c60]; exact fun q9 => absurd c85 (fx_nle q9))]
                    rw [e_]
                    exact hl
                  exact ih_37 (i1 + 1) (by omega) (by omega) _ _ hH _ hl
                · refine lv_iload hx hb dX12_begin_88 (lv_at hl 6 rfl) ?_
                  refine lv_istore_n (lv' := [(3, .int (nI i1)), (7, .long (moA lam P sp (feN K wi ag (-1)) nz (i1 / 2) (-1) P)), (0, .ref mo), (1, .int (nI j)), (2, .int (nI nz)), (4, .long ((bgO (fun k_ => moA lam P sp (feN K wi ag (if k_ % 2 = 0 then nI 1 else -1)) nz (k_ / 2) (if k_ % 2 = 0 then nI 1 else -1) P) i1).2)), (6, .int (nI i1))]) hx hb dX12_begin_90 rfl hl (by decide) rfl (fun ls hl => ?_)
                  refine lv_lload hx hb dX12_begin_91 (lv_at hl 1 rfl) ?_
                  refine lv_lstore (lv' := [(4, .long (moA lam P sp (feN K wi ag (-1)) nz (i1 / 2) (-1) P)), (3, .int (nI i1)), (7, .long (moA lam P sp (feN K wi ag (-1)) nz (i1 / 2) (-1) P)), (0, .ref mo), (1, .int (nI j)), (2, .int (nI nz)), (6, .int (nI i1))]) hx hb dX12_begin_93 hl (by decide) rfl (fun ls hl => ?_)
                  refine lv_iinc (v := nI (i1 + 1)) (lv' := [(6, .int (nI (i1 + 1))), (4, .long (moA lam P sp (feN K wi ag (-1)) nz (i1 / 2) (-1) P)), (3, .int (nI i1)), (7, .long (moA lam P sp (feN K wi ag (-1)) nz (i1 / 2) (-1) P)), (0, .ref mo), (1, .int (nI j)), (2, .int (nI nz))]) hx hb dX12_begin_95 hl (k := 6) rfl (nI_1 _) (by decide) rfl (fun ls hl => ?_)
                  refine lv_goto (tgt := 37) hx hb dX12_begin_98 (by decide) ?_
                  have hl : lv_has ls 9 [(0, .ref mo), (1, .int (nI j)), (2, .int (nI nz)), (3, .int (nI i1)), (4, .long (moA lam P sp (feN K wi ag (-1)) nz (i1 / 2) (-1) P)), (6, .int (nI (i1 + 1)))] := lv_sub hl [4, 5, 6, 2, 1, 0] rfl
                  have hl : lv_has ls 9 [(0, .ref mo), (1, .int (nI j)), (2, .int (nI nz)), (3, .int ((bgO (fun k_ => moA lam P sp (feN K wi ag (if k_ % 2 = 0 then nI 1 else -1)) nz (k_ / 2) (if k_ % 2 = 0 then nI 1 else -1) P) (i1 + 1)).1)), (4, .long ((bgO (fun k_ => moA lam P sp (feN K wi ag (if k_ % 2 = 0 then nI 1 else -1)) nz (k_ / 2) (if k_ % 2 = 0 then nI 1 else -1) P) (i1 + 1)).2)), (6, .int (nI (i1 + 1)))] := by
                    obtain ⟨i0, rfl⟩ : ∃ i0, i1 = i0 + 1 := ⟨i1 - 1, by cases i1 with | zero => exact absurd rfl c77 | succ i0 => rfl⟩
                    have e_ : bgO (fun k_ => moA lam P sp (feN K wi ag (if k_ % 2 = 0 then nI 1 else -1)) nz (k_ / 2) (if k_ % 2 = 0 then nI 1 else -1) P) (i0 + 1 + 1) = (nI (i0 + 1), (fun k_ => moA lam P sp (feN K wi ag (if k_ % 2 = 0 then nI 1 else -1)) nz (k_ / 2) (if k_ % 2 = 0 then nI 1 else -1) P) (i0 + 1)) := by
                      show (nI (bgS (fun k_ => moA lam P sp (feN K wi ag (if k_ % 2 = 0 then nI 1 else -1)) nz (k_ / 2) (if k_ % 2 = 0 then nI 1 else -1) P) (i0 + 1)).1, (bgS (fun k_ => moA lam P sp (feN K wi ag (if k_ % 2 = 0 then nI 1 else -1)) nz (k_ / 2) (if k_ % 2 = 0 then nI 1 else -1) P) (i0 + 1)).2) = _
                      rw [bgS, if_pos (by simp only [if_neg c60]; exact fx_lt c85)]
                    rw [e_]
                    simp only [if_neg c60]
                    exact hl
                  exact ih_37 (i1 + 1) (by omega) (by omega) _ _ hH _ hl
            · refine lv_iconst (v := nI 1) hx hb dX12_begin_63 (by decide) ?_
              refine lv_goto (tgt := 68) hx hb dX12_begin_64 (by decide) ?_
              refine lv_iload_n hx hb dX12_begin_68 rfl (lv_at hl 2 rfl) ?_
              refine fx_go1 hH (fx_runV C hH hl.1 (As := [.int (nI j), .int (nI (i1 / 2)), .int (nI 1), .int (nI nz)]) (rest := []) (c_X12_meanOf_v (G := G) (base := base) (l := l) (f := fx_up f mo (oO 11 [.int (nI 0), .int sa, .ref la, .ref ma, .ref it, .ref rl, .ref fr, .ref li, .ref wa, .ref ld, .int ac, .ref tp, .int tn, .int cu, .int sr, .int tk, .int va, .int ft, .int fA, .int lt, .ref so, .ref ik, .ref kp, .ref kl, .ref tc, .int tt])) (sz := sz) (K := K) (wi := wi) (ag := ag) (P := P) (sp := sp) (mo := mo) (j := j) (fr_ := i1 / 2) (wr := nI 1) (n := nz) (th := nI 0) (sa := sa) (la := la) (ma := ma) (it := it) (rl := rl) (fr := fr) (li := li) (wa := wa) (ld := ld) (ac := ac) (tp := tp) (tn := tn) (cu := cu) (sr := sr) (tk := tk) (va := va) (ft := ft) (fA := fA) (lt := lt) (so := so) (ik := ik) (kp := kp) (kl := kl) (tc := tc) (tt := tt) (rho := rho) (lam := lam) h1_mo h1_rl h1_li (by omega) hk0 hk1 hk2 (by omega) (by omega) (by omega) hP (by omega) hsp (by omega) (by omega) (Or.inl rfl) (by omega)) mY_X12_meanOf ml_X12_220 im_X12_meanOf se_X12_X12_meanOf h1_mo rfl rfl ⟨(Nat.le_of_ble_eq_true rfl), (Nat.le_of_ble_eq_true rfl)⟩ rfl (Nat.le_of_ble_eq_true rfl) ⟨(Nat.le_of_ble_eq_true rfl), (Nat.le_of_ble_eq_true rfl)⟩ dX12_begin_69) (fun H locs hH => ?_)
              refine lv_lstore (lv' := [(7, .long (moA lam P sp (feN K wi ag (nI 1)) nz (i1 / 2) (nI 1) P)), (0, .ref mo), (1, .int (nI j)), (2, .int (nI nz)), (3, .int ((bgO (fun k_ => moA lam P sp (feN K wi ag (if k_ % 2 = 0 then nI 1 else -1)) nz (k_ / 2) (if k_ % 2 = 0 then nI 1 else -1) P) i1).1)), (4, .long ((bgO (fun k_ => moA lam P sp (feN K wi ag (if k_ % 2 = 0 then nI 1 else -1)) nz (k_ / 2) (if k_ % 2 = 0 then nI 1 else -1) P) i1).2)), (6, .int (nI i1))]) hx hb dX12_begin_72 hl (by decide) rfl (fun ls hl => ?_)
              refine lv_iload_n hx hb dX12_begin_74 rfl (lv_at hl 4 rfl) ?_
              refine lv_ldc (v := (-1000000)) hx hb C.2.2.2.1 (C.2.2.2.2.1 _ kI_X12_97 rfl args) dX12_begin_75 ?_
              refine lv_icmp_eq hx hb (tgt := 88) dX12_begin_77 (by decide) (fun c77 => ?_) (fun c77 => ?_)
              · refine lv_iload hx hb dX12_begin_88 (lv_at hl 6 rfl) ?_
                refine lv_istore_n (lv' := [(3, .int (nI i1)), (7, .long (moA lam P sp (feN K wi ag (nI 1)) nz (i1 / 2) (nI 1) P)), (0, .ref mo), (1, .int (nI j)), (2, .int (nI nz)), (4, .long ((bgO (fun k_ => moA lam P sp (feN K wi ag (if k_ % 2 = 0 then nI 1 else -1)) nz (k_ / 2) (if k_ % 2 = 0 then nI 1 else -1) P) i1).2)), (6, .int (nI i1))]) hx hb dX12_begin_90 rfl hl (by decide) rfl (fun ls hl => ?_)
                refine lv_lload hx hb dX12_begin_91 (lv_at hl 1 rfl) ?_
                refine lv_lstore (lv' := [(4, .long (moA lam P sp (feN K wi ag (nI 1)) nz (i1 / 2) (nI 1) P)), (3, .int (nI i1)), (7, .long (moA lam P sp (feN K wi ag (nI 1)) nz (i1 / 2) (nI 1) P)), (0, .ref mo), (1, .int (nI j)), (2, .int (nI nz)), (6, .int (nI i1))]) hx hb dX12_begin_93 hl (by decide) rfl (fun ls hl => ?_)
                refine lv_iinc (v := nI (i1 + 1)) (lv' := [(6, .int (nI (i1 + 1))), (4, .long (moA lam P sp (feN K wi ag (nI 1)) nz (i1 / 2) (nI 1) P)), (3, .int (nI i1)), (7, .long (moA lam P sp (feN K wi ag (nI 1)) nz (i1 / 2) (nI 1) P)), (0, .ref mo), (1, .int (nI j)), (2, .int (nI nz))]) hx hb dX12_begin_95 hl (k := 6) rfl (nI_1 _) (by decide) rfl (fun ls hl => ?_)
                refine lv_goto (tgt := 37) hx hb dX12_begin_98 (by decide) ?_
                have hl : lv_has ls 9 [(0, .ref mo), (1, .int (nI j)), (2, .int (nI nz)), (3, .int (nI i1)), (4, .long (moA lam P sp (feN K wi ag (nI 1)) nz (i1 / 2) (nI 1) P)), (6, .int (nI (i1 + 1)))] := lv_sub hl [4, 5, 6, 2, 1, 0] rfl
                have hl : lv_has ls 9 [(0, .ref mo), (1, .int (nI j)), (2, .int (nI nz)), (3, .int ((bgO (fun k_ => moA lam P sp (feN K wi ag (if k_ % 2 = 0 then nI 1 else -1)) nz (k_ / 2) (if k_ % 2 = 0 then nI 1 else -1) P) (i1 + 1)).1)), (4, .long ((bgO (fun k_ => moA lam P sp (feN K wi ag (if k_ % 2 = 0 then nI 1 else -1)) nz (k_ / 2) (if k_ % 2 = 0 then nI 1 else -1) P) (i1 + 1)).2)), (6, .int (nI (i1 + 1)))] := by
                  have h0 : i1 = 0 := by
                    cases i1 with
                    | zero => rfl
                    | succ i0 => exact absurd c77 (nI_none (by have := bgS_lt (mn := (fun k_ => moA lam P sp (feN K wi ag (if k_ % 2 = 0 then nI 1 else -1)) nz (k_ / 2) (if k_ % 2 = 0 then nI 1 else -1) P)) i0; omega))
                  subst h0
                  exact hl
                exact ih_37 (i1 + 1) (by omega) (by omega) _ _ hH _ hl
              · refine lv_lload hx hb dX12_begin_80 (lv_at hl 0 rfl) ?_
                refine lv_lload hx hb dX12_begin_82 (lv_at hl 5 rfl) ?_
                refine W.lcmp hx hb dX12_begin_84 ?_
                refine fx_J_ge hx hb (tgt := 95) dX12_begin_85 (by decide) (fun c85 => ?_) (fun c85 => ?_)
                · refine lv_iinc (v := nI (i1 + 1)) (lv' := [(6, .int (nI (i1 + 1))), (7, .long (moA lam P sp (feN K wi ag (nI 1)) nz (i1 / 2) (nI 1) P)), (0, .ref mo), (1, .int (nI j)), (2, .int (nI nz)), (3, .int ((bgO (fun k_ => moA lam P sp (feN K wi ag (if k_ % 2 = 0 then nI 1 else -1)) nz (k_ / 2) (if k_ % 2 = 0 then nI 1 else -1) P) i1).1)), (4, .long ((bgO (fun k_ => moA lam P sp (feN K wi ag (if k_ % 2 = 0 then nI 1 else -1)) nz (k_ / 2) (if k_ % 2 = 0 then nI 1 else -1) P) i1).2))]) hx hb dX12_begin_95 hl (k := 6) rfl (nI_1 _) (by decide) rfl (fun ls hl => ?_)
                  refine lv_goto (tgt := 37) hx hb dX12_begin_98 (by decide) ?_
                  have hl : lv_has ls 9 [(0, .ref mo), (1, .int (nI j)), (2, .int (nI nz)), (3, .int ((bgO (fun k_ => moA lam P sp (feN K wi ag (if k_ % 2 = 0 then nI 1 else -1)) nz (k_ / 2) (if k_ % 2 = 0 then nI 1 else -1) P) i1).1)), (4, .long ((bgO (fun k_ => moA lam P sp (feN K wi ag (if k_ % 2 = 0 then nI 1 else -1)) nz (k_ / 2) (if k_ % 2 = 0 then nI 1 else -1) P) i1).2)), (6, .int (nI (i1 + 1)))] := lv_sub hl [2, 3, 4, 5, 6, 0] rfl
                  have hl : lv_has ls 9 [(0, .ref mo), (1, .int (nI j)), (2, .int (nI nz)), (3, .int ((bgO (fun k_ => moA lam P sp (feN K wi ag (if k_ % 2 = 0 then nI 1 else -1)) nz (k_ / 2) (if k_ % 2 = 0 then nI 1 else -1) P) (i1 + 1)).1)), (4, .long ((bgO (fun k_ => moA lam P sp (feN K wi ag (if k_ % 2 = 0 then nI 1 else -1)) nz (k_ / 2) (if k_ % 2 = 0 then nI 1 else -1) P) (i1 + 1)).2)), (6, .int (nI (i1 + 1)))] := by
                    obtain ⟨i0, rfl⟩ : ∃ i0, i1 = i0 + 1 := ⟨i1 - 1, by cases i1 with | zero => exact absurd rfl c77 | succ i0 => rfl⟩
                    have e_ : bgO (fun k_ => moA lam P sp (feN K wi ag (if k_ % 2 = 0 then nI 1 else -1)) nz (k_ / 2) (if k_ % 2 = 0 then nI 1 else -1) P) (i0 + 1 + 1) = bgO (fun k_ => moA lam P sp (feN K wi ag (if k_ % 2 = 0 then nI 1 else -1)) nz (k_ / 2) (if k_ % 2 = 0 then nI 1 else -1) P) (i0 + 1) := by
                      show (nI (bgS (fun k_ => moA lam P sp (feN K wi ag (if k_ % 2 = 0 then nI 1 else -1)) nz (k_ / 2) (if k_ % 2 = 0 then nI 1 else -1) P) (i0 + 1)).1, (bgS (fun k_ => moA lam P sp (feN K wi ag (if k_ % 2 = 0 then nI 1 else -1)) nz (k_ / 2) (if k_ % 2 = 0 then nI 1 else -1) P) (i0 + 1)).2) = (nI (bgS (fun k_ => moA lam P sp (feN K wi ag (if k_ % 2 = 0 then nI 1 else -1)) nz (k_ / 2) (if k_ % 2 = 0 then nI 1 else -1) P) i0).1, (bgS (fun k_ => moA lam P sp (feN K wi ag (if k_ % 2 = 0 then nI 1 else -1)) nz (k_ / 2) (if k_ % 2 = 0 then nI 1 else -1) P) i0).2)
                      rw [bgS, if_neg (by simp only [if_pos c60]; exact fun q9 => absurd c85 (fx_nle q9))]
                    rw [e_]
                    exact hl
                  exact ih_37 (i1 + 1) (by omega) (by omega) _ _ hH _ hl
                · refine lv_iload hx hb dX12_begin_88 (lv_at hl 6 rfl) ?_
                  refine lv_istore_n (lv' := [(3, .int (nI i1)), (7, .long (moA lam P sp (feN K wi ag (nI 1)) nz (i1 / 2) (nI 1) P)), (0, .ref mo), (1, .int (nI j)), (2, .int (nI nz)), (4, .long ((bgO (fun k_ => moA lam P sp (feN K wi ag (if k_ % 2 = 0 then nI 1 else -1)) nz (k_ / 2) (if k_ % 2 = 0 then nI 1 else -1) P) i1).2)), (6, .int (nI i1))]) hx hb dX12_begin_90 rfl hl (by decide) rfl (fun ls hl => ?_)
                  refine lv_lload hx hb dX12_begin_91 (lv_at hl 1 rfl) ?_
                  refine lv_lstore (lv' := [(4, .long (moA lam P sp (feN K wi ag (nI 1)) nz (i1 / 2) (nI 1) P)), (3, .int (nI i1)), (7, .long (moA lam P sp (feN K wi ag (nI 1)) nz (i1 / 2) (nI 1) P)), (0, .ref mo), (1, .int (nI j)), (2, .int (nI nz)), (6, .int (nI i1))]) hx hb dX12_begin_93 hl (by decide) rfl (fun ls hl => ?_)
                  refine lv_iinc (v := nI (i1 + 1)) (lv' := [(6, .int (nI (i1 + 1))), (4, .long (moA lam P sp (feN K wi ag (nI 1)) nz (i1 / 2) (nI 1) P)), (3, .int (nI i1)), (7, .long (moA lam P sp (feN K wi ag (nI 1)) nz (i1 / 2) (nI 1) P)), (0, .ref mo), (1, .int (nI j)), (2, .int (nI nz))]) hx hb dX12_begin_95 hl (k := 6) rfl (nI_1 _) (by decide) rfl (fun ls hl => ?_)
                  refine lv_goto (tgt := 37) hx hb dX12_begin_98 (by decide) ?_
                  have hl : lv_has ls 9 [(0, .ref mo), (1, .int (nI j)), (2, .int (nI nz)), (3, .int (nI i1)), (4, .long (moA lam P sp (feN K wi ag (nI 1)) nz (i1 / 2) (nI 1) P)), (6, .int (nI (i1 + 1)))] := lv_sub hl [4, 5, 6, 2, 1, 0] rfl
                  have hl : lv_has ls 9 [(0, .ref mo), (1, .int (nI j)), (2, .int (nI nz)), (3, .int ((bgO (fun k_ => moA lam P sp (feN K wi ag (if k_ % 2 = 0 then nI 1 else -1)) nz (k_ / 2) (if k_ % 2 = 0 then nI 1 else -1) P) (i1 + 1)).1)), (4, .long ((bgO (fun k_ => moA lam P sp (feN K wi ag (if k_ % 2 = 0 then nI 1 else -1)) nz (k_ / 2) (if k_ % 2 = 0 then nI 1 else -1) P) (i1 + 1)).2)), (6, .int (nI (i1 + 1)))] := by
                    obtain ⟨i0, rfl⟩ : ∃ i0, i1 = i0 + 1 := ⟨i1 - 1, by cases i1 with | zero => exact absurd rfl c77 | succ i0 => rfl⟩
                    have e_ : bgO (fun k_ => moA lam P sp (feN K wi ag (if k_ % 2 = 0 then nI 1 else -1)) nz (k_ / 2) (if k_ % 2 = 0 then nI 1 else -1) P) (i0 + 1 + 1) = (nI (i0 + 1), (fun k_ => moA lam P sp (feN K wi ag (if k_ % 2 = 0 then nI 1 else -1)) nz (k_ / 2) (if k_ % 2 = 0 then nI 1 else -1) P) (i0 + 1)) := by
                      show (nI (bgS (fun k_ => moA lam P sp (feN K wi ag (if k_ % 2 = 0 then nI 1 else -1)) nz (k_ / 2) (if k_ % 2 = 0 then nI 1 else -1) P) (i0 + 1)).1, (bgS (fun k_ => moA lam P sp (feN K wi ag (if k_ % 2 = 0 then nI 1 else -1)) nz (k_ / 2) (if k_ % 2 = 0 then nI 1 else -1) P) (i0 + 1)).2) = _
                      rw [bgS, if_pos (by simp only [if_pos c60]; exact fx_lt c85)]
                    rw [e_]
                    simp only [if_pos c60]
                    exact hl
                  exact ih_37 (i1 + 1) (by omega) (by omega) _ _ hH _ hl
      have hl : lv_has ls 9 [(0, .ref mo), (1, .int (nI j)), (2, .int (nI nz)), (3, .int (-1000000)), (4, .long (lN 0)), (6, .int (nI 0))] := lv_sub hl [3, 4, 5, 2, 1, 0] rfl
      have hl : lv_has ls 9 [(0, .ref mo), (1, .int (nI j)), (2, .int (nI nz)), (3, .int ((bgO (fun k_ => moA lam P sp (feN K wi ag (if k_ % 2 = 0 then nI 1 else -1)) nz (k_ / 2) (if k_ % 2 = 0 then nI 1 else -1) P) 0).1)), (4, .long ((bgO (fun k_ => moA lam P sp (feN K wi ag (if k_ % 2 = 0 then nI 1 else -1)) nz (k_ / 2) (if k_ % 2 = 0 then nI 1 else -1) P) 0).2)), (6, .int (nI 0))] := hl
      exact loop_37 _ 0 (by omega) (Nat.lt_succ_self _) _ _ hH _ hl
  · refine lv_ldc (v := (-1000001)) hx hb C.2.2.2.1 (C.2.2.2.2.1 _ kI_X12_74 rfl args) dX12_begin_25 ?_
    exact fx_iretP C hr hk hH (K2 c22) (Nat.zero_le _) (Nat.zero_le _) dX12_begin_27
set_option maxHeartbeats 4000000 in
set_option maxRecDepth 100000 in
theorem c_X12_noEnd_k {G : GG} {base : Nat} {l : Launch} {f : Hp} {sz : Nat} {Po : Option Value → Hp → Nat → Prop} {K : Nat} {wi : Nat} {ag : Nat} {tl : Nat} {P : Nat} {mo : Nat} {j : Nat} {wr : Int32} {aq : Int32} {th : Int32} {sa : Int32} {la : Nat} {ma : Nat} {it : Nat} {rl : Nat} {fr : Nat} {li : Nat} {wa : Nat} {ld : Nat} {ac : Int32} {tp : Nat} {tn : Int32} {cu : Int32} {sr : Int32} {tk : Int32} {va : Int32} {ft : Int32} {fA : Int32} {lt : Int32} {so : Nat} {ik : Nat} {kp : Nat} {kl : Nat} {tc : Nat} {tt : Int32} {rho : Nat → Int32} {lam : Nat → Int64} (h_mo : f mo = some (oO 11 [.int th, .int sa, .ref la, .ref ma, .ref it, .ref rl, .ref fr, .ref li, .ref wa, .ref ld, .int ac, .ref tp, .int tn, .int cu, .int sr, .int tk, .int va, .int ft, .int fA, .int lt, .ref so, .ref ik, .ref kp, .ref kl, .ref tc, .int tt])) (h_rl : f rl = some (oI 48 rho)) (h_li : f li = some (oJ 13 lam)) (hj : j < tl) (htl : tl ≤ 4) (ht : rho 5 = nI tl) (hk0 : rho (36 + (3 * j) + 0) = nI K) (hk1 : rho (36 + (3 * j) + 1) = nI wi) (hk2 : rho (36 + (3 * j) + 2) = nI ag) (hK : 1 ≤ K ∧ K ≤ 5) (hwi : wi ≤ 10) (hag : ag ≤ 10) (hP : rho 0 = nI P) (hP2 : 4 ≤ P ∧ P ≤ 12) (K1 : ∀ (c17 : ¬ (wr = nI 1 ∨ wr = -1)), Po (some (.int (-1000001))) (fx_up f mo (oO 11 [.int (nI 0), .int sa, .ref la, .ref ma, .ref it, .ref rl, .ref fr, .ref li, .ref wa, .ref ld, .int ac, .ref tp, .int tn, .int cu, .int sr, .int tk, .int va, .int ft, .int fA, .int lt, .ref so, .ref ik, .ref kp, .ref kl, .ref tc, .int tt])) sz)
    (K2 : ∀ (c17 : (wr = nI 1 ∨ wr = -1)), ∀ (c29 : (¬ aq < nI 0 ∧ ¬ nI 99 < aq)), ∀ (az : Nat), ∀ (haz : az ≤ 99), ∀ (eaz : aq = nI az), ∀ (i1 : Nat), ∀ (hi1 : i1 ≤ 5), ∀ (hall : ∀ z, z < i1 → ((neS (sJ lam (P + 1) - lam P) (lam P) (10 - feN K wi ag wr) z).1 + (neS (sJ lam (P + 1) - lam P) (lam P) (10 - feN K wi ag wr) z).2) * lN az < (neS (sJ lam (P + 1) - lam P) (lam P) (10 - feN K wi ag wr) z).1 * lN 100), ∀ (c72 : 4 < i1), Po (some (.int (-1000000))) (fx_up f mo (oO 11 [.int (nI 0), .int sa, .ref la, .ref ma, .ref it, .ref rl, .ref fr, .ref li, .ref wa, .ref ld, .int ac, .ref tp, .int tn, .int cu, .int sr, .int tk, .int va, .int ft, .int fA, .int lt, .ref so, .ref ik, .ref kp, .ref kl, .ref tc, .int tt])) sz)
    (K3 : ∀ (c17 : (wr = nI 1 ∨ wr = -1)), ∀ (c29 : (¬ aq < nI 0 ∧ ¬ nI 99 < aq)), ∀ (az : Nat), ∀ (haz : az ≤ 99), ∀ (eaz : aq = nI az), ∀ (i1 : Nat), ∀ (hi1 : i1 ≤ 5), ∀ (hall : ∀ z, z < i1 → ((neS (sJ lam (P + 1) - lam P) (lam P) (10 - feN K wi ag wr) z).1 + (neS (sJ lam (P + 1) - lam P) (lam P) (10 - feN K wi ag wr) z).2) * lN az < (neS (sJ lam (P + 1) - lam P) (lam P) (10 - feN K wi ag wr) z).1 * lN 100), ∀ (c72 : i1 ≤ 4), ∀ (c90 : ¬ ((((neS (sJ lam (P + 1) - lam P) (lam P) (10 - feN K wi ag wr) i1).1) + ((neS (sJ lam (P + 1) - lam P) (lam P) (10 - feN K wi ag wr) i1).2)) * (lN az)) < (((neS (sJ lam (P + 1) - lam P) (lam P) (10 - feN K wi ag wr) i1).1) * (lN 100))), Po (some (.int (nI i1))) (fx_up f mo (oO 11 [.int (nI 0), .int sa, .ref la, .ref ma, .ref it, .ref rl, .ref fr, .ref li, .ref wa, .ref ld, .int ac, .ref tp, .int tn, .int cu, .int sr, .int tk, .int va, .int ft, .int fA, .int lt, .ref so, .ref ik, .ref kp, .ref kl, .ref tc, .int tt])) sz)
    (K4 : ∀ (c17 : (wr = nI 1 ∨ wr = -1)), ∀ (c29 : ¬ (¬ aq < nI 0 ∧ ¬ nI 99 < aq)), Po (some (.int (-1000001))) (fx_up f mo (oO 11 [.int (nI 0), .int sa, .ref la, .ref ma, .ref it, .ref rl, .ref fr, .ref li, .ref wa, .ref ld, .int ac, .ref tp, .int tn, .int cu, .int sr, .int tk, .int va, .int ft, .int fA, .int lt, .ref so, .ref ik, .ref kp, .ref kl, .ref tc, .int tt])) sz) : fx_MP G base l yX12_noEnd cX12_noEnd 9 (some .int) rm_X12_noEnd [.ref mo, .int (nI j), .int wr, .int aq] f sz Po := by
  refine fx_ofP (by decide +kernel) (Nat.le_of_ble_eq_true rfl) ?_
  intro p e s m args below meth c C hr hk hnm hH ls hl
  obtain ⟨locs, hlocs⟩ : ∃ L : List Loc, L = [] := ⟨_, rfl⟩
  rw [← hlocs] at hH ⊢
  generalize s.heap = H at hH ⊢
  have hx := C.1
  have hb := C.2.1
  have hl : lv_has ls 9 [(0, .ref mo), (1, .int (nI j)), (2, .int wr), (3, .int aq)] := hl
  have hflw : feN K wi ag wr ≤ 10 := feN_le hwi hag
  refine lv_aload_n hx hb dX12_noEnd_0 rfl (lv_at hl 0 rfl) ?_
  refine lv_iconst (v := nI 0) hx hb dX12_noEnd_1 (by decide) ?_
  refine fx_putT C hH (k := 0) h_mo ff_X12_54_11 fL_11 fT_11_0 rfl rfl (Nat.le_of_ble_eq_true rfl) dX12_noEnd_2 (fun H locs hH => ?_)
  have hH : fx_H G base s (fx_up f mo (oO 11 [.int (nI 0), .int sa, .ref la, .ref ma, .ref it, .ref rl, .ref fr, .ref li, .ref wa, .ref ld, .int ac, .ref tp, .int tn, .int cu, .int sr, .int tk, .int va, .int ft, .int fA, .int lt, .ref so, .ref ik, .ref kp, .ref kl, .ref tc, .int tt])) sz H locs := hH
  have h1_rl : (fx_up f mo (oO 11 [.int (nI 0), .int sa, .ref la, .ref ma, .ref it, .ref rl, .ref fr, .ref li, .ref wa, .ref ld, .int ac, .ref tp, .int tn, .int cu, .int sr, .int tk, .int va, .int ft, .int fA, .int lt, .ref so, .ref ik, .ref kp, .ref kl, .ref tc, .int tt])) rl = some (oI 48 rho) := (fx_up_n _ _ (fx_ne h_rl h_mo rfl)).trans h_rl
  have h1_li : (fx_up f mo (oO 11 [.int (nI 0), .int sa, .ref la, .ref ma, .ref it, .ref rl, .ref fr, .ref li, .ref wa, .ref ld, .int ac, .ref tp, .int tn, .int cu, .int sr, .int tk, .int va, .int ft, .int fA, .int lt, .ref so, .ref ik, .ref kp, .ref kl, .ref tc, .int tt])) li = some (oJ 13 lam) := (fx_up_n _ _ (fx_ne h_li h_mo rfl)).trans h_li
  have h1_mo : (fx_up f mo (oO 11 [.int (nI 0), .int sa, .ref la, .ref ma, .ref it, .ref rl, .ref fr, .ref li, .ref wa, .ref ld, .int ac, .ref tp, .int tn, .int cu, .int sr, .int tk, .int va, .int ft, .int fA, .int lt, .ref so, .ref ik, .ref kp, .ref kl, .ref tc, .int tt])) mo = some (oO 11 [.int (nI 0), .int sa, .ref la, .ref ma, .ref it, .ref rl, .ref fr, .ref li, .ref wa, .ref ld, .int ac, .ref tp, .int tn, .int cu, .int sr, .int tk, .int va, .int ft, .int fA, .int lt, .ref so, .ref ik, .ref kp, .ref kl, .ref tc, .int tt]) := fx_up_s _ _ _
  refine lv_aload_n hx hb dX12_noEnd_5 rfl (lv_at hl 0 rfl) ?_
  refine lv_iload_n hx hb dX12_noEnd_6 rfl (lv_at hl 1 rfl) ?_
  refine fx_go1 hH (fx_runV C hH hl.1 (As := [.int (nI j)]) (rest := []) (c_X12_isSeeker (G := G) (base := base) (l := l) (f := fx_up f mo (oO 11 [.int (nI 0), .int sa, .ref la, .ref ma, .ref it, .ref rl, .ref fr, .ref li, .ref wa, .ref ld, .int ac, .ref tp, .int tn, .int cu, .int sr, .int tk, .int va, .int ft, .int fA, .int lt, .ref so, .ref ik, .ref kp, .ref kl, .ref tc, .int tt])) (sz := sz) (tl := tl) (mo := mo) (pp := nI j) (th := nI 0) (sa := sa) (la := la) (ma := ma) (it := it) (rl := rl) (fr := fr) (li := li) (wa := wa) (ld := ld) (ac := ac) (tp := tp) (tn := tn) (cu := cu) (sr := sr) (tk := tk) (va := va) (ft := ft) (fA := fA) (lt := lt) (so := so) (ik := ik) (kp := kp) (kl := kl) (tc := tc) (tt := tt) (rho := rho) h1_mo h1_rl ht) mY_X12_isSeeker ml_X12_165 im_X12_isSeeker se_X12_X12_isSeeker h1_mo rfl rfl ⟨(Nat.le_of_ble_eq_true rfl), (Nat.le_of_ble_eq_true rfl)⟩ rfl (Nat.le_of_ble_eq_true rfl) ⟨(Nat.le_of_ble_eq_true rfl), (Nat.le_of_ble_eq_true rfl)⟩ dX12_noEnd_7) (fun H locs hH => ?_)
  refine fx_b_eq hx hb (tgt := 32) dX12_noEnd_10 (by decide) (fun c10 => absurd c10 (fun z => z (rngS' (by omega) hj))) (fun c10 => ?_)
  refine lv_iload_n hx hb dX12_noEnd_13 rfl (lv_at hl 2 rfl) ?_
  refine fx_go1 hH (fx_runS C hH hl.1 (As := [.int wr]) (rest := []) (c_X12_isWay (G := G) (base := base) (l := l) (f := fx_up f mo (oO 11 [.int (nI 0), .int sa, .ref la, .ref ma, .ref it, .ref rl, .ref fr, .ref li, .ref wa, .ref ld, .int ac, .ref tp, .int tn, .int cu, .int sr, .int tk, .int va, .int ft, .int fA, .int lt, .ref so, .ref ik, .ref kp, .ref kl, .ref tc, .int tt])) (sz := sz) (w := wr) ) mY_X12_isWay ml_X12_217 st_X12_isWay rfl ⟨(Nat.le_of_ble_eq_true rfl), (Nat.le_of_ble_eq_true rfl)⟩ rfl (Nat.le_of_ble_eq_true rfl) ⟨(Nat.le_of_ble_eq_true rfl), (Nat.le_of_ble_eq_true rfl)⟩ dX12_noEnd_14) (fun H locs hH => ?_)
  refine fx_b_eq hx hb (tgt := 32) dX12_noEnd_17 (by decide) (fun c17 => ?_) (fun c17 => ?_)
  · refine lv_ldc (v := (-1000001)) hx hb C.2.2.2.1 (C.2.2.2.2.1 _ kI_X12_74 rfl args) dX12_noEnd_32 ?_
    exact fx_iretP C hr hk hH (K1 c17) (Nat.zero_le _) (Nat.zero_le _) dX12_noEnd_34
  · refine lv_iload_n hx hb dX12_noEnd_20 rfl (lv_at hl 3 rfl) ?_
    refine lv_i2l (v := aq.toInt64) hx hb dX12_noEnd_21 rfl ?_
    refine lv_lconst (v := lN 0) hx hb dX12_noEnd_22 (by decide) ?_
    refine lv_ldc2 (v := (99)) hx hb C.2.2.2.1 (C.2.2.2.2.1 _ kL_X12_224 rfl args) dX12_noEnd_23 ?_
    refine fx_tl (y := lN 99) (by decide) ?_
    refine fx_go1 hH (fx_runS C hH hl.1 (As := [.long aq.toInt64, .long (lN 0), .long (lN 99)]) (rest := []) (c_X12_in_i (G := G) (base := base) (l := l) (f := fx_up f mo (oO 11 [.int (nI 0), .int sa, .ref la, .ref ma, .ref it, .ref rl, .ref fr, .ref li, .ref wa, .ref ld, .int ac, .ref tp, .int tn, .int cu, .int sr, .int tk, .int va, .int ft, .int fA, .int lt, .ref so, .ref ik, .ref kp, .ref kl, .ref tc, .int tt])) (sz := sz) (x := aq) (lo := 0) (hi := 99) (by omega) (by omega)) mY_X12_in ml_X12_64 st_X12_in rfl ⟨(Nat.le_of_ble_eq_true rfl), (Nat.le_of_ble_eq_true rfl)⟩ rfl (Nat.le_of_ble_eq_true rfl) ⟨(Nat.le_of_ble_eq_true rfl), (Nat.le_of_ble_eq_true rfl)⟩ dX12_noEnd_26) (fun H locs hH => ?_)
    refine fx_b_ne hx hb (tgt := 35) dX12_noEnd_29 (by decide) (fun c29 => ?_) (fun c29 => ?_)
    · obtain ⟨az, haz, rfl⟩ := rng (N := 99) (by omega) c29.1 c29.2
      · skip
        refine lv_aload_n hx hb dX12_noEnd_35 rfl (lv_at hl 0 rfl) ?_
        refine fx_go1 hH (fx_runV C hH hl.1 (As := []) (rest := []) (c_X12_allLike (G := G) (base := base) (l := l) (f := fx_up f mo (oO 11 [.int (nI 0), .int sa, .ref la, .ref ma, .ref it, .ref rl, .ref fr, .ref li, .ref wa, .ref ld, .int ac, .ref tp, .int tn, .int cu, .int sr, .int tk, .int va, .int ft, .int fA, .int lt, .ref so, .ref ik, .ref kp, .ref kl, .ref tc, .int tt])) (sz := sz) (P := P) (mo := mo) (th := nI 0) (sa := sa) (la := la) (ma := ma) (it := it) (rl := rl) (fr := fr) (li := li) (wa := wa) (ld := ld) (ac := ac) (tp := tp) (tn := tn) (cu := cu) (sr := sr) (tk := tk) (va := va) (ft := ft) (fA := fA) (lt := lt) (so := so) (ik := ik) (kp := kp) (kl := kl) (tc := tc) (tt := tt) (rho := rho) (lam := lam) h1_mo h1_rl h1_li hP (by omega)) mY_X12_allLike ml_X12_205 im_X12_allLike se_X12_X12_allLike h1_mo rfl rfl ⟨(Nat.le_of_ble_eq_true rfl), (Nat.le_of_ble_eq_true rfl)⟩ rfl (Nat.le_of_ble_eq_true rfl) ⟨(Nat.le_of_ble_eq_true rfl), (Nat.le_of_ble_eq_true rfl)⟩ dX12_noEnd_36) (fun H locs hH => ?_)
        refine lv_aload_n hx hb dX12_noEnd_39 rfl (lv_at hl 0 rfl) ?_
        refine fx_get C hH (k := 7) (v := .ref li) h1_mo ff_X12_25_11 rfl dX12_noEnd_40 ?_
        refine lv_aload_n hx hb dX12_noEnd_43 rfl (lv_at hl 0 rfl) ?_
        refine fx_get C hH (k := 5) (v := .ref rl) h1_mo ff_X12_19_11 rfl dX12_noEnd_44 ?_
        refine lv_iconst (v := nI 0) hx hb dX12_noEnd_47 (by decide) ?_
        refine fx_ialdN C hH h1_rl (by omega) (by omega) dX12_noEnd_48 ?_
        refine fx_ti (y := nI P) hP ?_
        refine fx_laldN C hH h1_li (by omega) (by omega) dX12_noEnd_49 ?_
        refine lv_lsub hx hb dX12_noEnd_50 ?_
        refine lv_lstore (lv' := [(4, .long ((sJ lam (P + 1)) - (lam P))), (0, .ref mo), (1, .int (nI j)), (2, .int wr), (3, .int (nI az))]) hx hb dX12_noEnd_51 hl (by decide) rfl (fun ls hl => ?_)
        refine lv_aload_n hx hb dX12_noEnd_53 rfl (lv_at hl 1 rfl) ?_
        refine fx_get C hH (k := 7) (v := .ref li) h1_mo ff_X12_25_11 rfl dX12_noEnd_54 ?_
        refine lv_aload_n hx hb dX12_noEnd_57 rfl (lv_at hl 1 rfl) ?_
        refine fx_get C hH (k := 5) (v := .ref rl) h1_mo ff_X12_19_11 rfl dX12_noEnd_58 ?_
        refine lv_iconst (v := nI 0) hx hb dX12_noEnd_61 (by decide) ?_
        refine fx_ialdN C hH h1_rl (by omega) (by omega) dX12_noEnd_62 ?_
        refine fx_ti (y := nI P) hP ?_
        refine fx_laldN C hH h1_li (by omega) (by omega) dX12_noEnd_63 ?_
        refine lv_lstore (lv' := [(6, .long (lam P)), (4, .long ((sJ lam (P + 1)) - (lam P))), (0, .ref mo), (1, .int (nI j)), (2, .int wr), (3, .int (nI az))]) hx hb dX12_noEnd_64 hl (by decide) rfl (fun ls hl => ?_)
        refine lv_iconst (v := nI 0) hx hb dX12_noEnd_66 (by decide) ?_
        refine lv_istore (lv' := [(8, .int (nI 0)), (6, .long (lam P)), (4, .long ((sJ lam (P + 1)) - (lam P))), (0, .ref mo), (1, .int (nI j)), (2, .int wr), (3, .int (nI az))]) hx hb dX12_noEnd_67 hl (by decide) rfl (fun ls hl => ?_)
        have loop_69 : ∀ (N_69 : Nat) (i1 : Nat) (hi1 : i1 ≤ 5) (hall : ∀ z, z < i1 → ((neS (sJ lam (P + 1) - lam P) (lam P) (10 - feN K wi ag wr) z).1 + (neS (sJ lam (P + 1) - lam P) (lam P) (10 - feN K wi ag wr) z).2) * lN az < (neS (sJ lam (P + 1) - lam P) (lam P) (10 - feN K wi ag wr) z).1 * lN 100) (hm_69 : 5 - i1 < N_69) (H : Heap) (locs : List Loc) (hH : fx_H G base s (fx_up f mo (oO 11 [.int (nI 0), .int sa, .ref la, .ref ma, .ref it, .ref rl, .ref fr, .ref li, .ref wa, .ref ld, .int ac, .ref tp, .int tn, .int cu, .int sr, .int tk, .int va, .int ft, .int fA, .int lt, .ref so, .ref ik, .ref kp, .ref kl, .ref tc, .int tt])) sz H locs) (ls : Array Slot) (hl : lv_has ls 9 [(0, .ref mo), (1, .int (nI j)), (2, .int wr), (3, .int (nI az)), (4, .long ((neS (sJ lam (P + 1) - lam P) (lam P) (10 - feN K wi ag wr) i1).1)), (6, .long ((neS (sJ lam (P + 1) - lam P) (lam P) (10 - feN K wi ag wr) i1).2)), (8, .int (nI i1))]), W p l e rm_X12_noEnd s m args below meth c H locs 0 0 (MQ below (fx_QP G base Po) args s rm_X12_noEnd.cells rm_X12_noEnd.slots (fun q => base ≤ q)) (F0 m 69 ls []) := by
          intro N_69
          induction N_69 with
          | zero => intro i1 hi1 hall hm_69; exact absurd hm_69 (Nat.not_lt_zero _)
          | succ N_69 ih_69 =>
            intro i1 hi1 hall hm_69 H locs hH ls hl
            refine lv_iload hx hb dX12_noEnd_69 (lv_at hl 6 rfl) ?_
            refine lv_iconst (v := nI 4) hx hb dX12_noEnd_71 (by decide) ?_
            refine fx_N_gt (a := i1) (b := 4) hx hb (by omega) (by omega) (tgt := 125) dX12_noEnd_72 (by decide) (fun c72 => ?_) (fun c72 => ?_)
            · refine lv_ldc (v := (-1000000)) hx hb C.2.2.2.1 (C.2.2.2.2.1 _ kI_X12_97 rfl args) dX12_noEnd_125 ?_
              exact fx_iretP C hr hk hH (K2 c17 c29 az haz rfl i1 hi1 hall c72) (Nat.zero_le _) (Nat.zero_le _) dX12_noEnd_127
            · refine lv_lload hx hb dX12_noEnd_75 (lv_at hl 4 rfl) ?_
              refine lv_ldc2 (v := (100)) hx hb C.2.2.2.1 (C.2.2.2.2.1 _ kL_X12_226 rfl args) dX12_noEnd_77 ?_
              refine fx_tl (y := lN 100) (by decide) ?_
              refine lv_lmul hx hb dX12_noEnd_80 ?_
              refine lv_lload hx hb dX12_noEnd_81 (lv_at hl 4 rfl) ?_
              refine lv_lload hx hb dX12_noEnd_83 (lv_at hl 5 rfl) ?_
              refine lv_ladd hx hb dX12_noEnd_85 ?_
              refine lv_iload_n hx hb dX12_noEnd_86 rfl (lv_at hl 3 rfl) ?_
              refine lv_i2l (v := lN az) hx hb dX12_noEnd_87 (nI_l (by omega)) ?_
              refine lv_lmul hx hb dX12_noEnd_88 ?_
              refine W.lcmp hx hb dX12_noEnd_89 ?_
              refine fx_J_gt hx hb (tgt := 96) dX12_noEnd_90 (by decide) (fun c90 => ?_) (fun c90 => ?_)
              · refine lv_lload hx hb dX12_noEnd_96 (lv_at hl 4 rfl) ?_
                refine lv_bipush (v := nI 10) hx hb dX12_noEnd_98 (by decide) ?_
                refine lv_aload_n hx hb dX12_noEnd_100 rfl (lv_at hl 0 rfl) ?_
                refine lv_iload_n hx hb dX12_noEnd_101 rfl (lv_at hl 1 rfl) ?_
                refine lv_iload_n hx hb dX12_noEnd_102 rfl (lv_at hl 2 rfl) ?_
                refine fx_go1 hH (fx_runV C hH hl.1 (As := [.int (nI j), .int wr]) (rest := [.int (nI 10), .long ((neS (sJ lam (P + 1) - lam P) (lam P) (10 - feN K wi ag wr) i1).1)]) (c_X12_feel (G := G) (base := base) (l := l) (f := fx_up f mo (oO 11 [.int (nI 0), .int sa, .ref la, .ref ma, .ref it, .ref rl, .ref fr, .ref li, .ref wa, .ref ld, .int ac, .ref tp, .int tn, .int cu, .int sr, .int tk, .int va, .int ft, .int fA, .int lt, .ref so, .ref ik, .ref kp, .ref kl, .ref tc, .int tt])) (sz := sz) (K := K) (wi := wi) (ag := ag) (mo := mo) (j := j) (wy := wr) (th := nI 0) (sa := sa) (la := la) (ma := ma) (it := it) (rl := rl) (fr := fr) (li := li) (wa := wa) (ld := ld) (ac := ac) (tp := tp) (tn := tn) (cu := cu) (sr := sr) (tk := tk) (va := va) (ft := ft) (fA := fA) (lt := lt) (so := so) (ik := ik) (kp := kp) (kl := kl) (tc := tc) (tt := tt) (rho := rho) h1_mo h1_rl (by omega) hk0 hk1 hk2 (by omega) (by omega) (by omega)) mY_X12_feel ml_X12_162 im_X12_feel se_X12_X12_feel h1_mo rfl rfl ⟨(Nat.le_of_ble_eq_true rfl), (Nat.le_of_ble_eq_true rfl)⟩ rfl (Nat.le_of_ble_eq_true rfl) ⟨(Nat.le_of_ble_eq_true rfl), (Nat.le_of_ble_eq_true rfl)⟩ dX12_noEnd_103) (fun H locs hH => ?_)
                refine lv_isub hx hb dX12_noEnd_106 ?_
                refine fx_ti (y := nI (10 - (feN K wi ag wr))) (pk_sub (by omega)) ?_
                refine lv_i2l (v := lN (10 - (feN K wi ag wr))) hx hb dX12_noEnd_107 (nI_l (by omega)) ?_
                refine lv_lmul hx hb dX12_noEnd_108 ?_
                refine lv_lstore (lv' := [(4, .long (((neS (sJ lam (P + 1) - lam P) (lam P) (10 - feN K wi ag wr) i1).1) * (lN (10 - (feN K wi ag wr))))), (0, .ref mo), (1, .int (nI j)), (2, .int wr), (3, .int (nI az)), (6, .long ((neS (sJ lam (P + 1) - lam P) (lam P) (10 - feN K wi ag wr) i1).2)), (8, .int (nI i1))]) hx hb dX12_noEnd_109 hl (by decide) rfl (fun ls hl => ?_)
                refine lv_lload hx hb dX12_noEnd_111 (lv_at hl 5 rfl) ?_
                refine lv_ldc2 (v := (10)) hx hb C.2.2.2.1 (C.2.2.2.2.1 _ kL_X12_203 rfl args) dX12_noEnd_113 ?_
                refine fx_tl (y := lN 10) (by decide) ?_
                refine lv_lmul hx hb dX12_noEnd_116 ?_
                refine lv_lstore (lv' := [(6, .long (((neS (sJ lam (P + 1) - lam P) (lam P) (10 - feN K wi ag wr) i1).2) * (lN 10))), (4, .long (((neS (sJ lam (P + 1) - lam P) (lam P) (10 - feN K wi ag wr) i1).1) * (lN (10 - (feN K wi ag wr))))), (0, .ref mo), (1, .int (nI j)), (2, .int wr), (3, .int (nI az)), (8, .int (nI i1))]) hx hb dX12_noEnd_117 hl (by decide) rfl (fun ls hl => ?_)
                refine lv_iinc (v := nI (i1 + 1)) (lv' := [(8, .int (nI (i1 + 1))), (6, .long (((neS (sJ lam (P + 1) - lam P) (lam P) (10 - feN K wi ag wr) i1).2) * (lN 10))), (4, .long (((neS (sJ lam (P + 1) - lam P) (lam P) (10 - feN K wi ag wr) i1).1) * (lN (10 - (feN K wi ag wr))))), (0, .ref mo), (1, .int (nI j)), (2, .int wr), (3, .int (nI az))]) hx hb dX12_noEnd_119 hl (k := 6) rfl (nI_1 _) (by decide) rfl (fun ls hl => ?_)
                refine lv_goto (tgt := 69) hx hb dX12_noEnd_122 (by decide) ?_
                have hl : lv_has ls 9 [(0, .ref mo), (1, .int (nI j)), (2, .int wr), (3, .int (nI az)), (4, .long (((neS (sJ lam (P + 1) - lam P) (lam P) (10 - feN K wi ag wr) i1).1) * (lN (10 - (feN K wi ag wr))))), (6, .long (((neS (sJ lam (P + 1) - lam P) (lam P) (10 - feN K wi ag wr) i1).2) * (lN 10))), (8, .int (nI (i1 + 1)))] := lv_sub hl [3, 4, 5, 6, 2, 1, 0] rfl
                have hl : lv_has ls 9 [(0, .ref mo), (1, .int (nI j)), (2, .int wr), (3, .int (nI az)), (4, .long ((neS (sJ lam (P + 1) - lam P) (lam P) (10 - feN K wi ag wr) (i1 + 1)).1)), (6, .long ((neS (sJ lam (P + 1) - lam P) (lam P) (10 - feN K wi ag wr) (i1 + 1)).2)), (8, .int (nI (i1 + 1)))] := hl
                exact ih_69 (i1 + 1) (by omega) (fun z hz => by rcases Nat.lt_succ_iff_lt_or_eq.mp hz with q9 | q9; exact hall z q9; subst q9; exact c90) (by omega) _ _ hH _ hl
              · refine lv_iload hx hb dX12_noEnd_93 (lv_at hl 6 rfl) ?_
                exact fx_iretP C hr hk hH (K3 c17 c29 az haz rfl i1 hi1 hall c72 c90) (Nat.zero_le _) (Nat.zero_le _) dX12_noEnd_95
        have hl : lv_has ls 9 [(0, .ref mo), (1, .int (nI j)), (2, .int wr), (3, .int (nI az)), (4, .long ((sJ lam (P + 1)) - (lam P))), (6, .long (lam P)), (8, .int (nI 0))] := lv_sub hl [3, 4, 5, 6, 2, 1, 0] rfl
        have hl : lv_has ls 9 [(0, .ref mo), (1, .int (nI j)), (2, .int wr), (3, .int (nI az)), (4, .long ((neS (sJ lam (P + 1) - lam P) (lam P) (10 - feN K wi ag wr) 0).1)), (6, .long ((neS (sJ lam (P + 1) - lam P) (lam P) (10 - feN K wi ag wr) 0).2)), (8, .int (nI 0))] := hl
        exact loop_69 _ 0 (by omega) (fun z hz => absurd hz (Nat.not_lt_zero _)) (Nat.lt_succ_self _) _ _ hH _ hl
    · refine lv_ldc (v := (-1000001)) hx hb C.2.2.2.1 (C.2.2.2.2.1 _ kI_X12_74 rfl args) dX12_noEnd_32 ?_
      exact fx_iretP C hr hk hH (K4 c17 c29) (Nat.zero_le _) (Nat.zero_le _) dX12_noEnd_34
set_option maxHeartbeats 4000000 in
set_option maxRecDepth 100000 in
theorem c_X12_pays_k {G : GG} {base : Nat} {l : Launch} {f : Hp} {sz : Nat} {Po : Option Value → Hp → Nat → Prop} {K : Nat} {wi : Nat} {ag : Nat} {tl : Nat} {P : Nat} {sp : Nat} {mo : Nat} {j : Nat} {ff : Int32} {th : Int32} {sa : Int32} {la : Nat} {ma : Nat} {it : Nat} {rl : Nat} {fr : Nat} {li : Nat} {wa : Nat} {ld : Nat} {ac : Int32} {tp : Nat} {tn : Int32} {cu : Int32} {sr : Int32} {tk : Int32} {va : Int32} {ft : Int32} {fA : Int32} {lt : Int32} {so : Nat} {ik : Nat} {kp : Nat} {kl : Nat} {tc : Nat} {tt : Int32} {rho : Nat → Int32} {lam : Nat → Int64} (h_mo : f mo = some (oO 11 [.int th, .int sa, .ref la, .ref ma, .ref it, .ref rl, .ref fr, .ref li, .ref wa, .ref ld, .int ac, .ref tp, .int tn, .int cu, .int sr, .int tk, .int va, .int ft, .int fA, .int lt, .ref so, .ref ik, .ref kp, .ref kl, .ref tc, .int tt])) (h_rl : f rl = some (oI 48 rho)) (h_li : f li = some (oJ 13 lam)) (hj : j < tl) (htl : tl ≤ 4) (ht : rho 5 = nI tl) (hk0 : rho (36 + (3 * j) + 0) = nI K) (hk1 : rho (36 + (3 * j) + 1) = nI wi) (hk2 : rho (36 + (3 * j) + 2) = nI ag) (hK : 1 ≤ K ∧ K ≤ 5) (hwi : wi ≤ 10) (hag : ag ≤ 10) (hP : rho 0 = nI P) (hP2 : 4 ≤ P ∧ P ≤ 12) (hsp : rho 1 = nI sp) (hst : sp ≤ 9) (K1 : ∀ (c22 : (¬ ff < nI 0 ∧ ¬ nI 99 < ff)), ∀ (fz : Nat), ∀ (hfz : fz ≤ 99), ∀ (efz : ff = nI fz), ∀ (i1 : Nat), ∀ (hi1 : i1 ≤ 100), ∀ (hall : ∀ z, z < i1 → lN z * (moA lam P sp (feN K wi ag (nI 1)) 1 0 (nI 1) P - lN 10 * sJ lam (P + 1)) < lN fz * (lN 10 * sJ lam (P + 1))), ∀ (c56 : 99 < i1), Po (some (.int (-1000000))) (fx_up f mo (oO 11 [.int (nI 0), .int sa, .ref la, .ref ma, .ref it, .ref rl, .ref fr, .ref li, .ref wa, .ref ld, .int ac, .ref tp, .int tn, .int cu, .int sr, .int tk, .int va, .int ft, .int fA, .int lt, .ref so, .ref ik, .ref kp, .ref kl, .ref tc, .int tt])) sz)
    (K2 : ∀ (c22 : (¬ ff < nI 0 ∧ ¬ nI 99 < ff)), ∀ (fz : Nat), ∀ (hfz : fz ≤ 99), ∀ (efz : ff = nI fz), ∀ (i1 : Nat), ∀ (hi1 : i1 ≤ 100), ∀ (hall : ∀ z, z < i1 → lN z * (moA lam P sp (feN K wi ag (nI 1)) 1 0 (nI 1) P - lN 10 * sJ lam (P + 1)) < lN fz * (lN 10 * sJ lam (P + 1))), ∀ (c56 : i1 ≤ 99), ∀ (c70 : ¬ ((lN i1) * (moA lam P sp (feN K wi ag (nI 1)) 1 0 (nI 1) P - lN 10 * sJ lam (P + 1))) < ((lN fz) * (lN 10 * sJ lam (P + 1)))), Po (some (.int (nI i1))) (fx_up f mo (oO 11 [.int (nI 0), .int sa, .ref la, .ref ma, .ref it, .ref rl, .ref fr, .ref li, .ref wa, .ref ld, .int ac, .ref tp, .int tn, .int cu, .int sr, .int tk, .int va, .int ft, .int fA, .int lt, .ref so, .ref ik, .ref kp, .ref kl, .ref tc, .int tt])) sz)
    (K3 : ∀ (c22 : ¬ (¬ ff < nI 0 ∧ ¬ nI 99 < ff)), Po (some (.int (-1000001))) (fx_up f mo (oO 11 [.int (nI 0), .int sa, .ref la, .ref ma, .ref it, .ref rl, .ref fr, .ref li, .ref wa, .ref ld, .int ac, .ref tp, .int tn, .int cu, .int sr, .int tk, .int va, .int ft, .int fA, .int lt, .ref so, .ref ik, .ref kp, .ref kl, .ref tc, .int tt])) sz) : fx_MP G base l yX12_pays cX12_pays 8 (some .int) rm_X12_pays [.ref mo, .int (nI j), .int ff] f sz Po := by
  refine fx_ofP (by decide +kernel) (Nat.le_of_ble_eq_true rfl) ?_
  intro p e s m args below meth c C hr hk hnm hH ls hl
  obtain ⟨locs, hlocs⟩ : ∃ L : List Loc, L = [] := ⟨_, rfl⟩
  rw [← hlocs] at hH ⊢
  generalize s.heap = H at hH ⊢
  have hx := C.1
  have hb := C.2.1
  have hl : lv_has ls 8 [(0, .ref mo), (1, .int (nI j)), (2, .int ff)] := hl
  refine lv_aload_n hx hb dX12_pays_0 rfl (lv_at hl 0 rfl) ?_
  refine lv_iconst (v := nI 0) hx hb dX12_pays_1 (by decide) ?_
  refine fx_putT C hH (k := 0) h_mo ff_X12_54_11 fL_11 fT_11_0 rfl rfl (Nat.le_of_ble_eq_true rfl) dX12_pays_2 (fun H locs hH => ?_)
  have hH : fx_H G base s (fx_up f mo (oO 11 [.int (nI 0), .int sa, .ref la, .ref ma, .ref it, .ref rl, .ref fr, .ref li, .ref wa, .ref ld, .int ac, .ref tp, .int tn, .int cu, .int sr, .int tk, .int va, .int ft, .int fA, .int lt, .ref so, .ref ik, .ref kp, .ref kl, .ref tc, .int tt])) sz H locs := hH
  have h1_rl : (fx_up f mo (oO 11 [.int (nI 0), .int sa, .ref la, .ref ma, .ref it, .ref rl, .ref fr, .ref li, .ref wa, .ref ld, .int ac, .ref tp, .int tn, .int cu, .int sr, .int tk, .int va, .int ft, .int fA, .int lt, .ref so, .ref ik, .ref kp, .ref kl, .ref tc, .int tt])) rl = some (oI 48 rho) := (fx_up_n _ _ (fx_ne h_rl h_mo rfl)).trans h_rl
  have h1_li : (fx_up f mo (oO 11 [.int (nI 0), .int sa, .ref la, .ref ma, .ref it, .ref rl, .ref fr, .ref li, .ref wa, .ref ld, .int ac, .ref tp, .int tn, .int cu, .int sr, .int tk, .int va, .int ft, .int fA, .int lt, .ref so, .ref ik, .ref kp, .ref kl, .ref tc, .int tt])) li = some (oJ 13 lam) := (fx_up_n _ _ (fx_ne h_li h_mo rfl)).trans h_li
  have h1_mo : (fx_up f mo (oO 11 [.int (nI 0), .int sa, .ref la, .ref ma, .ref it, .ref rl, .ref fr, .ref li, .ref wa, .ref ld, .int ac, .ref tp, .int tn, .int cu, .int sr, .int tk, .int va, .int ft, .int fA, .int lt, .ref so, .ref ik, .ref kp, .ref kl, .ref tc, .int tt])) mo = some (oO 11 [.int (nI 0), .int sa, .ref la, .ref ma, .ref it, .ref rl, .ref fr, .ref li, .ref wa, .ref ld, .int ac, .ref tp, .int tn, .int cu, .int sr, .int tk, .int va, .int ft, .int fA, .int lt, .ref so, .ref ik, .ref kp, .ref kl, .ref tc, .int tt]) := fx_up_s _ _ _
  refine lv_aload_n hx hb dX12_pays_5 rfl (lv_at hl 0 rfl) ?_
  refine lv_iload_n hx hb dX12_pays_6 rfl (lv_at hl 1 rfl) ?_
  refine fx_go1 hH (fx_runV C hH hl.1 (As := [.int (nI j)]) (rest := []) (c_X12_isSeeker (G := G) (base := base) (l := l) (f := fx_up f mo (oO 11 [.int (nI 0), .int sa, .ref la, .ref ma, .ref it, .ref rl, .ref fr, .ref li, .ref wa, .ref ld, .int ac, .ref tp, .int tn, .int cu, .int sr, .int tk, .int va, .int ft, .int fA, .int lt, .ref so, .ref ik, .ref kp, .ref kl, .ref tc, .int tt])) (sz := sz) (tl := tl) (mo := mo) (pp := nI j) (th := nI 0) (sa := sa) (la := la) (ma := ma) (it := it) (rl := rl) (fr := fr) (li := li) (wa := wa) (ld := ld) (ac := ac) (tp := tp) (tn := tn) (cu := cu) (sr := sr) (tk := tk) (va := va) (ft := ft) (fA := fA) (lt := lt) (so := so) (ik := ik) (kp := kp) (kl := kl) (tc := tc) (tt := tt) (rho := rho) h1_mo h1_rl ht) mY_X12_isSeeker ml_X12_165 im_X12_isSeeker se_X12_X12_isSeeker h1_mo rfl rfl ⟨(Nat.le_of_ble_eq_true rfl), (Nat.le_of_ble_eq_true rfl)⟩ rfl (Nat.le_of_ble_eq_true rfl) ⟨(Nat.le_of_ble_eq_true rfl), (Nat.le_of_ble_eq_true rfl)⟩ dX12_pays_7) (fun H locs hH => ?_)
  refine fx_b_eq hx hb (tgt := 25) dX12_pays_10 (by decide) (fun c10 => absurd c10 (fun z => z (rngS' (by omega) hj))) (fun c10 => ?_)
  refine lv_iload_n hx hb dX12_pays_13 rfl (lv_at hl 2 rfl) ?_
  refine lv_i2l (v := ff.toInt64) hx hb dX12_pays_14 rfl ?_
  refine lv_lconst (v := lN 0) hx hb dX12_pays_15 (by decide) ?_
  refine lv_ldc2 (v := (99)) hx hb C.2.2.2.1 (C.2.2.2.2.1 _ kL_X12_224 rfl args) dX12_pays_16 ?_
  refine fx_tl (y := lN 99) (by decide) ?_
  refine fx_go1 hH (fx_runS C hH hl.1 (As := [.long ff.toInt64, .long (lN 0), .long (lN 99)]) (rest := []) (c_X12_in_i (G := G) (base := base) (l := l) (f := fx_up f mo (oO 11 [.int (nI 0), .int sa, .ref la, .ref ma, .ref it, .ref rl, .ref fr, .ref li, .ref wa, .ref ld, .int ac, .ref tp, .int tn, .int cu, .int sr, .int tk, .int va, .int ft, .int fA, .int lt, .ref so, .ref ik, .ref kp, .ref kl, .ref tc, .int tt])) (sz := sz) (x := ff) (lo := 0) (hi := 99) (by omega) (by omega)) mY_X12_in ml_X12_64 st_X12_in rfl ⟨(Nat.le_of_ble_eq_true rfl), (Nat.le_of_ble_eq_true rfl)⟩ rfl (Nat.le_of_ble_eq_true rfl) ⟨(Nat.le_of_ble_eq_true rfl), (Nat.le_of_ble_eq_true rfl)⟩ dX12_pays_19) (fun H locs hH => ?_)
  refine fx_b_ne hx hb (tgt := 28) dX12_pays_22 (by decide) (fun c22 => ?_) (fun c22 => ?_)
  · obtain ⟨fz, hfz, rfl⟩ := rng (N := 99) (by omega) c22.1 c22.2
    · skip
      refine lv_ldc2 (v := (10)) hx hb C.2.2.2.1 (C.2.2.2.2.1 _ kL_X12_203 rfl args) dX12_pays_28 ?_
      refine fx_tl (y := lN 10) (by decide) ?_
      refine lv_aload_n hx hb dX12_pays_31 rfl (lv_at hl 0 rfl) ?_
      refine fx_go1 hH (fx_runV C hH hl.1 (As := []) (rest := [.long (lN 10)]) (c_X12_allLike (G := G) (base := base) (l := l) (f := fx_up f mo (oO 11 [.int (nI 0), .int sa, .ref la, .ref ma, .ref it, .ref rl, .ref fr, .ref li, .ref wa, .ref ld, .int ac, .ref tp, .int tn, .int cu, .int sr, .int tk, .int va, .int ft, .int fA, .int lt, .ref so, .ref ik, .ref kp, .ref kl, .ref tc, .int tt])) (sz := sz) (P := P) (mo := mo) (th := nI 0) (sa := sa) (la := la) (ma := ma) (it := it) (rl := rl) (fr := fr) (li := li) (wa := wa) (ld := ld) (ac := ac) (tp := tp) (tn := tn) (cu := cu) (sr := sr) (tk := tk) (va := va) (ft := ft) (fA := fA) (lt := lt) (so := so) (ik := ik) (kp := kp) (kl := kl) (tc := tc) (tt := tt) (rho := rho) (lam := lam) h1_mo h1_rl h1_li hP (by omega)) mY_X12_allLike ml_X12_205 im_X12_allLike se_X12_X12_allLike h1_mo rfl rfl ⟨(Nat.le_of_ble_eq_true rfl), (Nat.le_of_ble_eq_true rfl)⟩ rfl (Nat.le_of_ble_eq_true rfl) ⟨(Nat.le_of_ble_eq_true rfl), (Nat.le_of_ble_eq_true rfl)⟩ dX12_pays_32) (fun H locs hH => ?_)
      refine lv_lmul hx hb dX12_pays_35 ?_
      refine lv_lstore_n (lv' := [(3, .long ((lN 10) * (sJ lam (P + 1)))), (0, .ref mo), (1, .int (nI j)), (2, .int (nI fz))]) hx hb dX12_pays_36 rfl hl (by decide) rfl (fun ls hl => ?_)
      refine lv_aload_n hx hb dX12_pays_37 rfl (lv_at hl 1 rfl) ?_
      refine lv_iload_n hx hb dX12_pays_38 rfl (lv_at hl 2 rfl) ?_
      refine lv_iconst (v := nI 0) hx hb dX12_pays_39 (by decide) ?_
      refine lv_iconst (v := nI 1) hx hb dX12_pays_40 (by decide) ?_
      refine lv_iconst (v := nI 1) hx hb dX12_pays_41 (by decide) ?_
      refine fx_go1 hH (fx_runV C hH hl.1 (As := [.int (nI j), .int (nI 0), .int (nI 1), .int (nI 1)]) (rest := []) (c_X12_meanOf_v (G := G) (base := base) (l := l) (f := fx_up f mo (oO 11 [.int (nI 0), .int sa, .ref la, .ref ma, .ref it, .ref rl, .ref fr, .ref li, .ref wa, .ref ld, .int ac, .ref tp, .int tn, .int cu, .int sr, .int tk, .int va, .int ft, .int fA, .int lt, .ref so, .ref ik, .ref kp, .ref kl, .ref tc, .int tt])) (sz := sz) (K := K) (wi := wi) (ag := ag) (P := P) (sp := sp) (mo := mo) (j := j) (fr_ := 0) (wr := nI 1) (n := 1) (th := nI 0) (sa := sa) (la := la) (ma := ma) (it := it) (rl := rl) (fr := fr) (li := li) (wa := wa) (ld := ld) (ac := ac) (tp := tp) (tn := tn) (cu := cu) (sr := sr) (tk := tk) (va := va) (ft := ft) (fA := fA) (lt := lt) (so := so) (ik := ik) (kp := kp) (kl := kl) (tc := tc) (tt := tt) (rho := rho) (lam := lam) h1_mo h1_rl h1_li (by omega) hk0 hk1 hk2 (by omega) (by omega) (by omega) hP (by omega) hsp (by omega) (by omega) (Or.inl rfl) (by omega)) mY_X12_meanOf ml_X12_220 im_X12_meanOf se_X12_X12_meanOf h1_mo rfl rfl ⟨(Nat.le_of_ble_eq_true rfl), (Nat.le_of_ble_eq_true rfl)⟩ rfl (Nat.le_of_ble_eq_true rfl) ⟨(Nat.le_of_ble_eq_true rfl), (Nat.le_of_ble_eq_true rfl)⟩ dX12_pays_42) (fun H locs hH => ?_)
      refine lv_lload_n hx hb dX12_pays_45 rfl (lv_at hl 0 rfl) ?_
      refine lv_lsub hx hb dX12_pays_46 ?_
      refine lv_lstore (lv' := [(5, .long ((moA lam P sp (feN K wi ag (nI 1)) 1 0 (nI 1) P) - ((lN 10) * (sJ lam (P + 1))))), (3, .long ((lN 10) * (sJ lam (P + 1)))), (0, .ref mo), (1, .int (nI j)), (2, .int (nI fz))]) hx hb dX12_pays_47 hl (by decide) rfl (fun ls hl => ?_)
      refine lv_iconst (v := nI 0) hx hb dX12_pays_49 (by decide) ?_
      refine lv_istore (lv' := [(7, .int (nI 0)), (5, .long ((moA lam P sp (feN K wi ag (nI 1)) 1 0 (nI 1) P) - ((lN 10) * (sJ lam (P + 1))))), (3, .long ((lN 10) * (sJ lam (P + 1)))), (0, .ref mo), (1, .int (nI j)), (2, .int (nI fz))]) hx hb dX12_pays_50 hl (by decide) rfl (fun ls hl => ?_)
      have loop_52 : ∀ (N_52 : Nat) (i1 : Nat) (hi1 : i1 ≤ 100) (hall : ∀ z, z < i1 → lN z * (moA lam P sp (feN K wi ag (nI 1)) 1 0 (nI 1) P - lN 10 * sJ lam (P + 1)) < lN fz * (lN 10 * sJ lam (P + 1))) (hm_52 : 100 - i1 < N_52) (H : Heap) (locs : List Loc) (hH : fx_H G base s (fx_up f mo (oO 11 [.int (nI 0), .int sa, .ref la, .ref ma, .ref it, .ref rl, .ref fr, .ref li, .ref wa, .ref ld, .int ac, .ref tp, .int tn, .int cu, .int sr, .int tk, .int va, .int ft, .int fA, .int lt, .ref so, .ref ik, .ref kp, .ref kl, .ref tc, .int tt])) sz H locs) (ls : Array Slot) (hl : lv_has ls 8 [(0, .ref mo), (1, .int (nI j)), (2, .int (nI fz)), (3, .long (lN 10 * sJ lam (P + 1))), (5, .long (moA lam P sp (feN K wi ag (nI 1)) 1 0 (nI 1) P - lN 10 * sJ lam (P + 1))), (7, .int (nI i1))]), W p l e rm_X12_pays s m args below meth c H locs 0 0 (MQ below (fx_QP G base Po) args s rm_X12_pays.cells rm_X12_pays.slots (fun q => base ≤ q)) (F0 m 52 ls []) := by
        intro N_52
        induction N_52 with
        | zero => intro i1 hi1 hall hm_52; exact absurd hm_52 (Nat.not_lt_zero _)
        | succ N_52 ih_52 =>
          intro i1 hi1 hall hm_52 H locs hH ls hl
          refine lv_iload hx hb dX12_pays_52 (lv_at hl 5 rfl) ?_
          refine lv_bipush (v := nI 99) hx hb dX12_pays_54 (by decide) ?_
          refine fx_N_gt (a := i1) (b := 99) hx hb (by omega) (by omega) (tgt := 82) dX12_pays_56 (by decide) (fun c56 => ?_) (fun c56 => ?_)
          · refine lv_ldc (v := (-1000000)) hx hb C.2.2.2.1 (C.2.2.2.2.1 _ kI_X12_97 rfl args) dX12_pays_82 ?_
            exact fx_iretP C hr hk hH (K1 c22 fz hfz rfl i1 hi1 hall c56) (Nat.zero_le _) (Nat.zero_le _) dX12_pays_84
          · refine lv_iload hx hb dX12_pays_59 (lv_at hl 5 rfl) ?_
            refine lv_i2l (v := lN i1) hx hb dX12_pays_61 (nI_l (by omega)) ?_
            refine lv_lload hx hb dX12_pays_62 (lv_at hl 4 rfl) ?_
            refine lv_lmul hx hb dX12_pays_64 ?_
            refine lv_iload_n hx hb dX12_pays_65 rfl (lv_at hl 2 rfl) ?_
            refine lv_i2l (v := lN fz) hx hb dX12_pays_66 (nI_l (by omega)) ?_
            refine lv_lload_n hx hb dX12_pays_67 rfl (lv_at hl 3 rfl) ?_
            refine lv_lmul hx hb dX12_pays_68 ?_
            refine W.lcmp hx hb dX12_pays_69 ?_
            refine fx_J_lt hx hb (tgt := 76) dX12_pays_70 (by decide) (fun c70 => ?_) (fun c70 => ?_)
            · refine lv_iinc (v := nI (i1 + 1)) (lv' := [(7, .int (nI (i1 + 1))), (0, .ref mo), (1, .int (nI j)), (2, .int (nI fz)), (3, .long (lN 10 * sJ lam (P + 1))), (5, .long (moA lam P sp (feN K wi ag (nI 1)) 1 0 (nI 1) P - lN 10 * sJ lam (P + 1)))]) hx hb dX12_pays_76 hl (k := 5) rfl (nI_1 _) (by decide) rfl (fun ls hl => ?_)
              refine lv_goto (tgt := 52) hx hb dX12_pays_79 (by decide) ?_
              have hl : lv_has ls 8 [(0, .ref mo), (1, .int (nI j)), (2, .int (nI fz)), (3, .long (lN 10 * sJ lam (P + 1))), (5, .long (moA lam P sp (feN K wi ag (nI 1)) 1 0 (nI 1) P - lN 10 * sJ lam (P + 1))), (7, .int (nI (i1 + 1)))] := lv_sub hl [1, 2, 3, 4, 5, 0] rfl
              exact ih_52 (i1 + 1) (by omega) (fun z hz => by rcases Nat.lt_succ_iff_lt_or_eq.mp hz with q9 | q9; exact hall z q9; subst q9; exact c70) (by omega) _ _ hH _ hl
            · refine lv_iload hx hb dX12_pays_73 (lv_at hl 5 rfl) ?_
              exact fx_iretP C hr hk hH (K2 c22 fz hfz rfl i1 hi1 hall c56 c70) (Nat.zero_le _) (Nat.zero_le _) dX12_pays_75
      have hl : lv_has ls 8 [(0, .ref mo), (1, .int (nI j)), (2, .int (nI fz)), (3, .long ((lN 10) * (sJ lam (P + 1)))), (5, .long ((moA lam P sp (feN K wi ag (nI 1)) 1 0 (nI 1) P) - ((lN 10) * (sJ lam (P + 1))))), (7, .int (nI 0))] := lv_sub hl [3, 4, 5, 2, 1, 0] rfl
      have hl : lv_has ls 8 [(0, .ref mo), (1, .int (nI j)), (2, .int (nI fz)), (3, .long (lN 10 * sJ lam (P + 1))), (5, .long (moA lam P sp (feN K wi ag (nI 1)) 1 0 (nI 1) P - lN 10 * sJ lam (P + 1))), (7, .int (nI 0))] := hl
      exact loop_52 _ 0 (by omega) (fun z hz => absurd hz (Nat.not_lt_zero _)) (Nat.lt_succ_self _) _ _ hH _ hl
  · refine lv_ldc (v := (-1000001)) hx hb C.2.2.2.1 (C.2.2.2.2.1 _ kI_X12_74 rfl args) dX12_pays_25 ?_
    exact fx_iretP C hr hk hH (K3 c22) (Nat.zero_le _) (Nat.zero_le _) dX12_pays_27
abbrev rm_X12_whose : Room := { frames := 4, cells := 0, slots := 0, locals := 97 }
set_option maxHeartbeats 4000000 in
set_option maxRecDepth 100000 in
theorem c_X12_whose_n {G : GG} {base : Nat} {l : Launch} {f : Hp} {sz : Nat} {Po : Option Value → Hp → Nat → Prop} {P : Nat} {mo : Nat} {r : Int32} {i : Int32} {n : Int32} {th : Int32} {sa : Int32} {la : Nat} {ma : Nat} {it : Nat} {rl : Nat} {fr : Nat} {li : Nat} {wa : Nat} {ld : Nat} {ac : Int32} {tp : Nat} {tn : Int32} {cu : Int32} {sr : Int32} {tk : Int32} {va : Int32} {ft : Int32} {fA : Int32} {lt : Int32} {so : Nat} {ik : Nat} {kp : Nat} {kl : Nat} {tc : Nat} {tt : Int32} {rho : Nat → Int32} (h_mo : f mo = some (oO 11 [.int th, .int sa, .ref la, .ref ma, .ref it, .ref rl, .ref fr, .ref li, .ref wa, .ref ld, .int ac, .ref tp, .int tn, .int cu, .int sr, .int tk, .int va, .int ft, .int fA, .int lt, .ref so, .ref ik, .ref kp, .ref kl, .ref tc, .int tt])) (h_rl : f rl = some (oI 48 rho)) (hP : rho 0 = nI P) (hP2 : P ≤ 12) (hr0 : ¬ (¬ r < nI 0 ∧ ¬ nI 7 < r)) (K1 : ∀ (c9 : (0 < P)), Po (some (.int (-1000001))) (fx_up f mo (oO 11 [.int (nI 0), .int sa, .ref la, .ref ma, .ref it, .ref rl, .ref fr, .ref li, .ref wa, .ref ld, .int ac, .ref tp, .int tn, .int cu, .int sr, .int tk, .int va, .int ft, .int fA, .int lt, .ref so, .ref ik, .ref kp, .ref kl, .ref tc, .int tt])) sz)
    (K2 : ∀ (c9 : ¬ (0 < P)), Po (some (.int (-1000002))) (fx_up f mo (oO 11 [.int (nI 0), .int sa, .ref la, .ref ma, .ref it, .ref rl, .ref fr, .ref li, .ref wa, .ref ld, .int ac, .ref tp, .int tn, .int cu, .int sr, .int tk, .int va, .int ft, .int fA, .int lt, .ref so, .ref ik, .ref kp, .ref kl, .ref tc, .int tt])) sz) : fx_MP G base l yX12_whose cX12_whose 7 (some .int) rm_X12_whose [.ref mo, .int r, .int i, .int n] f sz Po := by
  refine fx_ofP (by decide +kernel) (Nat.le_of_ble_eq_true rfl) ?_
  intro p e s m args below meth c C hr hk hnm hH ls hl
  obtain ⟨locs, hlocs⟩ : ∃ L : List Loc, L = [] := ⟨_, rfl⟩
  rw [← hlocs] at hH ⊢
  generalize s.heap = H at hH ⊢
  have hx := C.1
  have hb := C.2.1
  have hl : lv_has ls 7 [(0, .ref mo), (1, .int r), (2, .int i), (3, .int n)] := hl
  refine lv_aload_n hx hb dX12_whose_0 rfl (lv_at hl 0 rfl) ?_
  refine lv_iconst (v := nI 0) hx hb dX12_whose_1 (by decide) ?_
  refine fx_putT C hH (k := 0) h_mo ff_X12_54_11 fL_11 fT_11_0 rfl rfl (Nat.le_of_ble_eq_true rfl) dX12_whose_2 (fun H locs hH => ?_)
  have hH : fx_H G base s (fx_up f mo (oO 11 [.int (nI 0), .int sa, .ref la, .ref ma, .ref it, .ref rl, .ref fr, .ref li, .ref wa, .ref ld, .int ac, .ref tp, .int tn, .int cu, .int sr, .int tk, .int va, .int ft, .int fA, .int lt, .ref so, .ref ik, .ref kp, .ref kl, .ref tc, .int tt])) sz H locs := hH
  have h1_rl : (fx_up f mo (oO 11 [.int (nI 0), .int sa, .ref la, .ref ma, .ref it, .ref rl, .ref fr, .ref li, .ref wa, .ref ld, .int ac, .ref tp, .int tn, .int cu, .int sr, .int tk, .int va, .int ft, .int fA, .int lt, .ref so, .ref ik, .ref kp, .ref kl, .ref tc, .int tt])) rl = some (oI 48 rho) := (fx_up_n _ _ (fx_ne h_rl h_mo rfl)).trans h_rl
  have h1_mo : (fx_up f mo (oO 11 [.int (nI 0), .int sa, .ref la, .ref ma, .ref it, .ref rl, .ref fr, .ref li, .ref wa, .ref ld, .int ac, .ref tp, .int tn, .int cu, .int sr, .int tk, .int va, .int ft, .int fA, .int lt, .ref so, .ref ik, .ref kp, .ref kl, .ref tc, .int tt])) mo = some (oO 11 [.int (nI 0), .int sa, .ref la, .ref ma, .ref it, .ref rl, .ref fr, .ref li, .ref wa, .ref ld, .int ac, .ref tp, .int tn, .int cu, .int sr, .int tk, .int va, .int ft, .int fA, .int lt, .ref so, .ref ik, .ref kp, .ref kl, .ref tc, .int tt]) := fx_up_s _ _ _
  refine lv_aload_n hx hb dX12_whose_5 rfl (lv_at hl 0 rfl) ?_
  refine fx_go1 hH (fx_runV C hH hl.1 (As := []) (rest := []) (c_X12_isThere (G := G) (base := base) (l := l) (f := fx_up f mo (oO 11 [.int (nI 0), .int sa, .ref la, .ref ma, .ref it, .ref rl, .ref fr, .ref li, .ref wa, .ref ld, .int ac, .ref tp, .int tn, .int cu, .int sr, .int tk, .int va, .int ft, .int fA, .int lt, .ref so, .ref ik, .ref kp, .ref kl, .ref tc, .int tt])) (sz := sz) (P := P) (mo := mo) (th := nI 0) (sa := sa) (la := la) (ma := ma) (it := it) (rl := rl) (fr := fr) (li := li) (wa := wa) (ld := ld) (ac := ac) (tp := tp) (tn := tn) (cu := cu) (sr := sr) (tk := tk) (va := va) (ft := ft) (fA := fA) (lt := lt) (so := so) (ik := ik) (kp := kp) (kl := kl) (tc := tc) (tt := tt) (rho := rho) h1_mo h1_rl hP (by omega)) mY_X12_isThere ml_X12_176 im_X12_isThere se_X12_X12_isThere h1_mo rfl rfl ⟨(Nat.le_of_ble_eq_true rfl), (Nat.le_of_ble_eq_true rfl)⟩ rfl (Nat.le_of_ble_eq_true rfl) ⟨(Nat.le_of_ble_eq_true rfl), (Nat.le_of_ble_eq_true rfl)⟩ dX12_whose_6) (fun H locs hH => ?_)
  refine fx_b_ne hx hb (tgt := 15) dX12_whose_9 (by decide) (fun c9 => ?_) (fun c9 => ?_)
  · refine lv_iload_n hx hb dX12_whose_15 rfl (lv_at hl 1 rfl) ?_
    refine fx_go1 hH (fx_runS C hH hl.1 (As := [.int r]) (rest := []) (c_X12_isRow (G := G) (base := base) (l := l) (f := fx_up f mo (oO 11 [.int (nI 0), .int sa, .ref la, .ref ma, .ref it, .ref rl, .ref fr, .ref li, .ref wa, .ref ld, .int ac, .ref tp, .int tn, .int cu, .int sr, .int tk, .int va, .int ft, .int fA, .int lt, .ref so, .ref ik, .ref kp, .ref kl, .ref tc, .int tt])) (sz := sz) (r := r) ) mY_X12_isRow ml_X12_68 st_X12_isRow rfl ⟨(Nat.le_of_ble_eq_true rfl), (Nat.le_of_ble_eq_true rfl)⟩ rfl (Nat.le_of_ble_eq_true rfl) ⟨(Nat.le_of_ble_eq_true rfl), (Nat.le_of_ble_eq_true rfl)⟩ dX12_whose_16) (fun H locs hH => ?_)
    refine fx_b_eq hx hb (tgt := 34) dX12_whose_19 (by decide) (fun c19 => ?_) (fun c19 => absurd c19 (hr0))
    refine lv_ldc (v := (-1000001)) hx hb C.2.2.2.1 (C.2.2.2.2.1 _ kI_X12_74 rfl args) dX12_whose_34 ?_
    exact fx_iretP C hr hk hH (K1 c9) (Nat.zero_le _) (Nat.zero_le _) dX12_whose_36
  · refine lv_ldc (v := (-1000002)) hx hb C.2.2.2.1 (C.2.2.2.2.1 _ kI_X12_172 rfl args) dX12_whose_12 ?_
    exact fx_iretP C hr hk hH (K2 c9) (Nat.zero_le _) (Nat.zero_le _) dX12_whose_14
set_option maxHeartbeats 4000000 in
set_option maxRecDepth 100000 in
theorem c_X12_whose_k {G : GG} {base : Nat} {l : Launch} {f : Hp} {sz : Nat} {Po : Option Value → Hp → Nat → Prop} {P : Nat} {tl : Nat} {sn : Nat} {wy : Int32} {Ks : Nat → Nat} {wis : Nat → Nat} {ags : Nat → Nat} {cvf : Nat → Nat} {mo : Nat} {kk : Nat} {i : Int32} {n : Int32} {th : Int32} {sa : Int32} {la : Nat} {ma : Nat} {it : Nat} {rl : Nat} {fr : Nat} {li : Nat} {wa : Nat} {ld : Nat} {ac : Int32} {tp : Nat} {tn : Int32} {cu : Int32} {sr : Int32} {tk : Int32} {va : Int32} {ft : Int32} {fA : Int32} {lt : Int32} {so : Nat} {ik : Nat} {kp : Nat} {kl : Nat} {tc : Nat} {tt : Int32} {rho : Nat → Int32} {lam : Nat → Int64} {gso : Nat → Int64} {gla : Nat → Int32} {gma : Nat → Int32} {git : Nat → Int32} (h_mo : f mo = some (oO 11 [.int th, .int sa, .ref la, .ref ma, .ref it, .ref rl, .ref fr, .ref li, .ref wa, .ref ld, .int ac, .ref tp, .int tn, .int cu, .int sr, .int tk, .int va, .int ft, .int fA, .int lt, .ref so, .ref ik, .ref kp, .ref kl, .ref tc, .int tt])) (h_rl : f rl = some (oI 48 rho)) (h_li : f li = some (oJ 13 lam)) (h_so : f so = some (oJ 13 gso)) (h_la : f la = some (oI 8 gla)) (h_ma : f ma = some (oI 8 gma)) (h_it : f it = some (oI 320 git)) (hne_0 : rl ≠ la) (hne_1 : rl ≠ ma) (hne_2 : rl ≠ it) (hne_3 : li ≠ so) (hne_4 : la ≠ ma) (hne_5 : la ≠ it) (hne_6 : ma ≠ it) (hkk : kk < 8) (hgm : gma kk = nI sn) (hsn : sn ≤ 40) (hP : rho 0 = nI P) (hP2 : P = 0 ∨ 4 ≤ P ∧ P ≤ 12) (ht : rho 5 = nI tl) (htl : tl ≤ 4) (hwy : rho 7 = wy) (hsk : ∀ j, j < tl → rho (36 + (3 * j) + 0) = nI (Ks j) ∧ rho (36 + (3 * j) + 1) = nI (wis j) ∧ rho (36 + (3 * j) + 2) = nI (ags j) ∧ (1 ≤ Ks j ∧ Ks j ≤ 5) ∧ wis j ≤ 10 ∧ ags j ≤ 10) (hcf : ∀ z, z < P → rho (24 + z) = nI (cvf z) ∧ cvf z ≤ 10) (K1 : ∀ (c9 : (0 < P)), ∀ (c31 : (¬ n < nI 1 ∧ ¬ nI 6 < n)), ∀ (c43 : (0 : Int32) ≤ (gla kk)), ∀ (c53 : i < (0 : Int32)), Po (some (.int ((-1000010) - (nI 2)))) (fx_up f mo (oO 11 [.int (nI 0), .int (nI 2), .ref la, .ref ma, .ref it, .ref rl, .ref fr, .ref li, .ref wa, .ref ld, .int ac, .ref tp, .int tn, .int cu, .int sr, .int tk, .int va, .int ft, .int fA, .int lt, .ref so, .ref ik, .ref kp, .ref kl, .ref tc, .int tt])) sz)
    (K2 : ∀ (c9 : (0 < P)), ∀ (c31 : (¬ n < nI 1 ∧ ¬ nI 6 < n)), ∀ (c43 : (0 : Int32) ≤ (gla kk)), ∀ (c53 : ¬ i < (0 : Int32)), ∀ (c69 : (i.toInt64 + n.toInt64) ≤ ((gma kk).toInt64)), ∀ (ix : Nat), ∀ (nn : Nat), ∀ (hix : ix + nn ≤ sn), ∀ (hn1 : 1 ≤ nn ∧ nn ≤ 6), ∀ (hie : i = nI ix), ∀ (hne : n = nI nn), ∀ (i0 : Nat), ∀ (hi0 : i0 ≤ nn), ∀ (hall : ∀ z, z < i0 → ¬ git (40 * kk + ix + z) < nI 0 ∧ ¬ (nI P - nI 1) < git (40 * kk + ix + z)), ∀ (c92 : nn ≤ i0), ∀ (i1 : Nat), ∀ (q_ : Nat → Int64), ∀ (hi1 : i1 ≤ tl), ∀ (c140 : tl ≤ i1), Po (some (.int (whS (fun k_ => hsP lam P wy (fun z => (git (40 * kk + ix + z)).toNatClampNeg) cvf (Ks k_) (wis k_) (ags k_) nn (rho 11) (fun z => git (40 * kk + ix + z))) i1))) (fx_up (fx_up f mo (oO 11 [.int (nI 0), .int (nI 0), .ref la, .ref ma, .ref it, .ref rl, .ref fr, .ref li, .ref wa, .ref ld, .int ac, .ref tp, .int tn, .int cu, .int sr, .int tk, .int va, .int ft, .int fA, .int lt, .ref so, .ref ik, .ref kp, .ref kl, .ref tc, .int tt])) so (oJ 13 q_)) sz)
    (K3 : ∀ (c9 : (0 < P)), ∀ (c31 : (¬ n < nI 1 ∧ ¬ nI 6 < n)), ∀ (c43 : (0 : Int32) ≤ (gla kk)), ∀ (c53 : ¬ i < (0 : Int32)), ∀ (c69 : (i.toInt64 + n.toInt64) ≤ ((gma kk).toInt64)), ∀ (ix : Nat), ∀ (nn : Nat), ∀ (hix : ix + nn ≤ sn), ∀ (hn1 : 1 ≤ nn ∧ nn ≤ 6), ∀ (hie : i = nI ix), ∀ (hne : n = nI nn), ∀ (i0 : Nat), ∀ (hi0 : i0 ≤ nn), ∀ (hall : ∀ z, z < i0 → ¬ git (40 * kk + ix + z) < nI 0 ∧ ¬ (nI P - nI 1) < git (40 * kk + ix + z)), ∀ (c92 : i0 < nn), ∀ (c109 : ¬ (¬ (git (40 * kk + ix + i0)) < nI 0 ∧ ¬ (nI P - nI 1) < (git (40 * kk + ix + i0)))), Po (some (.int (-1000001))) (fx_up f mo (oO 11 [.int (nI 0), .int sa, .ref la, .ref ma, .ref it, .ref rl, .ref fr, .ref li, .ref wa, .ref ld, .int ac, .ref tp, .int tn, .int cu, .int sr, .int tk, .int va, .int ft, .int fA, .int lt, .ref so, .ref ik, .ref kp, .ref kl, .ref tc, .int tt])) sz)
    (K4 : ∀ (c9 : (0 < P)), ∀ (c31 : (¬ n < nI 1 ∧ ¬ nI 6 < n)), ∀ (c43 : (0 : Int32) ≤ (gla kk)), ∀ (c53 : ¬ i < (0 : Int32)), ∀ (c69 : ¬ (i.toInt64 + n.toInt64) ≤ ((gma kk).toInt64)), Po (some (.int ((-1000010) - (nI 2)))) (fx_up f mo (oO 11 [.int (nI 0), .int (nI 2), .ref la, .ref ma, .ref it, .ref rl, .ref fr, .ref li, .ref wa, .ref ld, .int ac, .ref tp, .int tn, .int cu, .int sr, .int tk, .int va, .int ft, .int fA, .int lt, .ref so, .ref ik, .ref kp, .ref kl, .ref tc, .int tt])) sz)
    (K5 : ∀ (c9 : (0 < P)), ∀ (c31 : (¬ n < nI 1 ∧ ¬ nI 6 < n)), ∀ (c43 : ¬ (0 : Int32) ≤ (gla kk)), Po (some (.int ((-1000010) - (nI 1)))) (fx_up f mo (oO 11 [.int (nI 0), .int (nI 1), .ref la, .ref ma, .ref it, .ref rl, .ref fr, .ref li, .ref wa, .ref ld, .int ac, .ref tp, .int tn, .int cu, .int sr, .int tk, .int va, .int ft, .int fA, .int lt, .ref so, .ref ik, .ref kp, .ref kl, .ref tc, .int tt])) sz)
    (K6 : ∀ (c9 : (0 < P)), ∀ (c31 : ¬ (¬ n < nI 1 ∧ ¬ nI 6 < n)), Po (some (.int (-1000001))) (fx_up f mo (oO 11 [.int (nI 0), .int sa, .ref la, .ref ma, .ref it, .ref rl, .ref fr, .ref li, .ref wa, .ref ld, .int ac, .ref tp, .int tn, .int cu, .int sr, .int tk, .int va, .int ft, .int fA, .int lt, .ref so, .ref ik, .ref kp, .ref kl, .ref tc, .int tt])) sz)
    (K7 : ∀ (c9 : ¬ (0 < P)), Po (some (.int (-1000002))) (fx_up f mo (oO 11 [.int (nI 0), .int sa, .ref la, .ref ma, .ref it, .ref rl, .ref fr, .ref li, .ref wa, .ref ld, .int ac, .ref tp, .int tn, .int cu, .int sr, .int tk, .int va, .int ft, .int fA, .int lt, .ref so, .ref ik, .ref kp, .ref kl, .ref tc, .int tt])) sz) : fx_MP G base l yX12_whose cX12_whose 7 (some .int) rm_X12_whose [.ref mo, .int (nI kk), .int i, .int n] f sz Po := by
  refine fx_ofP (by decide +kernel) (Nat.le_of_ble_eq_true rfl) ?_
  intro p e s m args below meth c C hr hk hnm hH ls hl
  obtain ⟨locs, hlocs⟩ : ∃ L : List Loc, L = [] := ⟨_, rfl⟩
  rw [← hlocs] at hH ⊢
  generalize s.heap = H at hH ⊢
  have hx := C.1
  have hb := C.2.1
  have hl : lv_has ls 7 [(0, .ref mo), (1, .int (nI kk)), (2, .int i), (3, .int n)] := hl
  refine lv_aload_n hx hb dX12_whose_0 rfl (lv_at hl 0 rfl) ?_
  refine lv_iconst (v := nI 0) hx hb dX12_whose_1 (by decide) ?_
  refine fx_putT C hH (k := 0) h_mo ff_X12_54_11 fL_11 fT_11_0 rfl rfl (Nat.le_of_ble_eq_true rfl) dX12_whose_2 (fun H locs hH => ?_)
  have hH : fx_H G base s (fx_up f mo (oO 11 [.int (nI 0), .int sa, .ref la, .ref ma, .ref it, .ref rl, .ref fr, .ref li, .ref wa, .ref ld, .int ac, .ref tp, .int tn, .int cu, .int sr, .int tk, .int va, .int ft, .int fA, .int lt, .ref so, .ref ik, .ref kp, .ref kl, .ref tc, .int tt])) sz H locs := hH
  have h1_rl : (fx_up f mo (oO 11 [.int (nI 0), .int sa, .ref la, .ref ma, .ref it, .ref rl, .ref fr, .ref li, .ref wa, .ref ld, .int ac, .ref tp, .int tn, .int cu, .int sr, .int tk, .int va, .int ft, .int fA, .int lt, .ref so, .ref ik, .ref kp, .ref kl, .ref tc, .int tt])) rl = some (oI 48 rho) := (fx_up_n _ _ (fx_ne h_rl h_mo rfl)).trans h_rl
  have h1_li : (fx_up f mo (oO 11 [.int (nI 0), .int sa, .ref la, .ref ma, .ref it, .ref rl, .ref fr, .ref li, .ref wa, .ref ld, .int ac, .ref tp, .int tn, .int cu, .int sr, .int tk, .int va, .int ft, .int fA, .int lt, .ref so, .ref ik, .ref kp, .ref kl, .ref tc, .int tt])) li = some (oJ 13 lam) := (fx_up_n _ _ (fx_ne h_li h_mo rfl)).trans h_li
  have h1_so : (fx_up f mo (oO 11 [.int (nI 0), .int sa, .ref la, .ref ma, .ref it, .ref rl, .ref fr, .ref li, .ref wa, .ref ld, .int ac, .ref tp, .int tn, .int cu, .int sr, .int tk, .int va, .int ft, .int fA, .int lt, .ref so, .ref ik, .ref kp, .ref kl, .ref tc, .int tt])) so = some (oJ 13 gso) := (fx_up_n _ _ (fx_ne h_so h_mo rfl)).trans h_so
  have h1_la : (fx_up f mo (oO 11 [.int (nI 0), .int sa, .ref la, .ref ma, .ref it, .ref rl, .ref fr, .ref li, .ref wa, .ref ld, .int ac, .ref tp, .int tn, .int cu, .int sr, .int tk, .int va, .int ft, .int fA, .int lt, .ref so, .ref ik, .ref kp, .ref kl, .ref tc, .int tt])) la = some (oI 8 gla) := (fx_up_n _ _ (fx_ne h_la h_mo rfl)).trans h_la
  have h1_ma : (fx_up f mo (oO 11 [.int (nI 0), .int sa, .ref la, .ref ma, .ref it, .ref rl, .ref fr, .ref li, .ref wa, .ref ld, .int ac, .ref tp, .int tn, .int cu, .int sr, .int tk, .int va, .int ft, .int fA, .int lt, .ref so, .ref ik, .ref kp, .ref kl, .ref tc, .int tt])) ma = some (oI 8 gma) := (fx_up_n _ _ (fx_ne h_ma h_mo rfl)).trans h_ma
  have h1_it : (fx_up f mo (oO 11 [.int (nI 0), .int sa, .ref la, .ref ma, .ref it, .ref rl, .ref fr, .ref li, .ref wa, .ref ld, .int ac, .ref tp, .int tn, .int cu, .int sr, .int tk, .int va, .int ft, .int fA, .int lt, .ref so, .ref ik, .ref kp, .ref kl, .ref tc, .int tt])) it = some (oI 320 git) := (fx_up_n _ _ (fx_ne h_it h_mo rfl)).trans h_it
  have h1_mo : (fx_up f mo (oO 11 [.int (nI 0), .int sa, .ref la, .ref ma, .ref it, .ref rl, .ref fr, .ref li, .ref wa, .ref ld, .int ac, .ref tp, .int tn, .int cu, .int sr, .int tk, .int va, .int ft, .int fA, .int lt, .ref so, .ref ik, .ref kp, .ref kl, .ref tc, .int tt])) mo = some (oO 11 [.int (nI 0), .int sa, .ref la, .ref ma, .ref it, .ref rl, .ref fr, .ref li, .ref wa, .ref ld, .int ac, .ref tp, .int tn, .int cu, .int sr, .int tk, .int va, .int ft, .int fA, .int lt, .ref so, .ref ik, .ref kp, .ref kl, .ref tc, .int tt]) := fx_up_s _ _ _
  refine lv_aload_n hx hb dX12_whose_5 rfl (lv_at hl 0 rfl) ?_
  refine fx_go1 hH (fx_runV C hH hl.1 (As := []) (rest := []) (c_X12_isThere (G := G) (base := base) (l := l) (f := fx_up f mo (oO 11 [.int (nI 0), .int sa, .ref la, .ref ma, .ref it, .ref rl, .ref fr, .ref li, .ref wa, .ref ld, .int ac, .ref tp, .int tn, .int cu, .int sr, .int tk, .int va, .int ft, .int fA, .int lt, .ref so, .ref ik, .ref kp, .ref kl, .ref tc, .int tt])) (sz := sz) (P := P) (mo := mo) (th := nI 0) (sa := sa) (la := la) (ma := ma) (it := it) (rl := rl) (fr := fr) (li := li) (wa := wa) (ld := ld) (ac := ac) (tp := tp) (tn := tn) (cu := cu) (sr := sr) (tk := tk) (va := va) (ft := ft) (fA := fA) (lt := lt) (so := so) (ik := ik) (kp := kp) (kl := kl) (tc := tc) (tt := tt) (rho := rho) h1_mo h1_rl hP (by omega)) mY_X12_isThere ml_X12_176 im_X12_isThere se_X12_X12_isThere h1_mo rfl rfl ⟨(Nat.le_of_ble_eq_true rfl), (Nat.le_of_ble_eq_true rfl)⟩ rfl (Nat.le_of_ble_eq_true rfl) ⟨(Nat.le_of_ble_eq_true rfl), (Nat.le_of_ble_eq_true rfl)⟩ dX12_whose_6) (fun H locs hH => ?_)
  refine fx_b_ne hx hb (tgt := 15) dX12_whose_9 (by decide) (fun c9 => ?_) (fun c9 => ?_)
  · refine lv_iload_n hx hb dX12_whose_15 rfl (lv_at hl 1 rfl) ?_
    refine fx_go1 hH (fx_runS C hH hl.1 (As := [.int (nI kk)]) (rest := []) (c_X12_isRow (G := G) (base := base) (l := l) (f := fx_up f mo (oO 11 [.int (nI 0), .int sa, .ref la, .ref ma, .ref it, .ref rl, .ref fr, .ref li, .ref wa, .ref ld, .int ac, .ref tp, .int tn, .int cu, .int sr, .int tk, .int va, .int ft, .int fA, .int lt, .ref so, .ref ik, .ref kp, .ref kl, .ref tc, .int tt])) (sz := sz) (r := nI kk) ) mY_X12_isRow ml_X12_68 st_X12_isRow rfl ⟨(Nat.le_of_ble_eq_true rfl), (Nat.le_of_ble_eq_true rfl)⟩ rfl (Nat.le_of_ble_eq_true rfl) ⟨(Nat.le_of_ble_eq_true rfl), (Nat.le_of_ble_eq_true rfl)⟩ dX12_whose_16) (fun H locs hH => ?_)
    refine fx_b_eq hx hb (tgt := 34) dX12_whose_19 (by decide) (fun c19 => absurd c19 (fun z => z (rng1' (by omega) (by omega) (by omega)))) (fun c19 => ?_)
    refine lv_iload_n hx hb dX12_whose_22 rfl (lv_at hl 3 rfl) ?_
    refine lv_i2l (v := n.toInt64) hx hb dX12_whose_23 rfl ?_
    refine lv_lconst (v := lN 1) hx hb dX12_whose_24 (by decide) ?_
    refine lv_ldc2 (v := (6)) hx hb C.2.2.2.1 (C.2.2.2.2.1 _ kL_X12_241 rfl args) dX12_whose_25 ?_
    refine fx_tl (y := lN 6) (by decide) ?_
    refine fx_go1 hH (fx_runS C hH hl.1 (As := [.long n.toInt64, .long (lN 1), .long (lN 6)]) (rest := []) (c_X12_in_i (G := G) (base := base) (l := l) (f := fx_up f mo (oO 11 [.int (nI 0), .int sa, .ref la, .ref ma, .ref it, .ref rl, .ref fr, .ref li, .ref wa, .ref ld, .int ac, .ref tp, .int tn, .int cu, .int sr, .int tk, .int va, .int ft, .int fA, .int lt, .ref so, .ref ik, .ref kp, .ref kl, .ref tc, .int tt])) (sz := sz) (x := n) (lo := 1) (hi := 6) (by omega) (by omega)) mY_X12_in ml_X12_64 st_X12_in rfl ⟨(Nat.le_of_ble_eq_true rfl), (Nat.le_of_ble_eq_true rfl)⟩ rfl (Nat.le_of_ble_eq_true rfl) ⟨(Nat.le_of_ble_eq_true rfl), (Nat.le_of_ble_eq_true rfl)⟩ dX12_whose_28) (fun H locs hH => ?_)
    refine fx_b_ne hx hb (tgt := 37) dX12_whose_31 (by decide) (fun c31 => ?_) (fun c31 => ?_)
    · refine lv_aload_n hx hb dX12_whose_37 rfl (lv_at hl 0 rfl) ?_
      refine fx_get C hH (k := 2) (v := .ref la) h1_mo ff_X12_7_11 rfl dX12_whose_38 ?_
      refine lv_iload_n hx hb dX12_whose_41 rfl (lv_at hl 1 rfl) ?_
      refine fx_ialdN C hH h1_la (by omega) (by omega) dX12_whose_42 ?_
      refine lv_if_ge hx hb (tgt := 52) dX12_whose_43 (by decide) (fun c43 => ?_) (fun c43 => ?_)
      · refine lv_iload_n hx hb dX12_whose_52 rfl (lv_at hl 2 rfl) ?_
        refine lv_if_lt hx hb (tgt := 72) dX12_whose_53 (by decide) (fun c53 => ?_) (fun c53 => ?_)
        · refine lv_aload_n hx hb dX12_whose_72 rfl (lv_at hl 0 rfl) ?_
          refine lv_iconst (v := nI 2) hx hb dX12_whose_73 (by decide) ?_
          refine fx_go1 hH (fx_runV C hH hl.1 (As := [.int (nI 2)]) (rest := []) (c_X12_finding (G := G) (base := base) (l := l) (f := fx_up f mo (oO 11 [.int (nI 0), .int sa, .ref la, .ref ma, .ref it, .ref rl, .ref fr, .ref li, .ref wa, .ref ld, .int ac, .ref tp, .int tn, .int cu, .int sr, .int tk, .int va, .int ft, .int fA, .int lt, .ref so, .ref ik, .ref kp, .ref kl, .ref tc, .int tt])) (sz := sz) (mo := mo) (nn := nI 2) (th := nI 0) (sa := sa) (la := la) (ma := ma) (it := it) (rl := rl) (fr := fr) (li := li) (wa := wa) (ld := ld) (ac := ac) (tp := tp) (tn := tn) (cu := cu) (sr := sr) (tk := tk) (va := va) (ft := ft) (fA := fA) (lt := lt) (so := so) (ik := ik) (kp := kp) (kl := kl) (tc := tc) (tt := tt) h1_mo) mY_X12_finding ml_X12_75 im_X12_finding se_X12_X12_finding h1_mo rfl rfl ⟨(Nat.le_of_ble_eq_true rfl), (Nat.le_of_ble_eq_true rfl)⟩ rfl (Nat.le_of_ble_eq_true rfl) ⟨(Nat.le_of_ble_eq_true rfl), (Nat.le_of_ble_eq_true rfl)⟩ dX12_whose_74) (fun H locs hH => ?_)
          have hH : fx_H G base s (fx_up (fx_up f mo (oO 11 [.int (nI 0), .int sa, .ref la, .ref ma, .ref it, .ref rl, .ref fr, .ref li, .ref wa, .ref ld, .int ac, .ref tp, .int tn, .int cu, .int sr, .int tk, .int va, .int ft, .int fA, .int lt, .ref so, .ref ik, .ref kp, .ref kl, .ref tc, .int tt])) mo (oO 11 [.int (nI 0), .int (nI 2), .ref la, .ref ma, .ref it, .ref rl, .ref fr, .ref li, .ref wa, .ref ld, .int ac, .ref tp, .int tn, .int cu, .int sr, .int tk, .int va, .int ft, .int fA, .int lt, .ref so, .ref ik, .ref kp, .ref kl, .ref tc, .int tt])) sz H locs := hH
          have heq2 : fx_up (fx_up f mo (oO 11 [.int (nI 0), .int sa, .ref la, .ref ma, .ref it, .ref rl, .ref fr, .ref li, .ref wa, .ref ld, .int ac, .ref tp, .int tn, .int cu, .int sr, .int tk, .int va, .int ft, .int fA, .int lt, .ref so, .ref ik, .ref kp, .ref kl, .ref tc, .int tt])) mo (oO 11 [.int (nI 0), .int (nI 2), .ref la, .ref ma, .ref it, .ref rl, .ref fr, .ref li, .ref wa, .ref ld, .int ac, .ref tp, .int tn, .int cu, .int sr, .int tk, .int va, .int ft, .int fA, .int lt, .ref so, .ref ik, .ref kp, .ref kl, .ref tc, .int tt]) = fx_up f mo (oO 11 [.int (nI 0), .int (nI 2), .ref la, .ref ma, .ref it, .ref rl, .ref fr, .ref li, .ref wa, .ref ld, .int ac, .ref tp, .int tn, .int cu, .int sr, .int tk, .int va, .int ft, .int fA, .int lt, .ref so, .ref ik, .ref kp, .ref kl, .ref tc, .int tt]) := by rw [fx_up_up]
          rw [heq2] at hH
          have h2_rl : (fx_up f mo (oO 11 [.int (nI 0), .int (nI 2), .ref la, .ref ma, .ref it, .ref rl, .ref fr, .ref li, .ref wa, .ref ld, .int ac, .ref tp, .int tn, .int cu, .int sr, .int tk, .int va, .int ft, .int fA, .int lt, .ref so, .ref ik, .ref kp, .ref kl, .ref tc, .int tt])) rl = some (oI 48 rho) := (congrFun heq2 rl).symm.trans ((fx_up_n _ _ (fx_ne h1_rl h1_mo rfl)).trans h1_rl)
          have h2_li : (fx_up f mo (oO 11 [.int (nI 0), .int (nI 2), .ref la, .ref ma, .ref it, .ref rl, .ref fr, .ref li, .ref wa, .ref ld, .int ac, .ref tp, .int tn, .int cu, .int sr, .int tk, .int va, .int ft, .int fA, .int lt, .ref so, .ref ik, .ref kp, .ref kl, .ref tc, .int tt])) li = some (oJ 13 lam) := (congrFun heq2 li).symm.trans ((fx_up_n _ _ (fx_ne h1_li h1_mo rfl)).trans h1_li)
          have h2_so : (fx_up f mo (oO 11 [.int (nI 0), .int (nI 2), .ref la, .ref ma, .ref it, .ref rl, .ref fr, .ref li, .ref wa, .ref ld, .int ac, .ref tp, .int tn, .int cu, .int sr, .int tk, .int va, .int ft, .int fA, .int lt, .ref so, .ref ik, .ref kp, .ref kl, .ref tc, .int tt])) so = some (oJ 13 gso) := (congrFun heq2 so).symm.trans ((fx_up_n _ _ (fx_ne h1_so h1_mo rfl)).trans h1_so)
          have h2_la : (fx_up f mo (oO 11 [.int (nI 0), .int (nI 2), .ref la, .ref ma, .ref it, .ref rl, .ref fr, .ref li, .ref wa, .ref ld, .int ac, .ref tp, .int tn, .int cu, .int sr, .int tk, .int va, .int ft, .int fA, .int lt, .ref so, .ref ik, .ref kp, .ref kl, .ref tc, .int tt])) la = some (oI 8 gla) := (congrFun heq2 la).symm.trans ((fx_up_n _ _ (fx_ne h1_la h1_mo rfl)).trans h1_la)
          have h2_ma : (fx_up f mo (oO 11 [.int (nI 0), .int (nI 2), .ref la, .ref ma, .ref it, .ref rl, .ref fr, .ref li, .ref wa, .ref ld, .int ac, .ref tp, .int tn, .int cu, .int sr, .int tk, .int va, .int ft, .int fA, .int lt, .ref so, .ref ik, .ref kp, .ref kl, .ref tc, .int tt])) ma = some (oI 8 gma) := (congrFun heq2 ma).symm.trans ((fx_up_n _ _ (fx_ne h1_ma h1_mo rfl)).trans h1_ma)
          have h2_it : (fx_up f mo (oO 11 [.int (nI 0), .int (nI 2), .ref la, .ref ma, .ref it, .ref rl, .ref fr, .ref li, .ref wa, .ref ld, .int ac, .ref tp, .int tn, .int cu, .int sr, .int tk, .int va, .int ft, .int fA, .int lt, .ref so, .ref ik, .ref kp, .ref kl, .ref tc, .int tt])) it = some (oI 320 git) := (congrFun heq2 it).symm.trans ((fx_up_n _ _ (fx_ne h1_it h1_mo rfl)).trans h1_it)
          have h2_mo : (fx_up f mo (oO 11 [.int (nI 0), .int (nI 2), .ref la, .ref ma, .ref it, .ref rl, .ref fr, .ref li, .ref wa, .ref ld, .int ac, .ref tp, .int tn, .int cu, .int sr, .int tk, .int va, .int ft, .int fA, .int lt, .ref so, .ref ik, .ref kp, .ref kl, .ref tc, .int tt])) mo = some (oO 11 [.int (nI 0), .int (nI 2), .ref la, .ref ma, .ref it, .ref rl, .ref fr, .ref li, .ref wa, .ref ld, .int ac, .ref tp, .int tn, .int cu, .int sr, .int tk, .int va, .int ft, .int fA, .int lt, .ref so, .ref ik, .ref kp, .ref kl, .ref tc, .int tt]) := (congrFun heq2 mo).symm.trans (fx_up_s _ _ _)
          have hH : fx_H G base s (fx_up f mo (oO 11 [.int (nI 0), .int (nI 2), .ref la, .ref ma, .ref it, .ref rl, .ref fr, .ref li, .ref wa, .ref ld, .int ac, .ref tp, .int tn, .int cu, .int sr, .int tk, .int va, .int ft, .int fA, .int lt, .ref so, .ref ik, .ref kp, .ref kl, .ref tc, .int tt])) sz H locs := hH
          exact fx_iretP C hr hk hH (K1 c9 c31 c43 c53) (Nat.zero_le _) (Nat.zero_le _) dX12_whose_77
        · refine lv_iload_n hx hb dX12_whose_56 rfl (lv_at hl 2 rfl) ?_
          refine lv_i2l (v := i.toInt64) hx hb dX12_whose_57 rfl ?_
          refine lv_iload_n hx hb dX12_whose_58 rfl (lv_at hl 3 rfl) ?_
          refine lv_i2l (v := n.toInt64) hx hb dX12_whose_59 rfl ?_
          refine lv_ladd hx hb dX12_whose_60 ?_
          refine lv_aload_n hx hb dX12_whose_61 rfl (lv_at hl 0 rfl) ?_
          refine fx_get C hH (k := 3) (v := .ref ma) h1_mo ff_X12_13_11 rfl dX12_whose_62 ?_
          refine lv_iload_n hx hb dX12_whose_65 rfl (lv_at hl 1 rfl) ?_
          refine fx_ialdN C hH h1_ma (by omega) (by omega) dX12_whose_66 ?_
          refine lv_i2l (v := (gma kk).toInt64) hx hb dX12_whose_67 rfl ?_
          refine W.lcmp hx hb dX12_whose_68 ?_
          refine fx_J_le hx hb (tgt := 78) dX12_whose_69 (by decide) (fun c69 => ?_) (fun c69 => ?_)
          · obtain ⟨ix, nn, hix, rfl, rfl⟩ := hld3 (by omega) hgm c53 (fun q9 => c31.1 (by rw [fa_lt] at q9 ⊢; rw [nI_toInt (by omega)]; show _ < ((1 : Nat) : Int); have h9 : ((0 : Int32)).toInt = 0 := (by decide); omega)) c69
            have hn1 : 1 ≤ nn ∧ nn ≤ 6 := ⟨Nat.le_of_not_lt fun q9 => c31.1 ((nI_ltI (by omega) (by omega)).mpr q9), Nat.le_of_not_lt fun q9 => c31.2 ((nI_ltI (by omega) (by omega)).mpr q9)⟩
            have hP3 := hP2.resolve_left (by omega)
            · skip
              refine lv_bipush (v := nI 40) hx hb dX12_whose_78 (by decide) ?_
              refine lv_iload_n hx hb dX12_whose_80 rfl (lv_at hl 1 rfl) ?_
              refine lv_imul hx hb dX12_whose_81 ?_
              refine fx_ti (y := nI (40 * kk)) (pk_mul _ _) ?_
              refine lv_iload_n hx hb dX12_whose_82 rfl (lv_at hl 2 rfl) ?_
              refine lv_iadd hx hb dX12_whose_83 ?_
              refine fx_ti (y := nI (40 * kk + ix)) (nI_add _ _) ?_
              refine lv_istore (lv' := [(4, .int (nI (40 * kk + ix))), (0, .ref mo), (1, .int (nI kk)), (2, .int (nI ix)), (3, .int (nI nn))]) hx hb dX12_whose_84 hl (by decide) rfl (fun ls hl => ?_)
              refine lv_iconst (v := nI 0) hx hb dX12_whose_86 (by decide) ?_
              refine lv_istore (lv' := [(5, .int (nI 0)), (4, .int (nI (40 * kk + ix))), (0, .ref mo), (1, .int (nI kk)), (2, .int (nI ix)), (3, .int (nI nn))]) hx hb dX12_whose_87 hl (by decide) rfl (fun ls hl => ?_)
              have loop_89 : ∀ (N_89 : Nat) (i0 : Nat) (hi0 : i0 ≤ nn) (hall : ∀ z, z < i0 → ¬ git (40 * kk + ix + z) < nI 0 ∧ ¬ (nI P - nI 1) < git (40 * kk + ix + z)) (hm_89 : nn - i0 < N_89) (H : Heap) (locs : List Loc) (hH : fx_H G base s (fx_up f mo (oO 11 [.int (nI 0), .int sa, .ref la, .ref ma, .ref it, .ref rl, .ref fr, .ref li, .ref wa, .ref ld, .int ac, .ref tp, .int tn, .int cu, .int sr, .int tk, .int va, .int ft, .int fA, .int lt, .ref so, .ref ik, .ref kp, .ref kl, .ref tc, .int tt])) sz H locs) (ls : Array Slot) (hl : lv_has ls 7 [(0, .ref mo), (1, .int (nI kk)), (2, .int (nI ix)), (3, .int (nI nn)), (4, .int (nI (40 * kk + ix))), (5, .int (nI i0))]), W p l e rm_X12_whose s m args below meth c H locs 0 0 (MQ below (fx_QP G base Po) args s rm_X12_whose.cells rm_X12_whose.slots (fun q => base ≤ q)) (F0 m 89 ls []) := by
                intro N_89
                induction N_89 with
                | zero => intro i0 hi0 hall hm_89; exact absurd hm_89 (Nat.not_lt_zero _)
                | succ N_89 ih_89 =>
                  intro i0 hi0 hall hm_89 H locs hH ls hl
                  refine lv_iload hx hb dX12_whose_89 (lv_at hl 5 rfl) ?_
                  refine lv_iload_n hx hb dX12_whose_91 rfl (lv_at hl 3 rfl) ?_
                  refine fx_N_ge (a := i0) (b := nn) hx hb (by omega) (by omega) (tgt := 121) dX12_whose_92 (by decide) (fun c92 => ?_) (fun c92 => ?_)
                  · refine lv_aload_n hx hb dX12_whose_121 rfl (lv_at hl 0 rfl) ?_
                    refine lv_iconst (v := nI 0) hx hb dX12_whose_122 (by decide) ?_
                    refine fx_putT C hH (k := 1) h1_mo ff_X12_58_11 fL_11 fT_11_1 rfl rfl (Nat.le_of_ble_eq_true rfl) dX12_whose_123 (fun H locs hH => ?_)
                    have hH : fx_H G base s (fx_up (fx_up f mo (oO 11 [.int (nI 0), .int sa, .ref la, .ref ma, .ref it, .ref rl, .ref fr, .ref li, .ref wa, .ref ld, .int ac, .ref tp, .int tn, .int cu, .int sr, .int tk, .int va, .int ft, .int fA, .int lt, .ref so, .ref ik, .ref kp, .ref kl, .ref tc, .int tt])) mo (oO 11 [.int (nI 0), .int (nI 0), .ref la, .ref ma, .ref it, .ref rl, .ref fr, .ref li, .ref wa, .ref ld, .int ac, .ref tp, .int tn, .int cu, .int sr, .int tk, .int va, .int ft, .int fA, .int lt, .ref so, .ref ik, .ref kp, .ref kl, .ref tc, .int tt])) sz H locs := hH
                    rw [fx_up_up] at hH
                    have hH : fx_H G base s (fx_up f mo (oO 11 [.int (nI 0), .int (nI 0), .ref la, .ref ma, .ref it, .ref rl, .ref fr, .ref li, .ref wa, .ref ld, .int ac, .ref tp, .int tn, .int cu, .int sr, .int tk, .int va, .int ft, .int fA, .int lt, .ref so, .ref ik, .ref kp, .ref kl, .ref tc, .int tt])) sz H locs := hH
                    have heq3 : fx_up (fx_up f mo (oO 11 [.int (nI 0), .int sa, .ref la, .ref ma, .ref it, .ref rl, .ref fr, .ref li, .ref wa, .ref ld, .int ac, .ref tp, .int tn, .int cu, .int sr, .int tk, .int va, .int ft, .int fA, .int lt, .ref so, .ref ik, .ref kp, .ref kl, .ref tc, .int tt])) mo (oO 11 [.int (nI 0), .int (nI 0), .ref la, .ref ma, .ref it, .ref rl, .ref fr, .ref li, .ref wa, .ref ld, .int ac, .ref tp, .int tn, .int cu, .int sr, .int tk, .int va, .int ft, .int fA, .int lt, .ref so, .ref ik, .ref kp, .ref kl, .ref tc, .int tt]) = fx_up f mo (oO 11 [.int (nI 0), .int (nI 0), .ref la, .ref ma, .ref it, .ref rl, .ref fr, .ref li, .ref wa, .ref ld, .int ac, .ref tp, .int tn, .int cu, .int sr, .int tk, .int va, .int ft, .int fA, .int lt, .ref so, .ref ik, .ref kp, .ref kl, .ref tc, .int tt]) := by rw [fx_up_up]
                    have h3_rl : (fx_up f mo (oO 11 [.int (nI 0), .int (nI 0), .ref la, .ref ma, .ref it, .ref rl, .ref fr, .ref li, .ref wa, .ref ld, .int ac, .ref tp, .int tn, .int cu, .int sr, .int tk, .int va, .int ft, .int fA, .int lt, .ref so, .ref ik, .ref kp, .ref kl, .ref tc, .int tt])) rl = some (oI 48 rho) := (congrFun heq3 rl).symm.trans ((fx_up_n _ _ (fx_ne h1_rl h1_mo rfl)).trans h1_rl)
                    have h3_li : (fx_up f mo (oO 11 [.int (nI 0), .int (nI 0), .ref la, .ref ma, .ref it, .ref rl, .ref fr, .ref li, .ref wa, .ref ld, .int ac, .ref tp, .int tn, .int cu, .int sr, .int tk, .int va, .int ft, .int fA, .int lt, .ref so, .ref ik, .ref kp, .ref kl, .ref tc, .int tt])) li = some (oJ 13 lam) := (congrFun heq3 li).symm.trans ((fx_up_n _ _ (fx_ne h1_li h1_mo rfl)).trans h1_li)
                    have h3_so : (fx_up f mo (oO 11 [.int (nI 0), .int (nI 0), .ref la, .ref ma, .ref it, .ref rl, .ref fr, .ref li, .ref wa, .ref ld, .int ac, .ref tp, .int tn, .int cu, .int sr, .int tk, .int va, .int ft, .int fA, .int lt, .ref so, .ref ik, .ref kp, .ref kl, .ref tc, .int tt])) so = some (oJ 13 gso) := (congrFun heq3 so).symm.trans ((fx_up_n _ _ (fx_ne h1_so h1_mo rfl)).trans h1_so)
                    have h3_la : (fx_up f mo (oO 11 [.int (nI 0), .int (nI 0), .ref la, .ref ma, .ref it, .ref rl, .ref fr, .ref li, .ref wa, .ref ld, .int ac, .ref tp, .int tn, .int cu, .int sr, .int tk, .int va, .int ft, .int fA, .int lt, .ref so, .ref ik, .ref kp, .ref kl, .ref tc, .int tt])) la = some (oI 8 gla) := (congrFun heq3 la).symm.trans ((fx_up_n _ _ (fx_ne h1_la h1_mo rfl)).trans h1_la)
                    have h3_ma : (fx_up f mo (oO 11 [.int (nI 0), .int (nI 0), .ref la, .ref ma, .ref it, .ref rl, .ref fr, .ref li, .ref wa, .ref ld, .int ac, .ref tp, .int tn, .int cu, .int sr, .int tk, .int va, .int ft, .int fA, .int lt, .ref so, .ref ik, .ref kp, .ref kl, .ref tc, .int tt])) ma = some (oI 8 gma) := (congrFun heq3 ma).symm.trans ((fx_up_n _ _ (fx_ne h1_ma h1_mo rfl)).trans h1_ma)
                    have h3_it : (fx_up f mo (oO 11 [.int (nI 0), .int (nI 0), .ref la, .ref ma, .ref it, .ref rl, .ref fr, .ref li, .ref wa, .ref ld, .int ac, .ref tp, .int tn, .int cu, .int sr, .int tk, .int va, .int ft, .int fA, .int lt, .ref so, .ref ik, .ref kp, .ref kl, .ref tc, .int tt])) it = some (oI 320 git) := (congrFun heq3 it).symm.trans ((fx_up_n _ _ (fx_ne h1_it h1_mo rfl)).trans h1_it)
                    have h3_mo : (fx_up f mo (oO 11 [.int (nI 0), .int (nI 0), .ref la, .ref ma, .ref it, .ref rl, .ref fr, .ref li, .ref wa, .ref ld, .int ac, .ref tp, .int tn, .int cu, .int sr, .int tk, .int va, .int ft, .int fA, .int lt, .ref so, .ref ik, .ref kp, .ref kl, .ref tc, .int tt])) mo = some (oO 11 [.int (nI 0), .int (nI 0), .ref la, .ref ma, .ref it, .ref rl, .ref fr, .ref li, .ref wa, .ref ld, .int ac, .ref tp, .int tn, .int cu, .int sr, .int tk, .int va, .int ft, .int fA, .int lt, .ref so, .ref ik, .ref kp, .ref kl, .ref tc, .int tt]) := (congrFun heq3 mo).symm.trans (fx_up_s _ _ _)
                    refine lv_iconst (v := nI 0) hx hb dX12_whose_126 (by decide) ?_
                    refine lv_istore (lv' := [(5, .int (nI 0)), (0, .ref mo), (1, .int (nI kk)), (2, .int (nI ix)), (3, .int (nI nn)), (4, .int (nI (40 * kk + ix)))]) hx hb dX12_whose_127 hl (by decide) rfl (fun ls hl => ?_)
                    refine lv_iconst (v := nI 0) hx hb dX12_whose_129 (by decide) ?_
                    refine lv_istore (lv' := [(6, .int (nI 0)), (5, .int (nI 0)), (0, .ref mo), (1, .int (nI kk)), (2, .int (nI ix)), (3, .int (nI nn)), (4, .int (nI (40 * kk + ix)))]) hx hb dX12_whose_130 hl (by decide) rfl (fun ls hl => ?_)
                    have loop_132 : ∀ (N_132 : Nat) (i1 : Nat) (q_ : Nat → Int64) (hi1 : i1 ≤ tl) (hm_132 : tl - i1 < N_132) (H : Heap) (locs : List Loc) (hH : fx_H G base s (fx_up (fx_up f mo (oO 11 [.int (nI 0), .int (nI 0), .ref la, .ref ma, .ref it, .ref rl, .ref fr, .ref li, .ref wa, .ref ld, .int ac, .ref tp, .int tn, .int cu, .int sr, .int tk, .int va, .int ft, .int fA, .int lt, .ref so, .ref ik, .ref kp, .ref kl, .ref tc, .int tt])) so (oJ 13 q_)) sz H locs) (ls : Array Slot) (hl : lv_has ls 7 [(0, .ref mo), (1, .int (nI kk)), (2, .int (nI ix)), (3, .int (nI nn)), (4, .int (nI (40 * kk + ix))), (5, .int (whS (fun k_ => hsP lam P wy (fun z => (git (40 * kk + ix + z)).toNatClampNeg) cvf (Ks k_) (wis k_) (ags k_) nn (rho 11) (fun z => git (40 * kk + ix + z))) i1)), (6, .int (nI i1))]), W p l e rm_X12_whose s m args below meth c H locs 0 0 (MQ below (fx_QP G base Po) args s rm_X12_whose.cells rm_X12_whose.slots (fun q => base ≤ q)) (F0 m 132 ls []) := by
                      intro N_132
                      induction N_132 with
                      | zero => intro i1 q_ hi1 hm_132; exact absurd hm_132 (Nat.not_lt_zero _)
                      | succ N_132 ih_132 =>
                        intro i1 q_ hi1 hm_132 H locs hH ls hl
                        have h4_rl : (fx_up (fx_up f mo (oO 11 [.int (nI 0), .int (nI 0), .ref la, .ref ma, .ref it, .ref rl, .ref fr, .ref li, .ref wa, .ref ld, .int ac, .ref tp, .int tn, .int cu, .int sr, .int tk, .int va, .int ft, .int fA, .int lt, .ref so, .ref ik, .ref kp, .ref kl, .ref tc, .int tt])) so (oJ 13 q_)) rl = some (oI 48 rho) := (fx_up_n _ _ (fx_ne h3_rl h3_so rfl)).trans ((fx_up_n _ _ (fx_ne h3_rl h3_mo rfl)).trans (h_rl))
                        have h4_li : (fx_up (fx_up f mo (oO 11 [.int (nI 0), .int (nI 0), .ref la, .ref ma, .ref it, .ref rl, .ref fr, .ref li, .ref wa, .ref ld, .int ac, .ref tp, .int tn, .int cu, .int sr, .int tk, .int va, .int ft, .int fA, .int lt, .ref so, .ref ik, .ref kp, .ref kl, .ref tc, .int tt])) so (oJ 13 q_)) li = some (oJ 13 lam) := (fx_up_n _ _ hne_3).trans ((fx_up_n _ _ (fx_ne h3_li h3_mo rfl)).trans (h_li))
                        have h4_so : (fx_up (fx_up f mo (oO 11 [.int (nI 0), .int (nI 0), .ref la, .ref ma, .ref it, .ref rl, .ref fr, .ref li, .ref wa, .ref ld, .int ac, .ref tp, .int tn, .int cu, .int sr, .int tk, .int va, .int ft, .int fA, .int lt, .ref so, .ref ik, .ref kp, .ref kl, .ref tc, .int tt])) so (oJ 13 q_)) so = some (oJ 13 q_) := fx_up_s _ _ _
                        have h4_la : (fx_up (fx_up f mo (oO 11 [.int (nI 0), .int (nI 0), .ref la, .ref ma, .ref it, .ref rl, .ref fr, .ref li, .ref wa, .ref ld, .int ac, .ref tp, .int tn, .int cu, .int sr, .int tk, .int va, .int ft, .int fA, .int lt, .ref so, .ref ik, .ref kp, .ref kl, .ref tc, .int tt])) so (oJ 13 q_)) la = some (oI 8 gla) := (fx_up_n _ _ (fx_ne h3_la h3_so rfl)).trans ((fx_up_n _ _ (fx_ne h3_la h3_mo rfl)).trans (h_la))
                        have h4_ma : (fx_up (fx_up f mo (oO 11 [.int (nI 0), .int (nI 0), .ref la, .ref ma, .ref it, .ref rl, .ref fr, .ref li, .ref wa, .ref ld, .int ac, .ref tp, .int tn, .int cu, .int sr, .int tk, .int va, .int ft, .int fA, .int lt, .ref so, .ref ik, .ref kp, .ref kl, .ref tc, .int tt])) so (oJ 13 q_)) ma = some (oI 8 gma) := (fx_up_n _ _ (fx_ne h3_ma h3_so rfl)).trans ((fx_up_n _ _ (fx_ne h3_ma h3_mo rfl)).trans (h_ma))
                        have h4_it : (fx_up (fx_up f mo (oO 11 [.int (nI 0), .int (nI 0), .ref la, .ref ma, .ref it, .ref rl, .ref fr, .ref li, .ref wa, .ref ld, .int ac, .ref tp, .int tn, .int cu, .int sr, .int tk, .int va, .int ft, .int fA, .int lt, .ref so, .ref ik, .ref kp, .ref kl, .ref tc, .int tt])) so (oJ 13 q_)) it = some (oI 320 git) := (fx_up_n _ _ (fx_ne h3_it h3_so rfl)).trans ((fx_up_n _ _ (fx_ne h3_it h3_mo rfl)).trans (h_it))
                        have h4_mo : (fx_up (fx_up f mo (oO 11 [.int (nI 0), .int (nI 0), .ref la, .ref ma, .ref it, .ref rl, .ref fr, .ref li, .ref wa, .ref ld, .int ac, .ref tp, .int tn, .int cu, .int sr, .int tk, .int va, .int ft, .int fA, .int lt, .ref so, .ref ik, .ref kp, .ref kl, .ref tc, .int tt])) so (oJ 13 q_)) mo = some (oO 11 [.int (nI 0), .int (nI 0), .ref la, .ref ma, .ref it, .ref rl, .ref fr, .ref li, .ref wa, .ref ld, .int ac, .ref tp, .int tn, .int cu, .int sr, .int tk, .int va, .int ft, .int fA, .int lt, .ref so, .ref ik, .ref kp, .ref kl, .ref tc, .int tt]) := (fx_up_n _ _ (fx_ne h3_mo h3_so rfl)).trans (fx_up_s _ _ _)
                        refine lv_iload hx hb dX12_whose_132 (lv_at hl 6 rfl) ?_
                        refine lv_aload_n hx hb dX12_whose_134 rfl (lv_at hl 0 rfl) ?_
                        refine fx_get C hH (k := 5) (v := .ref rl) h4_mo ff_X12_19_11 rfl dX12_whose_135 ?_
                        refine lv_iconst (v := nI 5) hx hb dX12_whose_138 (by decide) ?_
                        refine fx_ialdN C hH h4_rl (by omega) (by omega) dX12_whose_139 ?_
                        refine fx_ti (y := nI tl) ht ?_
                        refine fx_N_ge (a := i1) (b := tl) hx hb (by omega) (by omega) (tgt := 174) dX12_whose_140 (by decide) (fun c140 => ?_) (fun c140 => ?_)
                        · refine lv_iload hx hb dX12_whose_174 (lv_at hl 5 rfl) ?_
                          exact fx_iretP C hr hk hH (K2 c9 c31 c43 c53 c69 ix nn hix hn1 rfl rfl i0 hi0 hall c92 i1 q_ hi1 c140) (Nat.zero_le _) (Nat.zero_le _) dX12_whose_176
                        · refine lv_iload hx hb dX12_whose_143 (lv_at hl 5 rfl) ?_
                          refine lv_aload_n hx hb dX12_whose_145 rfl (lv_at hl 0 rfl) ?_
                          refine lv_iload hx hb dX12_whose_146 (lv_at hl 6 rfl) ?_
                          refine lv_iload hx hb dX12_whose_148 (lv_at hl 4 rfl) ?_
                          refine lv_iload_n hx hb dX12_whose_150 rfl (lv_at hl 3 rfl) ?_
                          have hsk3 := hsk i1 (by omega)
                          have hpt : ∀ z, z < nn → git (40 * kk + ix + z) = nI ((fun z => (git (40 * kk + ix + z)).toNatClampNeg) z) ∧ (fun z => (git (40 * kk + ix + z)).toNatClampNeg) z < P := fun z hz => by
                            obtain ⟨kz, h8, h9⟩ := rngS (by omega) (hall z (by omega))
                            show git (40 * kk + ix + z) = nI ((git (40 * kk + ix + z)).toNatClampNeg) ∧ (git (40 * kk + ix + z)).toNatClampNeg < P
                            rw [h9, nI_clamp (by omega)]; exact ⟨rfl, by omega⟩
                          have hH0 := hH
                          refine fx_afterP hH (fx_runVP C hH hl.1 (As := [.int (nI i1), .int (nI (40 * kk + ix)), .int (nI nn)]) (rest := [.int (whS (fun k_ => hsP lam P wy (fun z => (git (40 * kk + ix + z)).toNatClampNeg) cvf (Ks k_) (wis k_) (ags k_) nn (rho 11) (fun z => git (40 * kk + ix + z))) i1)]) (c_X12_isHis (G := G) (base := base) (l := l) (f := fx_up (fx_up f mo (oO 11 [.int (nI 0), .int (nI 0), .ref la, .ref ma, .ref it, .ref rl, .ref fr, .ref li, .ref wa, .ref ld, .int ac, .ref tp, .int tn, .int cu, .int sr, .int tk, .int va, .int ft, .int fA, .int lt, .ref so, .ref ik, .ref kp, .ref kl, .ref tc, .int tt])) so (oJ 13 q_)) (sz := sz) (K := Ks i1) (wi := wis i1) (ag := ags i1) (P := P) (wy := wy) (pt := (fun z => (git (40 * kk + ix + z)).toNatClampNeg)) (cvf := cvf) (mo := mo) (j := i1) (at_ := 40 * kk + ix) (n := nn) (th := nI 0) (sa := nI 0) (la := la) (ma := ma) (it := it) (rl := rl) (fr := fr) (li := li) (wa := wa) (ld := ld) (ac := ac) (tp := tp) (tn := tn) (cu := cu) (sr := sr) (tk := tk) (va := va) (ft := ft) (fA := fA) (lt := lt) (so := so) (ik := ik) (kp := kp) (kl := kl) (tc := tc) (tt := tt) (rho := rho) (lam := lam) (gso := q_) (git := git) h4_mo h4_rl h4_li h4_so h4_it hne_2 hne_3 (by omega) hsk3.1 hsk3.2.1 hsk3.2.2.1 hsk3.2.2.2.1 hsk3.2.2.2.2.1 hsk3.2.2.2.2.2 hP (by omega) hwy (by omega) (by omega) hpt hcf) mY_X12_isHis ml_X12_243 im_X12_isHis se_X12_X12_isHis h4_mo rfl rfl ⟨(Nat.le_of_ble_eq_true rfl), (Nat.le_of_ble_eq_true rfl)⟩ rfl (Nat.le_of_ble_eq_true rfl) ⟨(Nat.le_of_ble_eq_true rfl), (Nat.le_of_ble_eq_true rfl)⟩ dX12_whose_151) (fun v_ f_ sz_ H locs hPo hH => ?_)
                          obtain ⟨q__5, hv_, hf_, hs_⟩ := hPo
                          subst v_
                          subst f_
                          subst sz_
                          show W _ _ _ _ _ _ _ _ _ _ _ _ _ _ _ (F0 m 154 ls (.int (bI (∀ k_, k_ < nn - 1 → nxR (Ks i1) (qH (fJ q_ 0 lam 13) P wy (fun z => (git (40 * kk + ix + z)).toNatClampNeg) cvf (Ks i1) (wis i1) (ags i1) (k_ + 1)) ((fun z => (git (40 * kk + ix + z)).toNatClampNeg) k_) wy 0 (rho 11) P = git ((40 * kk + ix) + k_ + 1))) :: [.int (whS (fun k_ => hsP lam P wy (fun z => (git (40 * kk + ix + z)).toNatClampNeg) cvf (Ks k_) (wis k_) (ags k_) nn (rho 11) (fun z => git (40 * kk + ix + z))) i1)]))
                          have hH : fx_H G base s (fx_up (fx_up (fx_up f mo (oO 11 [.int (nI 0), .int (nI 0), .ref la, .ref ma, .ref it, .ref rl, .ref fr, .ref li, .ref wa, .ref ld, .int ac, .ref tp, .int tn, .int cu, .int sr, .int tk, .int va, .int ft, .int fA, .int lt, .ref so, .ref ik, .ref kp, .ref kl, .ref tc, .int tt])) so (oJ 13 q_)) so (oJ 13 q__5)) sz H locs := hH
                          have heq6 : fx_up (fx_up (fx_up f mo (oO 11 [.int (nI 0), .int (nI 0), .ref la, .ref ma, .ref it, .ref rl, .ref fr, .ref li, .ref wa, .ref ld, .int ac, .ref tp, .int tn, .int cu, .int sr, .int tk, .int va, .int ft, .int fA, .int lt, .ref so, .ref ik, .ref kp, .ref kl, .ref tc, .int tt])) so (oJ 13 q_)) so (oJ 13 q__5) = fx_up (fx_up f mo (oO 11 [.int (nI 0), .int (nI 0), .ref la, .ref ma, .ref it, .ref rl, .ref fr, .ref li, .ref wa, .ref ld, .int ac, .ref tp, .int tn, .int cu, .int sr, .int tk, .int va, .int ft, .int fA, .int lt, .ref so, .ref ik, .ref kp, .ref kl, .ref tc, .int tt])) so (oJ 13 q__5) := by rw [fx_up_up]
                          rw [heq6] at hH
                          have h6_rl : (fx_up (fx_up f mo (oO 11 [.int (nI 0), .int (nI 0), .ref la, .ref ma, .ref it, .ref rl, .ref fr, .ref li, .ref wa, .ref ld, .int ac, .ref tp, .int tn, .int cu, .int sr, .int tk, .int va, .int ft, .int fA, .int lt, .ref so, .ref ik, .ref kp, .ref kl, .ref tc, .int tt])) so (oJ 13 q__5)) rl = some (oI 48 rho) := (congrFun heq6 rl).symm.trans ((fx_up_n _ _ (fx_ne h4_rl h4_so rfl)).trans h4_rl)
                          have h6_li : (fx_up (fx_up f mo (oO 11 [.int (nI 0), .int (nI 0), .ref la, .ref ma, .ref it, .ref rl, .ref fr, .ref li, .ref wa, .ref ld, .int ac, .ref tp, .int tn, .int cu, .int sr, .int tk, .int va, .int ft, .int fA, .int lt, .ref so, .ref ik, .ref kp, .ref kl, .ref tc, .int tt])) so (oJ 13 q__5)) li = some (oJ 13 lam) := (congrFun heq6 li).symm.trans ((fx_up_n _ _ hne_3).trans h4_li)
                          have h6_la : (fx_up (fx_up f mo (oO 11 [.int (nI 0), .int (nI 0), .ref la, .ref ma, .ref it, .ref rl, .ref fr, .ref li, .ref wa, .ref ld, .int ac, .ref tp, .int tn, .int cu, .int sr, .int tk, .int va, .int ft, .int fA, .int lt, .ref so, .ref ik, .ref kp, .ref kl, .ref tc, .int tt])) so (oJ 13 q__5)) la = some (oI 8 gla) := (congrFun heq6 la).symm.trans ((fx_up_n _ _ (fx_ne h4_la h4_so rfl)).trans h4_la)
                          have h6_ma : (fx_up (fx_up f mo (oO 11 [.int (nI 0), .int (nI 0), .ref la, .ref ma, .ref it, .ref rl, .ref fr, .ref li, .ref wa, .ref ld, .int ac, .ref tp, .int tn, .int cu, .int sr, .int tk, .int va, .int ft, .int fA, .int lt, .ref so, .ref ik, .ref kp, .ref kl, .ref tc, .int tt])) so (oJ 13 q__5)) ma = some (oI 8 gma) := (congrFun heq6 ma).symm.trans ((fx_up_n _ _ (fx_ne h4_ma h4_so rfl)).trans h4_ma)
                          have h6_it : (fx_up (fx_up f mo (oO 11 [.int (nI 0), .int (nI 0), .ref la, .ref ma, .ref it, .ref rl, .ref fr, .ref li, .ref wa, .ref ld, .int ac, .ref tp, .int tn, .int cu, .int sr, .int tk, .int va, .int ft, .int fA, .int lt, .ref so, .ref ik, .ref kp, .ref kl, .ref tc, .int tt])) so (oJ 13 q__5)) it = some (oI 320 git) := (congrFun heq6 it).symm.trans ((fx_up_n _ _ (fx_ne h4_it h4_so rfl)).trans h4_it)
                          have h6_mo : (fx_up (fx_up f mo (oO 11 [.int (nI 0), .int (nI 0), .ref la, .ref ma, .ref it, .ref rl, .ref fr, .ref li, .ref wa, .ref ld, .int ac, .ref tp, .int tn, .int cu, .int sr, .int tk, .int va, .int ft, .int fA, .int lt, .ref so, .ref ik, .ref kp, .ref kl, .ref tc, .int tt])) so (oJ 13 q__5)) mo = some (oO 11 [.int (nI 0), .int (nI 0), .ref la, .ref ma, .ref it, .ref rl, .ref fr, .ref li, .ref wa, .ref ld, .int ac, .ref tp, .int tn, .int cu, .int sr, .int tk, .int va, .int ft, .int fA, .int lt, .ref so, .ref ik, .ref kp, .ref kl, .ref tc, .int tt]) := (congrFun heq6 mo).symm.trans ((fx_up_n _ _ (fx_ne h4_mo h4_so rfl)).trans h4_mo)
                          have h6_so : (fx_up (fx_up f mo (oO 11 [.int (nI 0), .int (nI 0), .ref la, .ref ma, .ref it, .ref rl, .ref fr, .ref li, .ref wa, .ref ld, .int ac, .ref tp, .int tn, .int cu, .int sr, .int tk, .int va, .int ft, .int fA, .int lt, .ref so, .ref ik, .ref kp, .ref kl, .ref tc, .int tt])) so (oJ 13 q__5)) so = some (oJ 13 q__5) := (congrFun heq6 so).symm.trans (fx_up_s _ _ _)
                          have hH : fx_H G base s (fx_up (fx_up f mo (oO 11 [.int (nI 0), .int (nI 0), .ref la, .ref ma, .ref it, .ref rl, .ref fr, .ref li, .ref wa, .ref ld, .int ac, .ref tp, .int tn, .int cu, .int sr, .int tk, .int va, .int ft, .int fA, .int lt, .ref so, .ref ik, .ref kp, .ref kl, .ref tc, .int tt])) so (oJ 13 q__5)) sz H locs := hH
                          refine fx_ti (y := bI (hsP lam P wy (fun z => (git (40 * kk + ix + z)).toNatClampNeg) cvf (Ks i1) (wis i1) (ags i1) nn (rho 11) (fun z => git (40 * kk + ix + z)))) (bI_c ⟨fun h9 z hz => (nxR_c (fun j hj => qH_c fJ_c (z + 1) j (by omega))).symm.trans (h9 z hz), fun h9 z hz => (nxR_c (fun j hj => qH_c fJ_c (z + 1) j (by omega))).trans (h9 z hz)⟩) ?_
                          refine fx_b_eq hx hb (tgt := 164) dX12_whose_154 (by decide) (fun c154 => ?_) (fun c154 => ?_)
                          · refine lv_iconst (v := nI 0) hx hb dX12_whose_164 (by decide) ?_
                            refine lv_ior hx hb dX12_whose_165 ?_
                            refine lv_istore (lv' := [(5, .int ((whS (fun k_ => hsP lam P wy (fun z => (git (40 * kk + ix + z)).toNatClampNeg) cvf (Ks k_) (wis k_) (ags k_) nn (rho 11) (fun z => git (40 * kk + ix + z))) i1) ||| (nI 0))), (0, .ref mo), (1, .int (nI kk)), (2, .int (nI ix)), (3, .int (nI nn)), (4, .int (nI (40 * kk + ix))), (6, .int (nI i1))]) hx hb dX12_whose_166 hl (by decide) rfl (fun ls hl => ?_)
                            refine lv_iinc (v := nI (i1 + 1)) (lv' := [(6, .int (nI (i1 + 1))), (5, .int ((whS (fun k_ => hsP lam P wy (fun z => (git (40 * kk + ix + z)).toNatClampNeg) cvf (Ks k_) (wis k_) (ags k_) nn (rho 11) (fun z => git (40 * kk + ix + z))) i1) ||| (nI 0))), (0, .ref mo), (1, .int (nI kk)), (2, .int (nI ix)), (3, .int (nI nn)), (4, .int (nI (40 * kk + ix)))]) hx hb dX12_whose_168 hl (k := 6) rfl (nI_1 _) (by decide) rfl (fun ls hl => ?_)
                            refine lv_goto (tgt := 132) hx hb dX12_whose_171 (by decide) ?_
                            have hl : lv_has ls 7 [(0, .ref mo), (1, .int (nI kk)), (2, .int (nI ix)), (3, .int (nI nn)), (4, .int (nI (40 * kk + ix))), (5, .int ((whS (fun k_ => hsP lam P wy (fun z => (git (40 * kk + ix + z)).toNatClampNeg) cvf (Ks k_) (wis k_) (ags k_) nn (rho 11) (fun z => git (40 * kk + ix + z))) i1) ||| (nI 0))), (6, .int (nI (i1 + 1)))] := lv_sub hl [2, 3, 4, 5, 6, 1, 0] rfl
                            have hl : lv_has ls 7 [(0, .ref mo), (1, .int (nI kk)), (2, .int (nI ix)), (3, .int (nI nn)), (4, .int (nI (40 * kk + ix))), (5, .int (whS (fun k_ => hsP lam P wy (fun z => (git (40 * kk + ix + z)).toNatClampNeg) cvf (Ks k_) (wis k_) (ags k_) nn (rho 11) (fun z => git (40 * kk + ix + z))) (i1 + 1))), (6, .int (nI (i1 + 1)))] := by
                              have e_ : whS (fun k_ => hsP lam P wy (fun z => (git (40 * kk + ix + z)).toNatClampNeg) cvf (Ks k_) (wis k_) (ags k_) nn (rho 11) (fun z => git (40 * kk + ix + z))) (i1 + 1) = whS (fun k_ => hsP lam P wy (fun z => (git (40 * kk + ix + z)).toNatClampNeg) cvf (Ks k_) (wis k_) (ags k_) nn (rho 11) (fun z => git (40 * kk + ix + z))) i1 ||| nI 0 := by rw [whS, if_neg c154, or_0]
                              rw [e_]
                              exact hl
                            exact ih_132 (i1 + 1) q__5 (by omega) (by omega) _ _ hH _ hl
                          · refine lv_iconst (v := nI 1) hx hb dX12_whose_157 (by decide) ?_
                            refine lv_iload hx hb dX12_whose_158 (lv_at hl 6 rfl) ?_
                            refine lv_ishl hx hb dX12_whose_160 ?_
                            refine lv_goto (tgt := 165) hx hb dX12_whose_161 (by decide) ?_
                            refine lv_ior hx hb dX12_whose_165 ?_
                            refine lv_istore (lv' := [(5, .int ((whS (fun k_ => hsP lam P wy (fun z => (git (40 * kk + ix + z)).toNatClampNeg) cvf (Ks k_) (wis k_) (ags k_) nn (rho 11) (fun z => git (40 * kk + ix + z))) i1) ||| ((nI 1) <<< ((nI i1) &&& 31)))), (0, .ref mo), (1, .int (nI kk)), (2, .int (nI ix)), (3, .int (nI nn)), (4, .int (nI (40 * kk + ix))), (6, .int (nI i1))]) hx hb dX12_whose_166 hl (by decide) rfl (fun ls hl => ?_)
                            refine lv_iinc (v := nI (i1 + 1)) (lv' := [(6, .int (nI (i1 + 1))), (5, .int ((whS (fun k_ => hsP lam P wy (fun z => (git (40 * kk + ix + z)).toNatClampNeg) cvf (Ks k_) (wis k_) (ags k_) nn (rho 11) (fun z => git (40 * kk + ix + z))) i1) ||| ((nI 1) <<< ((nI i1) &&& 31)))), (0, .ref mo), (1, .int (nI kk)), (2, .int (nI ix)), (3, .int (nI nn)), (4, .int (nI (40 * kk + ix)))]) hx hb dX12_whose_168 hl (k := 6) rfl (nI_1 _) (by decide) rfl (fun ls hl => ?_)
                            refine lv_goto (tgt := 132) hx hb dX12_whose_171 (by decide) ?_
                            have hl : lv_has ls 7 [(0, .ref mo), (1, .int (nI kk)), (2, .int (nI ix)), (3, .int (nI nn)), (4, .int (nI (40 * kk + ix))), (5, .int ((whS (fun k_ => hsP lam P wy (fun z => (git (40 * kk + ix + z)).toNatClampNeg) cvf (Ks k_) (wis k_) (ags k_) nn (rho 11) (fun z => git (40 * kk + ix + z))) i1) ||| ((nI 1) <<< ((nI i1) &&& 31)))), (6, .int (nI (i1 + 1)))] := lv_sub hl [2, 3, 4, 5, 6, 1, 0] rfl
                            have hl : lv_has ls 7 [(0, .ref mo), (1, .int (nI kk)), (2, .int (nI ix)), (3, .int (nI nn)), (4, .int (nI (40 * kk + ix))), (5, .int (whS (fun k_ => hsP lam P wy (fun z => (git (40 * kk + ix + z)).toNatClampNeg) cvf (Ks k_) (wis k_) (ags k_) nn (rho 11) (fun z => git (40 * kk + ix + z))) (i1 + 1))), (6, .int (nI (i1 + 1)))] := by
                              have e_ : whS (fun k_ => hsP lam P wy (fun z => (git (40 * kk + ix + z)).toNatClampNeg) cvf (Ks k_) (wis k_) (ags k_) nn (rho 11) (fun z => git (40 * kk + ix + z))) (i1 + 1) = whS (fun k_ => hsP lam P wy (fun z => (git (40 * kk + ix + z)).toNatClampNeg) cvf (Ks k_) (wis k_) (ags k_) nn (rho 11) (fun z => git (40 * kk + ix + z))) i1 ||| (nI 1 <<< (nI i1 &&& 31)) := by rw [whS, if_pos c154]
                              rw [e_]
                              exact hl
                            exact ih_132 (i1 + 1) q__5 (by omega) (by omega) _ _ hH _ hl
                    have hl : lv_has ls 7 [(0, .ref mo), (1, .int (nI kk)), (2, .int (nI ix)), (3, .int (nI nn)), (4, .int (nI (40 * kk + ix))), (5, .int (nI 0)), (6, .int (nI 0))] := lv_sub hl [2, 3, 4, 5, 6, 1, 0] rfl
                    have hl : lv_has ls 7 [(0, .ref mo), (1, .int (nI kk)), (2, .int (nI ix)), (3, .int (nI nn)), (4, .int (nI (40 * kk + ix))), (5, .int (whS (fun k_ => hsP lam P wy (fun z => (git (40 * kk + ix + z)).toNatClampNeg) cvf (Ks k_) (wis k_) (ags k_) nn (rho 11) (fun z => git (40 * kk + ix + z))) 0)), (6, .int (nI 0))] := hl
                    have hH : fx_H G base s (fx_up (fx_up f mo (oO 11 [.int (nI 0), .int (nI 0), .ref la, .ref ma, .ref it, .ref rl, .ref fr, .ref li, .ref wa, .ref ld, .int ac, .ref tp, .int tn, .int cu, .int sr, .int tk, .int va, .int ft, .int fA, .int lt, .ref so, .ref ik, .ref kp, .ref kl, .ref tc, .int tt])) so (oJ 13 gso)) sz H locs := (by rw [fx_up_id (show (fx_up f mo (oO 11 [.int (nI 0), .int (nI 0), .ref la, .ref ma, .ref it, .ref rl, .ref fr, .ref li, .ref wa, .ref ld, .int ac, .ref tp, .int tn, .int cu, .int sr, .int tk, .int va, .int ft, .int fA, .int lt, .ref so, .ref ik, .ref kp, .ref kl, .ref tc, .int tt])) so = some (oJ 13 gso) from h3_so)]; exact hH)
                    exact loop_132 _ 0 gso (by omega) (Nat.lt_succ_self _) _ _ hH _ hl
                  · refine lv_aload_n hx hb dX12_whose_95 rfl (lv_at hl 0 rfl) ?_
                    refine lv_aload_n hx hb dX12_whose_96 rfl (lv_at hl 0 rfl) ?_
                    refine fx_get C hH (k := 4) (v := .ref it) h1_mo ff_X12_16_11 rfl dX12_whose_97 ?_
                    refine lv_iload hx hb dX12_whose_100 (lv_at hl 4 rfl) ?_
                    refine lv_iload hx hb dX12_whose_102 (lv_at hl 5 rfl) ?_
                    refine lv_iadd hx hb dX12_whose_104 ?_
                    refine fx_ti (y := nI (40 * kk + ix + i0)) (nI_add _ _) ?_
                    refine fx_ialdN C hH h1_it (by omega) (by omega) dX12_whose_105 ?_
                    refine fx_go1 hH (fx_runV C hH hl.1 (As := [.int (git (40 * kk + ix + i0))]) (rest := []) (c_X12_isPlace (G := G) (base := base) (l := l) (f := fx_up f mo (oO 11 [.int (nI 0), .int sa, .ref la, .ref ma, .ref it, .ref rl, .ref fr, .ref li, .ref wa, .ref ld, .int ac, .ref tp, .int tn, .int cu, .int sr, .int tk, .int va, .int ft, .int fA, .int lt, .ref so, .ref ik, .ref kp, .ref kl, .ref tc, .int tt])) (sz := sz) (P := P) (mo := mo) (pp := git (40 * kk + ix + i0)) (th := nI 0) (sa := sa) (la := la) (ma := ma) (it := it) (rl := rl) (fr := fr) (li := li) (wa := wa) (ld := ld) (ac := ac) (tp := tp) (tn := tn) (cu := cu) (sr := sr) (tk := tk) (va := va) (ft := ft) (fA := fA) (lt := lt) (so := so) (ik := ik) (kp := kp) (kl := kl) (tc := tc) (tt := tt) (rho := rho) h1_mo h1_rl hP) mY_X12_isPlace ml_X12_194 im_X12_isPlace se_X12_X12_isPlace h1_mo rfl rfl ⟨(Nat.le_of_ble_eq_true rfl), (Nat.le_of_ble_eq_true rfl)⟩ rfl (Nat.le_of_ble_eq_true rfl) ⟨(Nat.le_of_ble_eq_true rfl), (Nat.le_of_ble_eq_true rfl)⟩ dX12_whose_106) (fun H locs hH => ?_)
                    refine fx_b_ne hx hb (tgt := 115) dX12_whose_109 (by decide) (fun c109 => ?_) (fun c109 => ?_)
                    · refine lv_iinc (v := nI (i0 + 1)) (lv' := [(5, .int (nI (i0 + 1))), (0, .ref mo), (1, .int (nI kk)), (2, .int (nI ix)), (3, .int (nI nn)), (4, .int (nI (40 * kk + ix)))]) hx hb dX12_whose_115 hl (k := 5) rfl (nI_1 _) (by decide) rfl (fun ls hl => ?_)
                      refine lv_goto (tgt := 89) hx hb dX12_whose_118 (by decide) ?_
                      have hl : lv_has ls 7 [(0, .ref mo), (1, .int (nI kk)), (2, .int (nI ix)), (3, .int (nI nn)), (4, .int (nI (40 * kk + ix))), (5, .int (nI (i0 + 1)))] := lv_sub hl [1, 2, 3, 4, 5, 0] rfl
                      exact ih_89 (i0 + 1) (by omega) (fun z hz => by rcases Nat.lt_succ_iff_lt_or_eq.mp hz with q9 | q9; exact hall z q9; subst q9; exact c109) (by omega) _ _ hH _ hl
                    · refine lv_ldc (v := (-1000001)) hx hb C.2.2.2.1 (C.2.2.2.2.1 _ kI_X12_74 rfl args) dX12_whose_112 ?_
                      exact fx_iretP C hr hk hH (K3 c9 c31 c43 c53 c69 ix nn hix hn1 rfl rfl i0 hi0 hall c92 c109) (Nat.zero_le _) (Nat.zero_le _) dX12_whose_114
              have hl : lv_has ls 7 [(0, .ref mo), (1, .int (nI kk)), (2, .int (nI ix)), (3, .int (nI nn)), (4, .int (nI (40 * kk + ix))), (5, .int (nI 0))] := lv_sub hl [2, 3, 4, 5, 1, 0] rfl
              exact loop_89 _ 0 (by omega) (fun z hz => absurd hz (Nat.not_lt_zero _)) (Nat.lt_succ_self _) _ _ hH _ hl
          · refine lv_aload_n hx hb dX12_whose_72 rfl (lv_at hl 0 rfl) ?_
            refine lv_iconst (v := nI 2) hx hb dX12_whose_73 (by decide) ?_
            refine fx_go1 hH (fx_runV C hH hl.1 (As := [.int (nI 2)]) (rest := []) (c_X12_finding (G := G) (base := base) (l := l) (f := fx_up f mo (oO 11 [.int (nI 0), .int sa, .ref la, .ref ma, .ref it, .ref rl, .ref fr, .ref li, .ref wa, .ref ld, .int ac, .ref tp, .int tn, .int cu, .int sr, .int tk, .int va, .int ft, .int fA, .int lt, .ref so, .ref ik, .ref kp, .ref kl, .ref tc, .int tt])) (sz := sz) (mo := mo) (nn := nI 2) (th := nI 0) (sa := sa) (la := la) (ma := ma) (it := it) (rl := rl) (fr := fr) (li := li) (wa := wa) (ld := ld) (ac := ac) (tp := tp) (tn := tn) (cu := cu) (sr := sr) (tk := tk) (va := va) (ft := ft) (fA := fA) (lt := lt) (so := so) (ik := ik) (kp := kp) (kl := kl) (tc := tc) (tt := tt) h1_mo) mY_X12_finding ml_X12_75 im_X12_finding se_X12_X12_finding h1_mo rfl rfl ⟨(Nat.le_of_ble_eq_true rfl), (Nat.le_of_ble_eq_true rfl)⟩ rfl (Nat.le_of_ble_eq_true rfl) ⟨(Nat.le_of_ble_eq_true rfl), (Nat.le_of_ble_eq_true rfl)⟩ dX12_whose_74) (fun H locs hH => ?_)
            have hH : fx_H G base s (fx_up (fx_up f mo (oO 11 [.int (nI 0), .int sa, .ref la, .ref ma, .ref it, .ref rl, .ref fr, .ref li, .ref wa, .ref ld, .int ac, .ref tp, .int tn, .int cu, .int sr, .int tk, .int va, .int ft, .int fA, .int lt, .ref so, .ref ik, .ref kp, .ref kl, .ref tc, .int tt])) mo (oO 11 [.int (nI 0), .int (nI 2), .ref la, .ref ma, .ref it, .ref rl, .ref fr, .ref li, .ref wa, .ref ld, .int ac, .ref tp, .int tn, .int cu, .int sr, .int tk, .int va, .int ft, .int fA, .int lt, .ref so, .ref ik, .ref kp, .ref kl, .ref tc, .int tt])) sz H locs := hH
            have heq7 : fx_up (fx_up f mo (oO 11 [.int (nI 0), .int sa, .ref la, .ref ma, .ref it, .ref rl, .ref fr, .ref li, .ref wa, .ref ld, .int ac, .ref tp, .int tn, .int cu, .int sr, .int tk, .int va, .int ft, .int fA, .int lt, .ref so, .ref ik, .ref kp, .ref kl, .ref tc, .int tt])) mo (oO 11 [.int (nI 0), .int (nI 2), .ref la, .ref ma, .ref it, .ref rl, .ref fr, .ref li, .ref wa, .ref ld, .int ac, .ref tp, .int tn, .int cu, .int sr, .int tk, .int va, .int ft, .int fA, .int lt, .ref so, .ref ik, .ref kp, .ref kl, .ref tc, .int tt]) = fx_up f mo (oO 11 [.int (nI 0), .int (nI 2), .ref la, .ref ma, .ref it, .ref rl, .ref fr, .ref li, .ref wa, .ref ld, .int ac, .ref tp, .int tn, .int cu, .int sr, .int tk, .int va, .int ft, .int fA, .int lt, .ref so, .ref ik, .ref kp, .ref kl, .ref tc, .int tt]) := by rw [fx_up_up]
            rw [heq7] at hH
            have h7_rl : (fx_up f mo (oO 11 [.int (nI 0), .int (nI 2), .ref la, .ref ma, .ref it, .ref rl, .ref fr, .ref li, .ref wa, .ref ld, .int ac, .ref tp, .int tn, .int cu, .int sr, .int tk, .int va, .int ft, .int fA, .int lt, .ref so, .ref ik, .ref kp, .ref kl, .ref tc, .int tt])) rl = some (oI 48 rho) := (congrFun heq7 rl).symm.trans ((fx_up_n _ _ (fx_ne h1_rl h1_mo rfl)).trans h1_rl)
            have h7_li : (fx_up f mo (oO 11 [.int (nI 0), .int (nI 2), .ref la, .ref ma, .ref it, .ref rl, .ref fr, .ref li, .ref wa, .ref ld, .int ac, .ref tp, .int tn, .int cu, .int sr, .int tk, .int va, .int ft, .int fA, .int lt, .ref so, .ref ik, .ref kp, .ref kl, .ref tc, .int tt])) li = some (oJ 13 lam) := (congrFun heq7 li).symm.trans ((fx_up_n _ _ (fx_ne h1_li h1_mo rfl)).trans h1_li)
            have h7_so : (fx_up f mo (oO 11 [.int (nI 0), .int (nI 2), .ref la, .ref ma, .ref it, .ref rl, .ref fr, .ref li, .ref wa, .ref ld, .int ac, .ref tp, .int tn, .int cu, .int sr, .int tk, .int va, .int ft, .int fA, .int lt, .ref so, .ref ik, .ref kp, .ref kl, .ref tc, .int tt])) so = some (oJ 13 gso) := (congrFun heq7 so).symm.trans ((fx_up_n _ _ (fx_ne h1_so h1_mo rfl)).trans h1_so)
            have h7_la : (fx_up f mo (oO 11 [.int (nI 0), .int (nI 2), .ref la, .ref ma, .ref it, .ref rl, .ref fr, .ref li, .ref wa, .ref ld, .int ac, .ref tp, .int tn, .int cu, .int sr, .int tk, .int va, .int ft, .int fA, .int lt, .ref so, .ref ik, .ref kp, .ref kl, .ref tc, .int tt])) la = some (oI 8 gla) := (congrFun heq7 la).symm.trans ((fx_up_n _ _ (fx_ne h1_la h1_mo rfl)).trans h1_la)
            have h7_ma : (fx_up f mo (oO 11 [.int (nI 0), .int (nI 2), .ref la, .ref ma, .ref it, .ref rl, .ref fr, .ref li, .ref wa, .ref ld, .int ac, .ref tp, .int tn, .int cu, .int sr, .int tk, .int va, .int ft, .int fA, .int lt, .ref so, .ref ik, .ref kp, .ref kl, .ref tc, .int tt])) ma = some (oI 8 gma) := (congrFun heq7 ma).symm.trans ((fx_up_n _ _ (fx_ne h1_ma h1_mo rfl)).trans h1_ma)
            have h7_it : (fx_up f mo (oO 11 [.int (nI 0), .int (nI 2), .ref la, .ref ma, .ref it, .ref rl, .ref fr, .ref li, .ref wa, .ref ld, .int ac, .ref tp, .int tn, .int cu, .int sr, .int tk, .int va, .int ft, .int fA, .int lt, .ref so, .ref ik, .ref kp, .ref kl, .ref tc, .int tt])) it = some (oI 320 git) := (congrFun heq7 it).symm.trans ((fx_up_n _ _ (fx_ne h1_it h1_mo rfl)).trans h1_it)
            have h7_mo : (fx_up f mo (oO 11 [.int (nI 0), .int (nI 2), .ref la, .ref ma, .ref it, .ref rl, .ref fr, .ref li, .ref wa, .ref ld, .int ac, .ref tp, .int tn, .int cu, .int sr, .int tk, .int va, .int ft, .int fA, .int lt, .ref so, .ref ik, .ref kp, .ref kl, .ref tc, .int tt])) mo = some (oO 11 [.int (nI 0), .int (nI 2), .ref la, .ref ma, .ref it, .ref rl, .ref fr, .ref li, .ref wa, .ref ld, .int ac, .ref tp, .int tn, .int cu, .int sr, .int tk, .int va, .int ft, .int fA, .int lt, .ref so, .ref ik, .ref kp, .ref kl, .ref tc, .int tt]) := (congrFun heq7 mo).symm.trans (fx_up_s _ _ _)
            have hH : fx_H G base s (fx_up f mo (oO 11 [.int (nI 0), .int (nI 2), .ref la, .ref ma, .ref it, .ref rl, .ref fr, .ref li, .ref wa, .ref ld, .int ac, .ref tp, .int tn, .int cu, .int sr, .int tk, .int va, .int ft, .int fA, .int lt, .ref so, .ref ik, .ref kp, .ref kl, .ref tc, .int tt])) sz H locs := hH
            exact fx_iretP C hr hk hH (K4 c9 c31 c43 c53 c69) (Nat.zero_le _) (Nat.zero_le _) dX12_whose_77
      · refine lv_aload_n hx hb dX12_whose_46 rfl (lv_at hl 0 rfl) ?_
        refine lv_iconst (v := nI 1) hx hb dX12_whose_47 (by decide) ?_
        refine fx_go1 hH (fx_runV C hH hl.1 (As := [.int (nI 1)]) (rest := []) (c_X12_finding (G := G) (base := base) (l := l) (f := fx_up f mo (oO 11 [.int (nI 0), .int sa, .ref la, .ref ma, .ref it, .ref rl, .ref fr, .ref li, .ref wa, .ref ld, .int ac, .ref tp, .int tn, .int cu, .int sr, .int tk, .int va, .int ft, .int fA, .int lt, .ref so, .ref ik, .ref kp, .ref kl, .ref tc, .int tt])) (sz := sz) (mo := mo) (nn := nI 1) (th := nI 0) (sa := sa) (la := la) (ma := ma) (it := it) (rl := rl) (fr := fr) (li := li) (wa := wa) (ld := ld) (ac := ac) (tp := tp) (tn := tn) (cu := cu) (sr := sr) (tk := tk) (va := va) (ft := ft) (fA := fA) (lt := lt) (so := so) (ik := ik) (kp := kp) (kl := kl) (tc := tc) (tt := tt) h1_mo) mY_X12_finding ml_X12_75 im_X12_finding se_X12_X12_finding h1_mo rfl rfl ⟨(Nat.le_of_ble_eq_true rfl), (Nat.le_of_ble_eq_true rfl)⟩ rfl (Nat.le_of_ble_eq_true rfl) ⟨(Nat.le_of_ble_eq_true rfl), (Nat.le_of_ble_eq_true rfl)⟩ dX12_whose_48) (fun H locs hH => ?_)
        have hH : fx_H G base s (fx_up (fx_up f mo (oO 11 [.int (nI 0), .int sa, .ref la, .ref ma, .ref it, .ref rl, .ref fr, .ref li, .ref wa, .ref ld, .int ac, .ref tp, .int tn, .int cu, .int sr, .int tk, .int va, .int ft, .int fA, .int lt, .ref so, .ref ik, .ref kp, .ref kl, .ref tc, .int tt])) mo (oO 11 [.int (nI 0), .int (nI 1), .ref la, .ref ma, .ref it, .ref rl, .ref fr, .ref li, .ref wa, .ref ld, .int ac, .ref tp, .int tn, .int cu, .int sr, .int tk, .int va, .int ft, .int fA, .int lt, .ref so, .ref ik, .ref kp, .ref kl, .ref tc, .int tt])) sz H locs := hH
        have heq8 : fx_up (fx_up f mo (oO 11 [.int (nI 0), .int sa, .ref la, .ref ma, .ref it, .ref rl, .ref fr, .ref li, .ref wa, .ref ld, .int ac, .ref tp, .int tn, .int cu, .int sr, .int tk, .int va, .int ft, .int fA, .int lt, .ref so, .ref ik, .ref kp, .ref kl, .ref tc, .int tt])) mo (oO 11 [.int (nI 0), .int (nI 1), .ref la, .ref ma, .ref it, .ref rl, .ref fr, .ref li, .ref wa, .ref ld, .int ac, .ref tp, .int tn, .int cu, .int sr, .int tk, .int va, .int ft, .int fA, .int lt, .ref so, .ref ik, .ref kp, .ref kl, .ref tc, .int tt]) = fx_up f mo (oO 11 [.int (nI 0), .int (nI 1), .ref la, .ref ma, .ref it, .ref rl, .ref fr, .ref li, .ref wa, .ref ld, .int ac, .ref tp, .int tn, .int cu, .int sr, .int tk, .int va, .int ft, .int fA, .int lt, .ref so, .ref ik, .ref kp, .ref kl, .ref tc, .int tt]) := by rw [fx_up_up]
        rw [heq8] at hH
        have h8_rl : (fx_up f mo (oO 11 [.int (nI 0), .int (nI 1), .ref la, .ref ma, .ref it, .ref rl, .ref fr, .ref li, .ref wa, .ref ld, .int ac, .ref tp, .int tn, .int cu, .int sr, .int tk, .int va, .int ft, .int fA, .int lt, .ref so, .ref ik, .ref kp, .ref kl, .ref tc, .int tt])) rl = some (oI 48 rho) := (congrFun heq8 rl).symm.trans ((fx_up_n _ _ (fx_ne h1_rl h1_mo rfl)).trans h1_rl)
        have h8_li : (fx_up f mo (oO 11 [.int (nI 0), .int (nI 1), .ref la, .ref ma, .ref it, .ref rl, .ref fr, .ref li, .ref wa, .ref ld, .int ac, .ref tp, .int tn, .int cu, .int sr, .int tk, .int va, .int ft, .int fA, .int lt, .ref so, .ref ik, .ref kp, .ref kl, .ref tc, .int tt])) li = some (oJ 13 lam) := (congrFun heq8 li).symm.trans ((fx_up_n _ _ (fx_ne h1_li h1_mo rfl)).trans h1_li)
        have h8_so : (fx_up f mo (oO 11 [.int (nI 0), .int (nI 1), .ref la, .ref ma, .ref it, .ref rl, .ref fr, .ref li, .ref wa, .ref ld, .int ac, .ref tp, .int tn, .int cu, .int sr, .int tk, .int va, .int ft, .int fA, .int lt, .ref so, .ref ik, .ref kp, .ref kl, .ref tc, .int tt])) so = some (oJ 13 gso) := (congrFun heq8 so).symm.trans ((fx_up_n _ _ (fx_ne h1_so h1_mo rfl)).trans h1_so)
        have h8_la : (fx_up f mo (oO 11 [.int (nI 0), .int (nI 1), .ref la, .ref ma, .ref it, .ref rl, .ref fr, .ref li, .ref wa, .ref ld, .int ac, .ref tp, .int tn, .int cu, .int sr, .int tk, .int va, .int ft, .int fA, .int lt, .ref so, .ref ik, .ref kp, .ref kl, .ref tc, .int tt])) la = some (oI 8 gla) := (congrFun heq8 la).symm.trans ((fx_up_n _ _ (fx_ne h1_la h1_mo rfl)).trans h1_la)
        have h8_ma : (fx_up f mo (oO 11 [.int (nI 0), .int (nI 1), .ref la, .ref ma, .ref it, .ref rl, .ref fr, .ref li, .ref wa, .ref ld, .int ac, .ref tp, .int tn, .int cu, .int sr, .int tk, .int va, .int ft, .int fA, .int lt, .ref so, .ref ik, .ref kp, .ref kl, .ref tc, .int tt])) ma = some (oI 8 gma) := (congrFun heq8 ma).symm.trans ((fx_up_n _ _ (fx_ne h1_ma h1_mo rfl)).trans h1_ma)
        have h8_it : (fx_up f mo (oO 11 [.int (nI 0), .int (nI 1), .ref la, .ref ma, .ref it, .ref rl, .ref fr, .ref li, .ref wa, .ref ld, .int ac, .ref tp, .int tn, .int cu, .int sr, .int tk, .int va, .int ft, .int fA, .int lt, .ref so, .ref ik, .ref kp, .ref kl, .ref tc, .int tt])) it = some (oI 320 git) := (congrFun heq8 it).symm.trans ((fx_up_n _ _ (fx_ne h1_it h1_mo rfl)).trans h1_it)
        have h8_mo : (fx_up f mo (oO 11 [.int (nI 0), .int (nI 1), .ref la, .ref ma, .ref it, .ref rl, .ref fr, .ref li, .ref wa, .ref ld, .int ac, .ref tp, .int tn, .int cu, .int sr, .int tk, .int va, .int ft, .int fA, .int lt, .ref so, .ref ik, .ref kp, .ref kl, .ref tc, .int tt])) mo = some (oO 11 [.int (nI 0), .int (nI 1), .ref la, .ref ma, .ref it, .ref rl, .ref fr, .ref li, .ref wa, .ref ld, .int ac, .ref tp, .int tn, .int cu, .int sr, .int tk, .int va, .int ft, .int fA, .int lt, .ref so, .ref ik, .ref kp, .ref kl, .ref tc, .int tt]) := (congrFun heq8 mo).symm.trans (fx_up_s _ _ _)
        have hH : fx_H G base s (fx_up f mo (oO 11 [.int (nI 0), .int (nI 1), .ref la, .ref ma, .ref it, .ref rl, .ref fr, .ref li, .ref wa, .ref ld, .int ac, .ref tp, .int tn, .int cu, .int sr, .int tk, .int va, .int ft, .int fA, .int lt, .ref so, .ref ik, .ref kp, .ref kl, .ref tc, .int tt])) sz H locs := hH
        exact fx_iretP C hr hk hH (K5 c9 c31 c43) (Nat.zero_le _) (Nat.zero_le _) dX12_whose_51
    · refine lv_ldc (v := (-1000001)) hx hb C.2.2.2.1 (C.2.2.2.2.1 _ kI_X12_74 rfl args) dX12_whose_34 ?_
      exact fx_iretP C hr hk hH (K6 c9 c31) (Nat.zero_le _) (Nat.zero_le _) dX12_whose_36
  · refine lv_ldc (v := (-1000002)) hx hb C.2.2.2.1 (C.2.2.2.2.1 _ kI_X12_172 rfl args) dX12_whose_12 ?_
    exact fx_iretP C hr hk hH (K7 c9) (Nat.zero_le _) (Nat.zero_le _) dX12_whose_14
set_option maxHeartbeats 4000000 in
set_option maxRecDepth 100000 in
theorem c_X12_rule_kn {G : GG} {base : Nat} {l : Launch} {f : Hp} {sz : Nat} {Po : Option Value → Hp → Nat → Prop} {tl : Nat} {mo : Nat} {j : Nat} {r : Int32} {n : Int32} {m_ : Int32} {wh : Int32} {th : Int32} {sa : Int32} {la : Nat} {ma : Nat} {it : Nat} {rl : Nat} {fr : Nat} {li : Nat} {wa : Nat} {ld : Nat} {ac : Int32} {tp : Nat} {tn : Int32} {cu : Int32} {sr : Int32} {tk : Int32} {va : Int32} {ft : Int32} {fA : Int32} {lt : Int32} {so : Nat} {ik : Nat} {kp : Nat} {kl : Nat} {tc : Nat} {tt : Int32} {rho : Nat → Int32} (h_mo : f mo = some (oO 11 [.int th, .int sa, .ref la, .ref ma, .ref it, .ref rl, .ref fr, .ref li, .ref wa, .ref ld, .int ac, .ref tp, .int tn, .int cu, .int sr, .int tk, .int va, .int ft, .int fA, .int lt, .ref so, .ref ik, .ref kp, .ref kl, .ref tc, .int tt])) (h_rl : f rl = some (oI 48 rho)) (hj : j < tl) (htl : tl ≤ 4) (ht : rho 5 = nI tl) (hr0 : ¬ (¬ r < nI 0 ∧ ¬ nI 7 < r)) (K1 : Po (some (.long (-1000001))) (fx_up f mo (oO 11 [.int (nI 0), .int sa, .ref la, .ref ma, .ref it, .ref rl, .ref fr, .ref li, .ref wa, .ref ld, .int ac, .ref tp, .int tn, .int cu, .int sr, .int tk, .int va, .int ft, .int fA, .int lt, .ref so, .ref ik, .ref kp, .ref kl, .ref tc, .int tt])) sz) : fx_MP G base l yX12_rule cX12_rule 10 (some .long) rm_X12_rule [.ref mo, .int (nI j), .int r, .int n, .int m_, .int wh] f sz Po := by
  refine fx_ofP (by decide +kernel) (Nat.le_of_ble_eq_true rfl) ?_
  intro p e s m args below meth c C hr hk hnm hH ls hl
  obtain ⟨locs, hlocs⟩ : ∃ L : List Loc, L = [] := ⟨_, rfl⟩
  rw [← hlocs] at hH ⊢
  generalize s.heap = H at hH ⊢
  have hx := C.1
  have hb := C.2.1
  have hl : lv_has ls 10 [(0, .ref mo), (1, .int (nI j)), (2, .int r), (3, .int n), (4, .int m_), (5, .int wh)] := hl
  refine lv_aload_n hx hb dX12_rule_0 rfl (lv_at hl 0 rfl) ?_
  refine lv_iconst (v := nI 0) hx hb dX12_rule_1 (by decide) ?_
  refine fx_putT C hH (k := 0) h_mo ff_X12_54_11 fL_11 fT_11_0 rfl rfl (Nat.le_of_ble_eq_true rfl) dX12_rule_2 (fun H locs hH => ?_)
  have hH : fx_H G base s (fx_up f mo (oO 11 [.int (nI 0), .int sa, .ref la, .ref ma, .ref it, .ref rl, .ref fr, .ref li, .ref wa, .ref ld, .int ac, .ref tp, .int tn, .int cu, .int sr, .int tk, .int va, .int ft, .int fA, .int lt, .ref so, .ref ik, .ref kp, .ref kl, .ref tc, .int tt])) sz H locs := hH
  have h1_rl : (fx_up f mo (oO 11 [.int (nI 0), .int sa, .ref la, .ref ma, .ref it, .ref rl, .ref fr, .ref li, .ref wa, .ref ld, .int ac, .ref tp, .int tn, .int cu, .int sr, .int tk, .int va, .int ft, .int fA, .int lt, .ref so, .ref ik, .ref kp, .ref kl, .ref tc, .int tt])) rl = some (oI 48 rho) := (fx_up_n _ _ (fx_ne h_rl h_mo rfl)).trans h_rl
  have h1_mo : (fx_up f mo (oO 11 [.int (nI 0), .int sa, .ref la, .ref ma, .ref it, .ref rl, .ref fr, .ref li, .ref wa, .ref ld, .int ac, .ref tp, .int tn, .int cu, .int sr, .int tk, .int va, .int ft, .int fA, .int lt, .ref so, .ref ik, .ref kp, .ref kl, .ref tc, .int tt])) mo = some (oO 11 [.int (nI 0), .int sa, .ref la, .ref ma, .ref it, .ref rl, .ref fr, .ref li, .ref wa, .ref ld, .int ac, .ref tp, .int tn, .int cu, .int sr, .int tk, .int va, .int ft, .int fA, .int lt, .ref so, .ref ik, .ref kp, .ref kl, .ref tc, .int tt]) := fx_up_s _ _ _
  refine lv_aload_n hx hb dX12_rule_5 rfl (lv_at hl 0 rfl) ?_
  refine lv_iload_n hx hb dX12_rule_6 rfl (lv_at hl 1 rfl) ?_
  refine fx_go1 hH (fx_runV C hH hl.1 (As := [.int (nI j)]) (rest := []) (c_X12_isSeeker (G := G) (base := base) (l := l) (f := fx_up f mo (oO 11 [.int (nI 0), .int sa, .ref la, .ref ma, .ref it, .ref rl, .ref fr, .ref li, .ref wa, .ref ld, .int ac, .ref tp, .int tn, .int cu, .int sr, .int tk, .int va, .int ft, .int fA, .int lt, .ref so, .ref ik, .ref kp, .ref kl, .ref tc, .int tt])) (sz := sz) (tl := tl) (mo := mo) (pp := nI j) (th := nI 0) (sa := sa) (la := la) (ma := ma) (it := it) (rl := rl) (fr := fr) (li := li) (wa := wa) (ld := ld) (ac := ac) (tp := tp) (tn := tn) (cu := cu) (sr := sr) (tk := tk) (va := va) (ft := ft) (fA := fA) (lt := lt) (so := so) (ik := ik) (kp := kp) (kl := kl) (tc := tc) (tt := tt) (rho := rho) h1_mo h1_rl ht) mY_X12_isSeeker ml_X12_165 im_X12_isSeeker se_X12_X12_isSeeker h1_mo rfl rfl ⟨(Nat.le_of_ble_eq_true rfl), (Nat.le_of_ble_eq_true rfl)⟩ rfl (Nat.le_of_ble_eq_true rfl) ⟨(Nat.le_of_ble_eq_true rfl), (Nat.le_of_ble_eq_true rfl)⟩ dX12_rule_7) (fun H locs hH => ?_)
  refine fx_b_eq hx hb (tgt := 58) dX12_rule_10 (by decide) (fun c10 => absurd c10 (fun z => z (rngS' (by omega) hj))) (fun c10 => ?_)
  refine lv_iload_n hx hb dX12_rule_13 rfl (lv_at hl 2 rfl) ?_
  refine fx_go1 hH (fx_runS C hH hl.1 (As := [.int r]) (rest := []) (c_X12_isRow (G := G) (base := base) (l := l) (f := fx_up f mo (oO 11 [.int (nI 0), .int sa, .ref la, .ref ma, .ref it, .ref rl, .ref fr, .ref li, .ref wa, .ref ld, .int ac, .ref tp, .int tn, .int cu, .int sr, .int tk, .int va, .int ft, .int fA, .int lt, .ref so, .ref ik, .ref kp, .ref kl, .ref tc, .int tt])) (sz := sz) (r := r) ) mY_X12_isRow ml_X12_68 st_X12_isRow rfl ⟨(Nat.le_of_ble_eq_true rfl), (Nat.le_of_ble_eq_true rfl)⟩ rfl (Nat.le_of_ble_eq_true rfl) ⟨(Nat.le_of_ble_eq_true rfl), (Nat.le_of_ble_eq_true rfl)⟩ dX12_rule_14) (fun H locs hH => ?_)
  refine fx_b_eq hx hb (tgt := 58) dX12_rule_17 (by decide) (fun c17 => ?_) (fun c17 => absurd c17 (hr0))
  refine lv_ldc2 (v := (-1000001)) hx hb C.2.2.2.1 (C.2.2.2.2.1 _ kL_X12_201 rfl args) dX12_rule_58 ?_
  exact fx_lretP C hr hk hH (K1 ) (Nat.zero_le _) (Nat.zero_le _) dX12_rule_61
set_option maxHeartbeats 4000000 in
set_option maxRecDepth 100000 in
theorem c_X12_rule_kk {G : GG} {base : Nat} {l : Launch} {f : Hp} {sz : Nat} {Po : Option Value → Hp → Nat → Prop} {K : Nat} {wi : Nat} {ag : Nat} {tl : Nat} {P : Nat} {pl : Nat} {wy : Int32} {sp : Nat} {sn : Nat} {v : Nat → Nat} {tw : (Nat → Nat) → Nat → Nat → Nat} {mo : Nat} {j : Nat} {kk : Nat} {n : Int32} {m_ : Int32} {wh : Int32} {th : Int32} {sa : Int32} {la : Nat} {ma : Nat} {it : Nat} {rl : Nat} {fr : Nat} {li : Nat} {wa : Nat} {ld : Nat} {ac : Int32} {tp : Nat} {tn : Int32} {cu : Int32} {sr : Int32} {tk : Int32} {va : Int32} {ft : Int32} {fA : Int32} {lt : Int32} {so : Nat} {ik : Nat} {kp : Nat} {kl : Nat} {tc : Nat} {tt : Int32} {rho : Nat → Int32} {lam : Nat → Int64} {gso : Nat → Int64} {gla : Nat → Int32} {gma : Nat → Int32} {git : Nat → Int32} (h_mo : f mo = some (oO 11 [.int th, .int sa, .ref la, .ref ma, .ref it, .ref rl, .ref fr, .ref li, .ref wa, .ref ld, .int ac, .ref tp, .int tn, .int cu, .int sr, .int tk, .int va, .int ft, .int fA, .int lt, .ref so, .ref ik, .ref kp, .ref kl, .ref tc, .int tt])) (h_rl : f rl = some (oI 48 rho)) (h_li : f li = some (oJ 13 lam)) (h_so : f so = some (oJ 13 gso)) (h_la : f la = some (oI 8 gla)) (h_ma : f ma = some (oI 8 gma)) (h_it : f it = some (oI 320 git)) (hne_0 : rl ≠ la) (hne_1 : rl ≠ ma) (hne_2 : rl ≠ it) (hne_3 : li ≠ so) (hne_4 : la ≠ ma) (hne_5 : la ≠ it) (hne_6 : ma ≠ it) (hj : j < tl) (htl : tl ≤ 4) (ht : rho 5 = nI tl) (hk0 : rho (36 + (3 * j) + 0) = nI K) (hk1 : rho (36 + (3 * j) + 1) = nI wi) (hk2 : rho (36 + (3 * j) + 2) = nI ag) (hK : 1 ≤ K ∧ K ≤ 5) (hwi : wi ≤ 10) (hag : ag ≤ 10) (hP : rho 0 = nI P) (hP2 : 4 ≤ P ∧ P ≤ 12) (hkk : kk < 8) (hgm : gma kk = nI sn) (hsn : sn ≤ 40) (hv : ∀ i, i ≤ P → lam i = lN (v i)) (hs1 : 0 < sN v (P + 1)) (hs2 : sN v (P + 1) ≤ 117 * 10 ^ 10) (hsp : rho 1 = nI sp) (hst : sp ≤ 9) (hpl : rho 6 = nI pl) (hpl2 : pl < P) (hwy : rho 7 = wy) (hwy2 : wy = nI 1 ∨ wy = -1) (htw : ∀ wd nz mz, mz ≤ 6 → sJ (qS (fJ gso 0 lam 13) P pl wy wd nz K wi ag mz) (P + 1) = lN (tw wd nz mz) ∧ tw wd nz mz ≤ sN v (P + 1) * 10 ^ mz) (K1 : ∀ (c29 : ¬ (¬ n < nI 1 ∧ ¬ nI 8 < n)), Po (some (.long (-1000001))) (fx_up f mo (oO 11 [.int (nI 0), .int sa, .ref la, .ref ma, .ref it, .ref rl, .ref fr, .ref li, .ref wa, .ref ld, .int ac, .ref tp, .int tn, .int cu, .int sr, .int tk, .int va, .int ft, .int fA, .int lt, .ref so, .ref ik, .ref kp, .ref kl, .ref tc, .int tt])) sz)
    (K2 : ∀ (c29 : (¬ n < nI 1 ∧ ¬ nI 8 < n)), ∀ (c42 : ¬ (¬ m_ < nI 1 ∧ ¬ nI 6 < m_)), Po (some (.long (-1000001))) (fx_up f mo (oO 11 [.int (nI 0), .int sa, .ref la, .ref ma, .ref it, .ref rl, .ref fr, .ref li, .ref wa, .ref ld, .int ac, .ref tp, .int tn, .int cu, .int sr, .int tk, .int va, .int ft, .int fA, .int lt, .ref so, .ref ik, .ref kp, .ref kl, .ref tc, .int tt])) sz)
    (K3 : ∀ (c29 : (¬ n < nI 1 ∧ ¬ nI 8 < n)), ∀ (c42 : (¬ m_ < nI 1 ∧ ¬ nI 6 < m_)), ∀ (c55 : (¬ wh < nI 0 ∧ ¬ nI 2 < wh)), ∀ (c68 : (0 : Int32) ≤ (gla kk)), ∀ (c85 : n ≤ (gma kk)), ∀ (nz : Nat), ∀ (hnz : 1 ≤ nz ∧ nz ≤ 8), ∀ (mz : Nat), ∀ (hmz : 1 ≤ mz ∧ mz ≤ 6), ∀ (wz : Nat), ∀ (hwz : wz ≤ 2), ∀ (hns : nz ≤ sn), ∀ (enz : n = nI nz), ∀ (emz : m_ = nI mz), ∀ (ewz : wh = nI wz), ∀ (i0 : Nat), ∀ (hi0 : i0 ≤ nz), ∀ (hall : ∀ z, z < i0 → ¬ git (40 * kk + z) < nI 0 ∧ ¬ nI 3 < git (40 * kk + z)), ∀ (c107 : nz ≤ i0), ∀ (c149 : ¬ wz = 2), Po (some (.long (lN ((if wz = 0 then (((10 ^ mz) * (sN v (P + 1))) - (tw (fun z => (git (40 * kk + z)).toNatClampNeg) nz mz)) else ((10 ^ mz) * (sN v (P + 1)))) / Nat.gcd (((10 ^ mz) * (sN v (P + 1))) - (tw (fun z => (git (40 * kk + z)).toNatClampNeg) nz mz)) ((10 ^ mz) * (sN v (P + 1))))))) (fx_up (fx_up f mo (oO 11 [.int (nI 0), .int (nI 0), .ref la, .ref ma, .ref it, .ref rl, .ref fr, .ref li, .ref wa, .ref ld, .int ac, .ref tp, .int tn, .int cu, .int sr, .int tk, .int va, .int ft, .int fA, .int lt, .ref so, .ref ik, .ref kp, .ref kl, .ref tc, .int tt])) so (oJ 13 (qS (fJ gso 0 lam 13) P pl wy (fun z => (git (40 * kk + z)).toNatClampNeg) nz K wi ag mz))) sz)
    (K4 : ∀ (c29 : (¬ n < nI 1 ∧ ¬ nI 8 < n)), ∀ (c42 : (¬ m_ < nI 1 ∧ ¬ nI 6 < m_)), ∀ (c55 : (¬ wh < nI 0 ∧ ¬ nI 2 < wh)), ∀ (c68 : (0 : Int32) ≤ (gla kk)), ∀ (c85 : n ≤ (gma kk)), ∀ (nz : Nat), ∀ (hnz : 1 ≤ nz ∧ nz ≤ 8), ∀ (mz : Nat), ∀ (hmz : 1 ≤ mz ∧ mz ≤ 6), ∀ (wz : Nat), ∀ (hwz : wz ≤ 2), ∀ (hns : nz ≤ sn), ∀ (enz : n = nI nz), ∀ (emz : m_ = nI mz), ∀ (ewz : wh = nI wz), ∀ (i0 : Nat), ∀ (hi0 : i0 ≤ nz), ∀ (hall : ∀ z, z < i0 → ¬ git (40 * kk + z) < nI 0 ∧ ¬ nI 3 < git (40 * kk + z)), ∀ (c107 : nz ≤ i0), ∀ (c149 : wz = 2), ∀ (i2 : Nat), ∀ (hi2 : i2 ≤ mz - 1), ∀ (c165 : (mz - 1) ≤ i2), Po (some (.long ((rsS sp (rho 2) (fun z => (git (40 * kk + z)).toNatClampNeg) nz mz i2).toInt64))) (fx_up f mo (oO 11 [.int (nI 0), .int (nI 0), .ref la, .ref ma, .ref it, .ref rl, .ref fr, .ref li, .ref wa, .ref ld, .int ac, .ref tp, .int tn, .int cu, .int sr, .int tk, .int va, .int ft, .int fA, .int lt, .ref so, .ref ik, .ref kp, .ref kl, .ref tc, .int tt])) sz)
    (K5 : ∀ (c29 : (¬ n < nI 1 ∧ ¬ nI 8 < n)), ∀ (c42 : (¬ m_ < nI 1 ∧ ¬ nI 6 < m_)), ∀ (c55 : (¬ wh < nI 0 ∧ ¬ nI 2 < wh)), ∀ (c68 : (0 : Int32) ≤ (gla kk)), ∀ (c85 : n ≤ (gma kk)), ∀ (nz : Nat), ∀ (hnz : 1 ≤ nz ∧ nz ≤ 8), ∀ (mz : Nat), ∀ (hmz : 1 ≤ mz ∧ mz ≤ 6), ∀ (wz : Nat), ∀ (hwz : wz ≤ 2), ∀ (hns : nz ≤ sn), ∀ (enz : n = nI nz), ∀ (emz : m_ = nI mz), ∀ (ewz : wh = nI wz), ∀ (i0 : Nat), ∀ (hi0 : i0 ≤ nz), ∀ (hall : ∀ z, z < i0 → ¬ git (40 * kk + z) < nI 0 ∧ ¬ nI 3 < git (40 * kk + z)), ∀ (c107 : i0 < nz), ∀ (c128 : ¬ (¬ (git (40 * kk + i0)) < nI 0 ∧ ¬ nI 3 < (git (40 * kk + i0)))), Po (some (.long (-1000001))) (fx_up f mo (oO 11 [.int (nI 0), .int sa, .ref la, .ref ma, .ref it, .ref rl, .ref fr, .ref li, .ref wa, .ref ld, .int ac, .ref tp, .int tn, .int cu, .int sr, .int tk, .int va, .int ft, .int fA, .int lt, .ref so, .ref ik, .ref kp, .ref kl, .ref tc, .int tt])) sz)
    (K6 : ∀ (c29 : (¬ n < nI 1 ∧ ¬ nI 8 < n)), ∀ (c42 : (¬ m_ < nI 1 ∧ ¬ nI 6 < m_)), ∀ (c55 : (¬ wh < nI 0 ∧ ¬ nI 2 < wh)), ∀ (c68 : (0 : Int32) ≤ (gla kk)), ∀ (c85 : ¬ n ≤ (gma kk)), Po (some (.long (((-1000010) - (nI 2)).toInt64))) (fx_up f mo (oO 11 [.int (nI 0), .int (nI 2), .ref la, .ref ma, .ref it, .ref rl, .ref fr, .ref li, .ref wa, .ref ld, .int ac, .ref tp, .int tn, .int cu, .int sr, .int tk, .int va, .int ft, .int fA, .int lt, .ref so, .ref ik, .ref kp, .ref kl, .ref tc, .int tt])) sz)
    (K7 : ∀ (c29 : (¬ n < nI 1 ∧ ¬ nI 8 < n)), ∀ (c42 : (¬ m_ < nI 1 ∧ ¬ nI 6 < m_)), ∀ (c55 : (¬ wh < nI 0 ∧ ¬ nI 2 < wh)), ∀ (c68 : ¬ (0 : Int32) ≤ (gla kk)), Po (some (.long (((-1000010) - (nI 1)).toInt64))) (fx_up f mo (oO 11 [.int (nI 0), .int (nI 1), .ref la, .ref ma, .ref it, .ref rl, .ref fr, .ref li, .ref wa, .ref ld, .int ac, .ref tp, .int tn, .int cu, .int sr, .int tk, .int va, .int ft, .int fA, .int lt, .ref so, .ref ik, .ref kp, .ref kl, .ref tc, .int tt])) sz)
    (K8 : ∀ (c29 : (¬ n < nI 1 ∧ ¬ nI 8 < n)), ∀ (c42 : (¬ m_ < nI 1 ∧ ¬ nI 6 < m_)), ∀ (c55 : ¬ (¬ wh < nI 0 ∧ ¬ nI 2 < wh)), Po (some (.long (-1000001))) (fx_up f mo (oO 11 [.int (nI 0), .int sa, .ref la, .ref ma, .ref it, .ref rl, .ref fr, .ref li, .ref wa, .ref ld, .int ac, .ref tp, .int tn, .int cu, .int sr, .int tk, .int va, .int ft, .int fA, .int lt, .ref so, .ref ik, .ref kp, .ref kl, .ref tc, .int tt])) sz) : fx_MP G base l yX12_rule cX12_rule 10 (some .long) rm_X12_rule [.ref mo, .int (nI j), .int (nI kk), .int n, .int m_, .int wh] f sz Po := by
  refine fx_ofP (by decide +kernel) (Nat.le_of_ble_eq_true rfl) ?_
  intro p e s m args below meth c C hr hk hnm hH ls hl
  obtain ⟨locs, hlocs⟩ : ∃ L : List Loc, L = [] := ⟨_, rfl⟩
  rw [← hlocs] at hH ⊢
  generalize s.heap = H at hH ⊢
  have hx := C.1
  have hb := C.2.1
  have hl : lv_has ls 10 [(0, .ref mo), (1, .int (nI j)), (2, .int (nI kk)), (3, .int n), (4, .int m_), (5, .int wh)] := hl
  refine lv_aload_n hx hb dX12_rule_0 rfl (lv_at hl 0 rfl) ?_
  refine lv_iconst (v := nI 0) hx hb dX12_rule_1 (by decide) ?_
  refine fx_putT C hH (k := 0) h_mo ff_X12_54_11 fL_11 fT_11_0 rfl rfl (Nat.le_of_ble_eq_true rfl) dX12_rule_2 (fun H locs hH => ?_)
  have hH : fx_H G base s (fx_up f mo (oO 11 [.int (nI 0), .int sa, .ref la, .ref ma, .ref it, .ref rl, .ref fr, .ref li, .ref wa, .ref ld, .int ac, .ref tp, .int tn, .int cu, .int sr, .int tk, .int va, .int ft, .int fA, .int lt, .ref so, .ref ik, .ref kp, .ref kl, .ref tc, .int tt])) sz H locs := hH
  have h1_rl : (fx_up f mo (oO 11 [.int (nI 0), .int sa, .ref la, .ref ma, .ref it, .ref rl, .ref fr, .ref li, .ref wa, .ref ld, .int ac, .ref tp, .int tn, .int cu, .int sr, .int tk, .int va, .int ft, .int fA, .int lt, .ref so, .ref ik, .ref kp, .ref kl, .ref tc, .int tt])) rl = some (oI 48 rho) := (fx_up_n _ _ (fx_ne h_rl h_mo rfl)).trans h_rl
  have h1_li : (fx_up f mo (oO 11 [.int (nI 0), .int sa, .ref la, .ref ma, .ref it, .ref rl, .ref fr, .ref li, .ref wa, .ref ld, .int ac, .ref tp, .int tn, .int cu, .int sr, .int tk, .int va, .int ft, .int fA, .int lt, .ref so, .ref ik, .ref kp, .ref kl, .ref tc, .int tt])) li = some (oJ 13 lam) := (fx_up_n _ _ (fx_ne h_li h_mo rfl)).trans h_li
  have h1_so : (fx_up f mo (oO 11 [.int (nI 0), .int sa, .ref la, .ref ma, .ref it, .ref rl, .ref fr, .ref li, .ref wa, .ref ld, .int ac, .ref tp, .int tn, .int cu, .int sr, .int tk, .int va, .int ft, .int fA, .int lt, .ref so, .ref ik, .ref kp, .ref kl, .ref tc, .int tt])) so = some (oJ 13 gso) := (fx_up_n _ _ (fx_ne h_so h_mo rfl)).trans h_so
  have h1_la : (fx_up f mo (oO 11 [.int (nI 0), .int sa, .ref la, .ref ma, .ref it, .ref rl, .ref fr, .ref li, .ref wa, .ref ld, .int ac, .ref tp, .int tn, .int cu, .int sr, .int tk, .int va, .int ft, .int fA, .int lt, .ref so, .ref ik, .ref kp, .ref kl, .ref tc, .int tt])) la = some (oI 8 gla) := (fx_up_n _ _ (fx_ne h_la h_mo rfl)).trans h_la
  have h1_ma : (fx_up f mo (oO 11 [.int (nI 0), .int sa, .ref la, .ref ma, .ref it, .ref rl, .ref fr, .ref li, .ref wa, .ref ld, .int ac, .ref tp, .int tn, .int cu, .int sr, .int tk, .int va, .int ft, .int fA, .int lt, .ref so, .ref ik, .ref kp, .ref kl, .ref tc, .int tt])) ma = some (oI 8 gma) := (fx_up_n _ _ (fx_ne h_ma h_mo rfl)).trans h_ma
  have h1_it : (fx_up f mo (oO 11 [.int (nI 0), .int sa, .ref la, .ref ma, .ref it, .ref rl, .ref fr, .ref li, .ref wa, .ref ld, .int ac, .ref tp, .int tn, .int cu, .int sr, .int tk, .int va, .int ft, .int fA, .int lt, .ref so, .ref ik, .ref kp, .ref kl, .ref tc, .int tt])) it = some (oI 320 git) := (fx_up_n _ _ (fx_ne h_it h_mo rfl)).trans h_it
  have h1_mo : (fx_up f mo (oO 11 [.int (nI 0), .int sa, .ref la, .ref ma, .ref it, .ref rl, .ref fr, .ref li, .ref wa, .ref ld, .int ac, .ref tp, .int tn, .int cu, .int sr, .int tk, .int va, .int ft, .int fA, .int lt, .ref so, .ref ik, .ref kp, .ref kl, .ref tc, .int tt])) mo = some (oO 11 [.int (nI 0), .int sa, .ref la, .ref ma, .ref it, .ref rl, .ref fr, .ref li, .ref wa, .ref ld, .int ac, .ref tp, .int tn, .int cu, .int sr, .int tk, .int va, .int ft, .int fA, .int lt, .ref so, .ref ik, .ref kp, .ref kl, .ref tc, .int tt]) := fx_up_s _ _ _
  refine lv_aload_n hx hb dX12_rule_5 rfl (lv_at hl 0 rfl) ?_
  refine lv_iload_n hx hb dX12_rule_6 rfl (lv_at hl 1 rfl) ?_
  refine fx_go1 hH (fx_runV C hH hl.1 (As := [.int (nI j)]) (rest := []) (c_X12_isSeeker (G := G) (base := base) (l := l) (f := fx_up f mo (oO 11 [.int (nI 0), .int sa, .ref la, .ref ma, .ref it, .ref rl, .ref fr, .ref li, .ref wa, .ref ld, .int ac, .ref tp, .int tn, .int cu, .int sr, .int tk, .int va, .int ft, .int fA, .int lt, .ref so, .ref ik, .ref kp, .ref kl, .ref tc, .int tt])) (sz := sz) (tl := tl) (mo := mo) (pp := nI j) (th := nI 0) (sa := sa) (la := la) (ma := ma) (it := it) (rl := rl) (fr := fr) (li := li) (wa := wa) (ld := ld) (ac := ac) (tp := tp) (tn := tn) (cu := cu) (sr := sr) (tk := tk) (va := va) (ft := ft) (fA := fA) (lt := lt) (so := so) (ik := ik) (kp := kp) (kl := kl) (tc := tc) (tt := tt) (rho := rho) h1_mo h1_rl ht) mY_X12_isSeeker ml_X12_165 im_X12_isSeeker se_X12_X12_isSeeker h1_mo rfl rfl ⟨(Nat.le_of_ble_eq_true rfl), (Nat.le_of_ble_eq_true rfl)⟩ rfl (Nat.le_of_ble_eq_true rfl) ⟨(Nat.le_of_ble_eq_true rfl), (Nat.le_of_ble_eq_true rfl)⟩ dX12_rule_7) (fun H locs hH => ?_)
  refine fx_b_eq hx hb (tgt := 58) dX12_rule_10 (by decide) (fun c10 => absurd c10 (fun z => z (rngS' (by omega) hj))) (fun c10 => ?_)
  refine lv_iload_n hx hb dX12_rule_13 rfl (lv_at hl 2 rfl) ?_
  refine fx_go1 hH (fx_runS C hH hl.1 (As := [.int (nI kk)]) (rest := []) (c_X12_isRow (G := G) (base := base) (l := l) (f := fx_up f mo (oO 11 [.int (nI 0), .int sa, .ref la, .ref ma, .ref it, .ref rl, .ref fr, .ref li, .ref wa, .ref ld, .int ac, .ref tp, .int tn, .int cu, .int sr, .int tk, .int va, .int ft, .int fA, .int lt, .ref so, .ref ik, .ref kp, .ref kl, .ref tc, .int tt])) (sz := sz) (r := nI kk) ) mY_X12_isRow ml_X12_68 st_X12_isRow rfl ⟨(Nat.le_of_ble_eq_true rfl), (Nat.le_of_ble_eq_true rfl)⟩ rfl (Nat.le_of_ble_eq_true rfl) ⟨(Nat.le_of_ble_eq_true rfl), (Nat.le_of_ble_eq_true rfl)⟩ dX12_rule_14) (fun H locs hH => ?_)
  refine fx_b_eq hx hb (tgt := 58) dX12_rule_17 (by decide) (fun c17 => absurd c17 (fun z => z (rng1' (by omega) (by omega) (by omega)))) (fun c17 => ?_)
  refine lv_iload_n hx hb dX12_rule_20 rfl (lv_at hl 3 rfl) ?_
  refine lv_i2l (v := n.toInt64) hx hb dX12_rule_21 rfl ?_
  refine lv_lconst (v := lN 1) hx hb dX12_rule_22 (by decide) ?_
  refine lv_ldc2 (v := (8)) hx hb C.2.2.2.1 (C.2.2.2.2.1 _ kL_X12_246 rfl args) dX12_rule_23 ?_
  refine fx_tl (y := lN 8) (by decide) ?_
  refine fx_go1 hH (fx_runS C hH hl.1 (As := [.long n.toInt64, .long (lN 1), .long (lN 8)]) (rest := []) (c_X12_in_i (G := G) (base := base) (l := l) (f := fx_up f mo (oO 11 [.int (nI 0), .int sa, .ref la, .ref ma, .ref it, .ref rl, .ref fr, .ref li, .ref wa, .ref ld, .int ac, .ref tp, .int tn, .int cu, .int sr, .int tk, .int va, .int ft, .int fA, .int lt, .ref so, .ref ik, .ref kp, .ref kl, .ref tc, .int tt])) (sz := sz) (x := n) (lo := 1) (hi := 8) (by omega) (by omega)) mY_X12_in ml_X12_64 st_X12_in rfl ⟨(Nat.le_of_ble_eq_true rfl), (Nat.le_of_ble_eq_true rfl)⟩ rfl (Nat.le_of_ble_eq_true rfl) ⟨(Nat.le_of_ble_eq_true rfl), (Nat.le_of_ble_eq_true rfl)⟩ dX12_rule_26) (fun H locs hH => ?_)
  refine fx_b_eq hx hb (tgt := 58) dX12_rule_29 (by decide) (fun c29 => ?_) (fun c29 => ?_)
  · refine lv_ldc2 (v := (-1000001)) hx hb C.2.2.2.1 (C.2.2.2.2.1 _ kL_X12_201 rfl args) dX12_rule_58 ?_
    exact fx_lretP C hr hk hH (K1 c29) (Nat.zero_le _) (Nat.zero_le _) dX12_rule_61
  · refine lv_iload hx hb dX12_rule_32 (lv_at hl 4 rfl) ?_
    refine lv_i2l (v := m_.toInt64) hx hb dX12_rule_34 rfl ?_
    refine lv_lconst (v := lN 1) hx hb dX12_rule_35 (by decide) ?_
    refine lv_ldc2 (v := (6)) hx hb C.2.2.2.1 (C.2.2.2.2.1 _ kL_X12_241 rfl args) dX12_rule_36 ?_
    refine fx_tl (y := lN 6) (by decide) ?_
    refine fx_go1 hH (fx_runS C hH hl.1 (As := [.long m_.toInt64, .long (lN 1), .long (lN 6)]) (rest := []) (c_X12_in_i (G := G) (base := base) (l := l) (f := fx_up f mo (oO 11 [.int (nI 0), .int sa, .ref la, .ref ma, .ref it, .ref rl, .ref fr, .ref li, .ref wa, .ref ld, .int ac, .ref tp, .int tn, .int cu, .int sr, .int tk, .int va, .int ft, .int fA, .int lt, .ref so, .ref ik, .ref kp, .ref kl, .ref tc, .int tt])) (sz := sz) (x := m_) (lo := 1) (hi := 6) (by omega) (by omega)) mY_X12_in ml_X12_64 st_X12_in rfl ⟨(Nat.le_of_ble_eq_true rfl), (Nat.le_of_ble_eq_true rfl)⟩ rfl (Nat.le_of_ble_eq_true rfl) ⟨(Nat.le_of_ble_eq_true rfl), (Nat.le_of_ble_eq_true rfl)⟩ dX12_rule_39) (fun H locs hH => ?_)
    refine fx_b_eq hx hb (tgt := 58) dX12_rule_42 (by decide) (fun c42 => ?_) (fun c42 => ?_)
    · refine lv_ldc2 (v := (-1000001)) hx hb C.2.2.2.1 (C.2.2.2.2.1 _ kL_X12_201 rfl args) dX12_rule_58 ?_
      exact fx_lretP C hr hk hH (K2 c29 c42) (Nat.zero_le _) (Nat.zero_le _) dX12_rule_61
    · refine lv_iload hx hb dX12_rule_45 (lv_at hl 5 rfl) ?_
      refine lv_i2l (v := wh.toInt64) hx hb dX12_rule_47 rfl ?_
      refine lv_lconst (v := lN 0) hx hb dX12_rule_48 (by decide) ?_
      refine lv_ldc2 (v := (2)) hx hb C.2.2.2.1 (C.2.2.2.2.1 _ kL_X12_72 rfl args) dX12_rule_49 ?_
      refine fx_tl (y := lN 2) (by decide) ?_
      refine fx_go1 hH (fx_runS C hH hl.1 (As := [.long wh.toInt64, .long (lN 0), .long (lN 2)]) (rest := []) (c_X12_in_i (G := G) (base := base) (l := l) (f := fx_up f mo (oO 11 [.int (nI 0), .int sa, .ref la, .ref ma, .ref it, .ref rl, .ref fr, .ref li, .ref wa, .ref ld, .int ac, .ref tp, .int tn, .int cu, .int sr, .int tk, .int va, .int ft, .int fA, .int lt, .ref so, .ref ik, .ref kp, .ref kl, .ref tc, .int tt])) (sz := sz) (x := wh) (lo := 0) (hi := 2) (by omega) (by omega)) mY_X12_in ml_X12_64 st_X12_in rfl ⟨(Nat.le_of_ble_eq_true rfl), (Nat.le_of_ble_eq_true rfl)⟩ rfl (Nat.le_of_ble_eq_true rfl) ⟨(Nat.le_of_ble_eq_true rfl), (Nat.le_of_ble_eq_true rfl)⟩ dX12_rule_52) (fun H locs hH => ?_)
      refine fx_b_ne hx hb (tgt := 62) dX12_rule_55 (by decide) (fun c55 => ?_) (fun c55 => ?_)
      · refine lv_aload_n hx hb dX12_rule_62 rfl (lv_at hl 0 rfl) ?_
        refine fx_get C hH (k := 2) (v := .ref la) h1_mo ff_X12_7_11 rfl dX12_rule_63 ?_
        refine lv_iload_n hx hb dX12_rule_66 rfl (lv_at hl 2 rfl) ?_
        refine fx_ialdN C hH h1_la (by omega) (by omega) dX12_rule_67 ?_
        refine lv_if_ge hx hb (tgt := 78) dX12_rule_68 (by decide) (fun c68 => ?_) (fun c68 => ?_)
        · refine lv_iload_n hx hb dX12_rule_78 rfl (lv_at hl 3 rfl) ?_
          refine lv_aload_n hx hb dX12_rule_79 rfl (lv_at hl 0 rfl) ?_
          refine fx_get C hH (k := 3) (v := .ref ma) h1_mo ff_X12_13_11 rfl dX12_rule_80 ?_
          refine lv_iload_n hx hb dX12_rule_83 rfl (lv_at hl 2 rfl) ?_
          refine fx_ialdN C hH h1_ma (by omega) (by omega) dX12_rule_84 ?_
          refine lv_icmp_le hx hb (tgt := 95) dX12_rule_85 (by decide) (fun c85 => ?_) (fun c85 => ?_)
          · obtain ⟨nz, hnz1, hnz2, rfl⟩ := rng1 (M := 1) (N := 8) (by omega) (by omega) c29
            obtain ⟨mz, hmz1, hmz2, rfl⟩ := rng1 (M := 1) (N := 6) (by omega) (by omega) c42
            obtain ⟨wz, hwz, rfl⟩ := rng (N := 2) (by omega) c55.1 c55.2
            have hns : nz ≤ sn := rl_n rfl hgm (by omega) (by omega) c85
            have hnz : 1 ≤ nz ∧ nz ≤ 8 := ⟨hnz1, hnz2⟩
            have hmz : 1 ≤ mz ∧ mz ≤ 6 := ⟨hmz1, hmz2⟩
            · skip
              refine lv_bipush (v := nI 40) hx hb dX12_rule_95 (by decide) ?_
              refine lv_iload_n hx hb dX12_rule_97 rfl (lv_at hl 2 rfl) ?_
              refine lv_imul hx hb dX12_rule_98 ?_
              refine fx_ti (y := nI (40 * kk)) (pk_mul _ _) ?_
              refine lv_istore (lv' := [(6, .int (nI (40 * kk))), (0, .ref mo), (1, .int (nI j)), (2, .int (nI kk)), (3, .int (nI nz)), (4, .int (nI mz)), (5, .int (nI wz))]) hx hb dX12_rule_99 hl (by decide) rfl (fun ls hl => ?_)
              refine lv_iconst (v := nI 0) hx hb dX12_rule_101 (by decide) ?_
              refine lv_istore (lv' := [(7, .int (nI 0)), (6, .int (nI (40 * kk))), (0, .ref mo), (1, .int (nI j)), (2, .int (nI kk)), (3, .int (nI nz)), (4, .int (nI mz)), (5, .int (nI wz))]) hx hb dX12_rule_102 hl (by decide) rfl (fun ls hl => ?_)
              have loop_104 : ∀ (N_104 : Nat) (i0 : Nat) (hi0 : i0 ≤ nz) (hall : ∀ z, z < i0 → ¬ git (40 * kk + z) < nI 0 ∧ ¬ nI 3 < git (40 * kk + z)) (hm_104 : nz - i0 < N_104) (H : Heap) (locs : List Loc) (hH : fx_H G base s (fx_up f mo (oO 11 [.int (nI 0), .int sa, .ref la, .ref ma, .ref it, .ref rl, .ref fr, .ref li, .ref wa, .ref ld, .int ac, .ref tp, .int tn, .int cu, .int sr, .int tk, .int va, .int ft, .int fA, .int lt, .ref so, .ref ik, .ref kp, .ref kl, .ref tc, .int tt])) sz H locs) (ls : Array Slot) (hl : lv_has ls 10 [(0, .ref mo), (1, .int (nI j)), (2, .int (nI kk)), (3, .int (nI nz)), (4, .int (nI mz)), (5, .int (nI wz)), (6, .int (nI (40 * kk))), (7, .int (nI i0))]), W p l e rm_X12_rule s m args below meth c H locs 0 0 (MQ below (fx_QP G base Po) args s rm_X12_rule.cells rm_X12_rule.slots (fun q => base ≤ q)) (F0 m 104 ls []) := by
                intro N_104
                induction N_104 with
                | zero => intro i0 hi0 hall hm_104; exact absurd hm_104 (Nat.not_lt_zero _)
                | succ N_104 ih_104 =>
                  intro i0 hi0 hall hm_104 H locs hH ls hl
                  refine lv_iload hx hb dX12_rule_104 (lv_at hl 7 rfl) ?_
                  refine lv_iload_n hx hb dX12_rule_106 rfl (lv_at hl 3 rfl) ?_
                  refine fx_N_ge (a := i0) (b := nz) hx hb (by omega) (by omega) (tgt := 141) dX12_rule_107 (by decide) (fun c107 => ?_) (fun c107 => ?_)
                  · have hwd : ∀ z, z < nz → git (40 * kk + z) = nI ((fun z => (git (40 * kk + z)).toNatClampNeg) z) ∧ (fun z => (git (40 * kk + z)).toNatClampNeg) z ≤ 3 := fun z hz => by
                      obtain ⟨kz, h8, h9⟩ := rng (N := 3) (by omega) (hall z (by omega)).1 (hall z (by omega)).2
                      show git (40 * kk + z) = nI ((git (40 * kk + z)).toNatClampNeg) ∧ (git (40 * kk + z)).toNatClampNeg ≤ 3
                      rw [h9, nI_clamp (by omega)]; exact ⟨rfl, h8⟩
                    have hi0n : i0 = nz := by omega
                    have h10 : 10 ^ mz ≤ 10 ^ 6 := Nat.pow_le_pow_right (by omega) hmz.2
                    have h10p : 0 < 10 ^ mz := Nat.pow_pos (by omega)
                    have hbb : 10 ^ mz * sN v (P + 1) ≤ 10 ^ 6 * (117 * 10 ^ 10) := Nat.mul_le_mul h10 hs2
                    have hbp : 0 < 10 ^ mz * sN v (P + 1) := Nat.mul_pos h10p hs1
                    have htw9 := htw (fun z => (git (40 * kk + z)).toNatClampNeg) nz mz (by omega)
                    have htw8 : tw (fun z => (git (40 * kk + z)).toNatClampNeg) nz mz ≤ 10 ^ mz * sN v (P + 1) := by rw [Nat.mul_comm (10 ^ mz)]; exact htw9.2
                    refine lv_aload_n hx hb dX12_rule_141 rfl (lv_at hl 0 rfl) ?_
                    refine lv_iconst (v := nI 0) hx hb dX12_rule_142 (by decide) ?_
                    refine fx_putT C hH (k := 1) h1_mo ff_X12_58_11 fL_11 fT_11_1 rfl rfl (Nat.le_of_ble_eq_true rfl) dX12_rule_143 (fun H locs hH => ?_)
                    have hH : fx_H G base s (fx_up (fx_up f mo (oO 11 [.int (nI 0), .int sa, .ref la, .ref ma, .ref it, .ref rl, .ref fr, .ref li, .ref wa, .ref ld, .int ac, .ref tp, .int tn, .int cu, .int sr, .int tk, .int va, .int ft, .int fA, .int lt, .ref so, .ref ik, .ref kp, .ref kl, .ref tc, .int tt])) mo (oO 11 [.int (nI 0), .int (nI 0), .ref la, .ref ma, .ref it, .ref rl, .ref fr, .ref li, .ref wa, .ref ld, .int ac, .ref tp, .int tn, .int cu, .int sr, .int tk, .int va, .int ft, .int fA, .int lt, .ref so, .ref ik, .ref kp, .ref kl, .ref tc, .int tt])) sz H locs := hH
                    rw [fx_up_up] at hH
                    have hH : fx_H G base s (fx_up f mo (oO 11 [.int (nI 0), .int (nI 0), .ref la, .ref ma, .ref it, .ref rl, .ref fr, .ref li, .ref wa, .ref ld, .int ac, .ref tp, .int tn, .int cu, .int sr, .int tk, .int va, .int ft, .int fA, .int lt, .ref so, .ref ik, .ref kp, .ref kl, .ref tc, .int tt])) sz H locs := hH
                    have heq2 : fx_up (fx_up f mo (oO 11 [.int (nI 0), .int sa, .ref la, .ref ma, .ref it, .ref rl, .ref fr, .ref li, .ref wa, .ref ld, .int ac, .ref tp, .int tn, .int cu, .int sr, .int tk, .int va, .int ft, .int fA, .int lt, .ref so, .ref ik, .ref kp, .ref kl, .ref tc, .int tt])) mo (oO 11 [.int (nI 0), .int (nI 0), .ref la, .ref ma, .ref it, .ref rl, .ref fr, .ref li, .ref wa, .ref ld, .int ac, .ref tp, .int tn, .int cu, .int sr, .int tk, .int va, .int ft, .int fA, .int lt, .ref so, .ref ik, .ref kp, .ref kl, .ref tc, .int tt]) = fx_up f mo (oO 11 [.int (nI 0), .int (nI 0), .ref la, .ref ma, .ref it, .ref rl, .ref fr, .ref li, .ref wa, .ref ld, .int ac, .ref tp, .int tn, .int cu, .int sr, .int tk, .int va, .int ft, .int fA, .int lt, .ref so, .ref ik, .ref kp, .ref kl, .ref tc, .int tt]) := by rw [fx_up_up]
                    have h2_rl : (fx_up f mo (oO 11 [.int (nI 0), .int (nI 0), .ref la, .ref ma, .ref it, .ref rl, .ref fr, .ref li, .ref wa, .ref ld, .int ac, .ref tp, .int tn, .int cu, .int sr, .int tk, .int va, .int ft, .int fA, .int lt, .ref so, .ref ik, .ref kp, .ref kl, .ref tc, .int tt])) rl = some (oI 48 rho) := (congrFun heq2 rl).symm.trans ((fx_up_n _ _ (fx_ne h1_rl h1_mo rfl)).trans h1_rl)
                    have h2_li : (fx_up f mo (oO 11 [.int (nI 0), .int (nI 0), .ref la, .ref ma, .ref it, .ref rl, .ref fr, .ref li, .ref wa, .ref ld, .int ac, .ref tp, .int tn, .int cu, .int sr, .int tk, .int va, .int ft, .int fA, .int lt, .ref so, .ref ik, .ref kp, .ref kl, .ref tc, .int tt])) li = some (oJ 13 lam) := (congrFun heq2 li).symm.trans ((fx_up_n _ _ (fx_ne h1_li h1_mo rfl)).trans h1_li)
                    have h2_so : (fx_up f mo (oO 11 [.int (nI 0), .int (nI 0), .ref la, .ref ma, .ref it, .ref rl, .ref fr, .ref li, .ref wa, .ref ld, .int ac, .ref tp, .int tn, .int cu, .int sr, .int tk, .int va, .int ft, .int fA, .int lt, .ref so, .ref ik, .ref kp, .ref kl, .ref tc, .int tt])) so = some (oJ 13 gso) := (congrFun heq2 so).symm.trans ((fx_up_n _ _ (fx_ne h1_so h1_mo rfl)).trans h1_so)
                    have h2_la : (fx_up f mo (oO 11 [.int (nI 0), .int (nI 0), .ref la, .ref ma, .ref it, .ref rl, .ref fr, .ref li, .ref wa, .ref ld, .int ac, .ref tp, .int tn, .int cu, .int sr, .int tk, .int va, .int ft, .int fA, .int lt, .ref so, .ref ik, .ref kp, .ref kl, .ref tc, .int tt])) la = some (oI 8 gla) := (congrFun heq2 la).symm.trans ((fx_up_n _ _ (fx_ne h1_la h1_mo rfl)).trans h1_la)
                    have h2_ma : (fx_up f mo (oO 11 [.int (nI 0), .int (nI 0), .ref la, .ref ma, .ref it, .ref rl, .ref fr, .ref li, .ref wa, .ref ld, .int ac, .ref tp, .int tn, .int cu, .int sr, .int tk, .int va, .int ft, .int fA, .int lt, .ref so, .ref ik, .ref kp, .ref kl, .ref tc, .int tt])) ma = some (oI 8 gma) := (congrFun heq2 ma).symm.trans ((fx_up_n _ _ (fx_ne h1_ma h1_mo rfl)).trans h1_ma)
                    have h2_it : (fx_up f mo (oO 11 [.int (nI 0), .int (nI 0), .ref la, .ref ma, .ref it, .ref rl, .ref fr, .ref li, .ref wa, .ref ld, .int ac, .ref tp, .int tn, .int cu, .int sr, .int tk, .int va, .int ft, .int fA, .int lt, .ref so, .ref ik, .ref kp, .ref kl, .ref tc, .int tt])) it = some (oI 320 git) := (congrFun heq2 it).symm.trans ((fx_up_n _ _ (fx_ne h1_it h1_mo rfl)).trans h1_it)
                    have h2_mo : (fx_up f mo (oO 11 [.int (nI 0), .int (nI 0), .ref la, .ref ma, .ref it, .ref rl, .ref fr, .ref li, .ref wa, .ref ld, .int ac, .ref tp, .int tn, .int cu, .int sr, .int tk, .int va, .int ft, .int fA, .int lt, .ref so, .ref ik, .ref kp, .ref kl, .ref tc, .int tt])) mo = some (oO 11 [.int (nI 0), .int (nI 0), .ref la, .ref ma, .ref it, .ref rl, .ref fr, .ref li, .ref wa, .ref ld, .int ac, .ref tp, .int tn, .int cu, .int sr, .int tk, .int va, .int ft, .int fA, .int lt, .ref so, .ref ik, .ref kp, .ref kl, .ref tc, .int tt]) := (congrFun heq2 mo).symm.trans (fx_up_s _ _ _)
                    refine lv_iload hx hb dX12_rule_146 (lv_at hl 5 rfl) ?_
                    refine lv_iconst (v := nI 2) hx hb dX12_rule_148 (by decide) ?_
                    refine fx_N_ne (a := wz) (b := 2) hx hb (by omega) (by omega) (tgt := 244) dX12_rule_149 (by decide) (fun c149 => ?_) (fun c149 => ?_)
                    · refine lv_iload hx hb dX12_rule_244 (lv_at hl 4 rfl) ?_
                      refine fx_go1 hH (fx_runS C hH hl.1 (As := [.int (nI mz)]) (rest := []) (c_X12_tens (G := G) (base := base) (l := l) (f := fx_up f mo (oO 11 [.int (nI 0), .int (nI 0), .ref la, .ref ma, .ref it, .ref rl, .ref fr, .ref li, .ref wa, .ref ld, .int ac, .ref tp, .int tn, .int cu, .int sr, .int tk, .int va, .int ft, .int fA, .int lt, .ref so, .ref ik, .ref kp, .ref kl, .ref tc, .int tt])) (sz := sz) (n := mz) (by omega)) mY_X12_tens ml_X12_213 st_X12_tens rfl ⟨(Nat.le_of_ble_eq_true rfl), (Nat.le_of_ble_eq_true rfl)⟩ rfl (Nat.le_of_ble_eq_true rfl) ⟨(Nat.le_of_ble_eq_true rfl), (Nat.le_of_ble_eq_true rfl)⟩ dX12_rule_246) (fun H locs hH => ?_)
                      refine lv_aload_n hx hb dX12_rule_249 rfl (lv_at hl 0 rfl) ?_
                      refine fx_go1 hH (fx_runV C hH hl.1 (As := []) (rest := [.long (lN (10 ^ mz))]) (c_X12_allLike (G := G) (base := base) (l := l) (f := fx_up f mo (oO 11 [.int (nI 0), .int (nI 0), .ref la, .ref ma, .ref it, .ref rl, .ref fr, .ref li, .ref wa, .ref ld, .int ac, .ref tp, .int tn, .int cu, .int sr, .int tk, .int va, .int ft, .int fA, .int lt, .ref so, .ref ik, .ref kp, .ref kl, .ref tc, .int tt])) (sz := sz) (P := P) (mo := mo) (th := nI 0) (sa := nI 0) (la := la) (ma := ma) (it := it) (rl := rl) (fr := fr) (li := li) (wa := wa) (ld := ld) (ac := ac) (tp := tp) (tn := tn) (cu := cu) (sr := sr) (tk := tk) (va := va) (ft := ft) (fA := fA) (lt := lt) (so := so) (ik := ik) (kp := kp) (kl := kl) (tc := tc) (tt := tt) (rho := rho) (lam := lam) h2_mo h2_rl h2_li hP (by omega)) mY_X12_allLike ml_X12_205 im_X12_allLike se_X12_X12_allLike h2_mo rfl rfl ⟨(Nat.le_of_ble_eq_true rfl), (Nat.le_of_ble_eq_true rfl)⟩ rfl (Nat.le_of_ble_eq_true rfl) ⟨(Nat.le_of_ble_eq_true rfl), (Nat.le_of_ble_eq_true rfl)⟩ dX12_rule_250) (fun H locs hH => ?_)
                      refine fx_tl (y := lN (sN v (P + 1))) (sJ_N (fun i hi => hv i (by omega))) ?_
                      refine lv_lmul hx hb dX12_rule_253 ?_
                      refine fx_tl (y := lN ((10 ^ mz) * (sN v (P + 1)))) (lN_mul _ _) ?_
                      refine lv_lstore (lv' := [(7, .long (lN ((10 ^ mz) * (sN v (P + 1))))), (0, .ref mo), (1, .int (nI j)), (2, .int (nI kk)), (3, .int (nI nz)), (4, .int (nI mz)), (5, .int (nI wz)), (6, .int (nI (40 * kk)))]) hx hb dX12_rule_254 hl (by decide) rfl (fun ls hl => ?_)
                      refine lv_lload hx hb dX12_rule_256 (lv_at hl 0 rfl) ?_
                      refine lv_aload_n hx hb dX12_rule_258 rfl (lv_at hl 1 rfl) ?_
                      refine lv_iload_n hx hb dX12_rule_259 rfl (lv_at hl 2 rfl) ?_
                      refine lv_iload hx hb dX12_rule_260 (lv_at hl 7 rfl) ?_
                      refine lv_iload_n hx hb dX12_rule_262 rfl (lv_at hl 4 rfl) ?_
                      refine lv_iload hx hb dX12_rule_263 (lv_at hl 5 rfl) ?_
                      refine fx_go1 hH (fx_runV C hH hl.1 (As := [.int (nI j), .int (nI (40 * kk)), .int (nI nz), .int (nI mz)]) (rest := [.long (lN ((10 ^ mz) * (sN v (P + 1))))]) (c_X12_notBy (G := G) (base := base) (l := l) (f := fx_up f mo (oO 11 [.int (nI 0), .int (nI 0), .ref la, .ref ma, .ref it, .ref rl, .ref fr, .ref li, .ref wa, .ref ld, .int ac, .ref tp, .int tn, .int cu, .int sr, .int tk, .int va, .int ft, .int fA, .int lt, .ref so, .ref ik, .ref kp, .ref kl, .ref tc, .int tt])) (sz := sz) (K := K) (wi := wi) (ag := ag) (P := P) (pl := pl) (wy := wy) (wd := (fun z => (git (40 * kk + z)).toNatClampNeg)) (mo := mo) (j := j) (at_ := 40 * kk) (n := nz) (mm := mz) (th := nI 0) (sa := nI 0) (la := la) (ma := ma) (it := it) (rl := rl) (fr := fr) (li := li) (wa := wa) (ld := ld) (ac := ac) (tp := tp) (tn := tn) (cu := cu) (sr := sr) (tk := tk) (va := va) (ft := ft) (fA := fA) (lt := lt) (so := so) (ik := ik) (kp := kp) (kl := kl) (tc := tc) (tt := tt) (rho := rho) (lam := lam) (gso := gso) (git := git) h2_mo h2_rl h2_li h2_so h2_it hne_2 hne_3 (by omega) hk0 hk1 hk2 (by omega) (by omega) (by omega) hP (by omega) (by omega) hpl (by omega) hwy (by omega) (by omega) (by omega) (by omega) hwd) mY_X12_notBy ml_X12_248 im_X12_notBy se_X12_X12_notBy h2_mo rfl rfl ⟨(Nat.le_of_ble_eq_true rfl), (Nat.le_of_ble_eq_true rfl)⟩ rfl (Nat.le_of_ble_eq_true rfl) ⟨(Nat.le_of_ble_eq_true rfl), (Nat.le_of_ble_eq_true rfl)⟩ dX12_rule_265) (fun H locs hH => ?_)
                      have hH : fx_H G base s (fx_up (fx_up f mo (oO 11 [.int (nI 0), .int (nI 0), .ref la, .ref ma, .ref it, .ref rl, .ref fr, .ref li, .ref wa, .ref ld, .int ac, .ref tp, .int tn, .int cu, .int sr, .int tk, .int va, .int ft, .int fA, .int lt, .ref so, .ref ik, .ref kp, .ref kl, .ref tc, .int tt])) so (oJ 13 (qS (fJ gso 0 lam 13) P pl wy (fun z => (git (40 * kk + z)).toNatClampNeg) nz K wi ag mz))) sz H locs := hH
                      have h3_rl : (fx_up (fx_up f mo (oO 11 [.int (nI 0), .int (nI 0), .ref la, .ref ma, .ref it, .ref rl, .ref fr, .ref li, .ref wa, .ref ld, .int ac, .ref tp, .int tn, .int cu, .int sr, .int tk, .int va, .int ft, .int fA, .int lt, .ref so, .ref ik, .ref kp, .ref kl, .ref tc, .int tt])) so (oJ 13 (qS (fJ gso 0 lam 13) P pl wy (fun z => (git (40 * kk + z)).toNatClampNeg) nz K wi ag mz))) rl = some (oI 48 rho) := (fx_up_n _ _ (fx_ne h2_rl h2_so rfl)).trans h2_rl
                      have h3_li : (fx_up (fx_up f mo (oO 11 [.int (nI 0), .int (nI 0), .ref la, .ref ma, .ref it, .ref rl, .ref fr, .ref li, .ref wa, .ref ld, .int ac, .ref tp, .int tn, .int cu, .int sr, .int tk, .int va, .int ft, .int fA, .int lt, .ref so, .ref ik, .ref kp, .ref kl, .ref tc, .int tt])) so (oJ 13 (qS (fJ gso 0 lam 13) P pl wy (fun z => (git (40 * kk + z)).toNatClampNeg) nz K wi ag mz))) li = some (oJ 13 lam) := (fx_up_n _ _ hne_3).trans h2_li
                      have h3_la : (fx_up (fx_up f mo (oO 11 [.int (nI 0), .int (nI 0), .ref la, .ref ma, .ref it, .ref rl, .ref fr, .ref li, .ref wa, .ref ld, .int ac, .ref tp, .int tn, .int cu, .int sr, .int tk, .int va, .int ft, .int fA, .int lt, .ref so, .ref ik, .ref kp, .ref kl, .ref tc, .int tt])) so (oJ 13 (qS (fJ gso 0 lam 13) P pl wy (fun z => (git (40 * kk + z)).toNatClampNeg) nz K wi ag mz))) la = some (oI 8 gla) := (fx_up_n _ _ (fx_ne h2_la h2_so rfl)).trans h2_la
                      have h3_ma : (fx_up (fx_up f mo (oO 11 [.int (nI 0), .int (nI 0), .ref la, .ref ma, .ref it, .ref rl, .ref fr, .ref li, .ref wa, .ref ld, .int ac, .ref tp, .int tn, .int cu, .int sr, .int tk, .int va, .int ft, .int fA, .int lt, .ref so, .ref ik, .ref kp, .ref kl, .ref tc, .int tt])) so (oJ 13 (qS (fJ gso 0 lam 13) P pl wy (fun z => (git (40 * kk + z)).toNatClampNeg) nz K wi ag mz))) ma = some (oI 8 gma) := (fx_up_n _ _ (fx_ne h2_ma h2_so rfl)).trans h2_ma
                      have h3_it : (fx_up (fx_up f mo (oO 11 [.int (nI 0), .int (nI 0), .ref la, .ref ma, .ref it, .ref rl, .ref fr, .ref li, .ref wa, .ref ld, .int ac, .ref tp, .int tn, .int cu, .int sr, .int tk, .int va, .int ft, .int fA, .int lt, .ref so, .ref ik, .ref kp, .ref kl, .ref tc, .int tt])) so (oJ 13 (qS (fJ gso 0 lam 13) P pl wy (fun z => (git (40 * kk + z)).toNatClampNeg) nz K wi ag mz))) it = some (oI 320 git) := (fx_up_n _ _ (fx_ne h2_it h2_so rfl)).trans h2_it
                      have h3_mo : (fx_up (fx_up f mo (oO 11 [.int (nI 0), .int (nI 0), .ref la, .ref ma, .ref it, .ref rl, .ref fr, .ref li, .ref wa, .ref ld, .int ac, .ref tp, .int tn, .int cu, .int sr, .int tk, .int va, .int ft, .int fA, .int lt, .ref so, .ref ik, .ref kp, .ref kl, .ref tc, .int tt])) so (oJ 13 (qS (fJ gso 0 lam 13) P pl wy (fun z => (git (40 * kk + z)).toNatClampNeg) nz K wi ag mz))) mo = some (oO 11 [.int (nI 0), .int (nI 0), .ref la, .ref ma, .ref it, .ref rl, .ref fr, .ref li, .ref wa, .ref ld, .int ac, .ref tp, .int tn, .int cu, .int sr, .int tk, .int va, .int ft, .int fA, .int lt, .ref so, .ref ik, .ref kp, .ref kl, .ref tc, .int tt]) := (fx_up_n _ _ (fx_ne h2_mo h2_so rfl)).trans h2_mo
                      have h3_so : (fx_up (fx_up f mo (oO 11 [.int (nI 0), .int (nI 0), .ref la, .ref ma, .ref it, .ref rl, .ref fr, .ref li, .ref wa, .ref ld, .int ac, .ref tp, .int tn, .int cu, .int sr, .int tk, .int va, .int ft, .int fA, .int lt, .ref so, .ref ik, .ref kp, .ref kl, .ref tc, .int tt])) so (oJ 13 (qS (fJ gso 0 lam 13) P pl wy (fun z => (git (40 * kk + z)).toNatClampNeg) nz K wi ag mz))) so = some (oJ 13 (qS (fJ gso 0 lam 13) P pl wy (fun z => (git (40 * kk + z)).toNatClampNeg) nz K wi ag mz)) := fx_up_s _ _ _
                      have hH : fx_H G base s (fx_up (fx_up f mo (oO 11 [.int (nI 0), .int (nI 0), .ref la, .ref ma, .ref it, .ref rl, .ref fr, .ref li, .ref wa, .ref ld, .int ac, .ref tp, .int tn, .int cu, .int sr, .int tk, .int va, .int ft, .int fA, .int lt, .ref so, .ref ik, .ref kp, .ref kl, .ref tc, .int tt])) so (oJ 13 (qS (fJ gso 0 lam 13) P pl wy (fun z => (git (40 * kk + z)).toNatClampNeg) nz K wi ag mz))) sz H locs := hH
                      refine fx_tl (y := lN (tw (fun z => (git (40 * kk + z)).toNatClampNeg) nz mz)) htw9.1 ?_
                      refine lv_lsub hx hb dX12_rule_268 ?_
                      refine fx_tl (y := lN (((10 ^ mz) * (sN v (P + 1))) - (tw (fun z => (git (40 * kk + z)).toNatClampNeg) nz mz))) (lN_sub (by omega)) ?_
                      refine lv_lload hx hb dX12_rule_269 (lv_at hl 0 rfl) ?_
                      refine lv_iload hx hb dX12_rule_271 (lv_at hl 6 rfl) ?_
                      refine fx_go1 hH (fx_runS C hH hl.1 (As := [.long (lN (((10 ^ mz) * (sN v (P + 1))) - (tw (fun z => (git (40 * kk + z)).toNatClampNeg) nz mz))), .long (lN ((10 ^ mz) * (sN v (P + 1)))), .int (nI wz)]) (rest := []) (c_X12_part (G := G) (base := base) (l := l) (f := fx_up (fx_up f mo (oO 11 [.int (nI 0), .int (nI 0), .ref la, .ref ma, .ref it, .ref rl, .ref fr, .ref li, .ref wa, .ref ld, .int ac, .ref tp, .int tn, .int cu, .int sr, .int tk, .int va, .int ft, .int fA, .int lt, .ref so, .ref ik, .ref kp, .ref kl, .ref tc, .int tt])) so (oJ 13 (qS (fJ gso 0 lam 13) P pl wy (fun z => (git (40 * kk + z)).toNatClampNeg) nz K wi ag mz))) (sz := sz) (aa_ := ((10 ^ mz) * (sN v (P + 1))) - (tw (fun z => (git (40 * kk + z)).toNatClampNeg) nz mz)) (bb := (10 ^ mz) * (sN v (P + 1))) (wh := wz) (by omega) (by omega) (by omega) (Nat.gcd_pos_of_pos_right _ (by omega))) mY_X12_part ml_X12_209 st_X12_part rfl ⟨(Nat.le_of_ble_eq_true rfl), (Nat.le_of_ble_eq_true rfl)⟩ rfl (Nat.le_of_ble_eq_true rfl) ⟨(Nat.le_of_ble_eq_true rfl), (Nat.le_of_ble_eq_true rfl)⟩ dX12_rule_273) (fun H locs hH => ?_)
                      exact fx_lretP C hr hk hH (K3 c29 c42 c55 c68 c85 nz hnz mz hmz wz hwz hns rfl rfl rfl i0 hi0 hall c107 c149) (Nat.zero_le _) (Nat.zero_le _) dX12_rule_276
                    · refine lv_iload hx hb dX12_rule_152 (lv_at hl 4 rfl) ?_
                      refine lv_istore (lv' := [(7, .int (nI mz)), (0, .ref mo), (1, .int (nI j)), (2, .int (nI kk)), (3, .int (nI nz)), (4, .int (nI mz)), (5, .int (nI wz)), (6, .int (nI (40 * kk)))]) hx hb dX12_rule_154 hl (by decide) rfl (fun ls hl => ?_)
                      refine lv_iconst (v := nI 0) hx hb dX12_rule_156 (by decide) ?_
                      refine lv_istore (lv' := [(8, .int (nI 0)), (7, .int (nI mz)), (0, .ref mo), (1, .int (nI j)), (2, .int (nI kk)), (3, .int (nI nz)), (4, .int (nI mz)), (5, .int (nI wz)), (6, .int (nI (40 * kk)))]) hx hb dX12_rule_157 hl (by decide) rfl (fun ls hl => ?_)
                      have loop_159 : ∀ (N_159 : Nat) (i2 : Nat) (hi2 : i2 ≤ mz - 1) (hm_159 : mz - 1 - i2 < N_159) (H : Heap) (locs : List Loc) (hH : fx_H G base s (fx_up f mo (oO 11 [.int (nI 0), .int (nI 0), .ref la, .ref ma, .ref it, .ref rl, .ref fr, .ref li, .ref wa, .ref ld, .int ac, .ref tp, .int tn, .int cu, .int sr, .int tk, .int va, .int ft, .int fA, .int lt, .ref so, .ref ik, .ref kp, .ref kl, .ref tc, .int tt])) sz H locs) (ls : Array Slot) (hl : lv_has ls 10 [(0, .ref mo), (1, .int (nI j)), (2, .int (nI kk)), (3, .int (nI nz)), (4, .int (nI mz)), (5, .int (nI wz)), (6, .int (nI (40 * kk))), (7, .int (rsS sp (rho 2) (fun z => (git (40 * kk + z)).toNatClampNeg) nz mz i2)), (8, .int (nI i2))]), W p l e rm_X12_rule s m args below meth c H locs 0 0 (MQ below (fx_QP G base Po) args s rm_X12_rule.cells rm_X12_rule.slots (fun q => base ≤ q)) (F0 m 159 ls []) := by
                        intro N_159
                        induction N_159 with
                        | zero => intro i2 hi2 hm_159; exact absurd hm_159 (Nat.not_lt_zero _)
                        | succ N_159 ih_159 =>
                          intro i2 hi2 hm_159 H locs hH ls hl
                          have hmod : i2 % nz < nz := Nat.mod_lt _ (by omega)
                          have hwk := (hwd (i2 % nz) hmod).2
                          refine lv_iload hx hb dX12_rule_159 (lv_at hl 8 rfl) ?_
                          refine lv_iload hx hb dX12_rule_161 (lv_at hl 4 rfl) ?_
                          refine lv_iconst (v := nI 1) hx hb dX12_rule_163 (by decide) ?_
                          refine lv_isub hx hb dX12_rule_164 ?_
                          refine fx_ti (y := nI (mz - 1)) (pk_sub (by omega)) ?_
                          refine fx_N_ge (a := i2) (b := mz - 1) hx hb (by omega) (by omega) (tgt := 240) dX12_rule_165 (by decide) (fun c165 => ?_) (fun c165 => ?_)
                          · refine lv_iload hx hb dX12_rule_240 (lv_at hl 7 rfl) ?_
                            refine lv_i2l (v := (rsS sp (rho 2) (fun z => (git (40 * kk + z)).toNatClampNeg) nz mz i2).toInt64) hx hb dX12_rule_242 rfl ?_
                            exact fx_lretP C hr hk hH (K4 c29 c42 c55 c68 c85 nz hnz mz hmz wz hwz hns rfl rfl rfl i0 hi0 hall c107 c149 i2 hi2 c165) (Nat.zero_le _) (Nat.zero_le _) dX12_rule_243
                          · refine lv_aload_n hx hb dX12_rule_168 rfl (lv_at hl 0 rfl) ?_
                            refine fx_get C hH (k := 4) (v := .ref it) h2_mo ff_X12_16_11 rfl dX12_rule_169 ?_
                            refine lv_iload hx hb dX12_rule_172 (lv_at hl 6 rfl) ?_
                            refine lv_iload hx hb dX12_rule_174 (lv_at hl 8 rfl) ?_
                            refine lv_iload_n hx hb dX12_rule_176 rfl (lv_at hl 3 rfl) ?_
                            refine lv_irem hx hb dX12_rule_177 (fun q => absurd ((nI_eq (b := 0) (by omega) (by omega)).mp q) (by omega)) ?_
                            refine fx_ti (y := nI (i2 % nz)) (pk_rem (by omega) (by omega) (by omega)) ?_
                            refine lv_iadd hx hb dX12_rule_178 ?_
                            refine fx_ti (y := nI (40 * kk + (i2 % nz))) (nI_add _ _) ?_
                            refine fx_ialdN C hH h2_it (by omega) (by omega) dX12_rule_179 ?_
                            refine fx_ti (y := nI ((fun z => (git (40 * kk + z)).toNatClampNeg) (i2 % nz))) ((hwd (i2 % nz) hmod).1) ?_
                            refine lv_istore (lv' := [(9, .int (nI ((fun z => (git (40 * kk + z)).toNatClampNeg) (i2 % nz)))), (0, .ref mo), (1, .int (nI j)), (2, .int (nI kk)), (3, .int (nI nz)), (4, .int (nI mz)), (5, .int (nI wz)), (6, .int (nI (40 * kk))), (7, .int (rsS sp (rho 2) (fun z => (git (40 * kk + z)).toNatClampNeg) nz mz i2)), (8, .int (nI i2))]) hx hb dX12_rule_180 hl (by decide) rfl (fun ls hl => ?_)
                            refine lv_iload hx hb dX12_rule_182 (lv_at hl 8 rfl) ?_
                            refine lv_iload hx hb dX12_rule_184 (lv_at hl 0 rfl) ?_
                            refine fx_O_ne (a := (fun z => (git (40 * kk + z)).toNatClampNeg) (i2 % nz)) hx hb (by omega) (tgt := 198) dX12_rule_186 (by decide) (fun c186 => ?_) (fun c186 => ?_)
                            · refine lv_iload hx hb dX12_rule_198 (lv_at hl 0 rfl) ?_
                              refine lv_iconst (v := nI 1) hx hb dX12_rule_200 (by decide) ?_
                              refine fx_N_ne (a := (fun z => (git (40 * kk + z)).toNatClampNeg) (i2 % nz)) (b := 1) hx hb (by omega) (by omega) (tgt := 213) dX12_rule_201 (by decide) (fun c201 => ?_) (fun c201 => ?_)
                              · refine lv_iload hx hb dX12_rule_213 (lv_at hl 0 rfl) ?_
                                refine lv_iconst (v := nI 2) hx hb dX12_rule_215 (by decide) ?_
                                refine fx_N_ne (a := (fun z => (git (40 * kk + z)).toNatClampNeg) (i2 % nz)) (b := 2) hx hb (by omega) (by omega) (tgt := 230) dX12_rule_216 (by decide) (fun c216 => ?_) (fun c216 => ?_)
                                · refine lv_iconst (v := nI 0) hx hb dX12_rule_230 (by decide) ?_
                                  refine lv_iadd hx hb dX12_rule_231 ?_
                                  refine lv_istore (lv' := [(7, .int ((rsS sp (rho 2) (fun z => (git (40 * kk + z)).toNatClampNeg) nz mz i2) + (nI 0))), (9, .int (nI ((fun z => (git (40 * kk + z)).toNatClampNeg) (i2 % nz)))), (0, .ref mo), (1, .int (nI j)), (2, .int (nI kk)), (3, .int (nI nz)), (4, .int (nI mz)), (5, .int (nI wz)), (6, .int (nI (40 * kk))), (8, .int (nI i2))]) hx hb dX12_rule_232 hl (by decide) rfl (fun ls hl => ?_)
                                  refine lv_iinc (v := nI (i2 + 1)) (lv' := [(8, .int (nI (i2 + 1))), (7, .int ((rsS sp (rho 2) (fun z => (git (40 * kk + z)).toNatClampNeg) nz mz i2) + (nI 0))), (9, .int (nI ((fun z => (git (40 * kk + z)).toNatClampNeg) (i2 % nz)))), (0, .ref mo), (1, .int (nI j)), (2, .int (nI kk)), (3, .int (nI nz)), (4, .int (nI mz)), (5, .int (nI wz)), (6, .int (nI (40 * kk)))]) hx hb dX12_rule_234 hl (k := 9) rfl (nI_1 _) (by decide) rfl (fun ls hl => ?_)
                                  refine lv_goto (tgt := 159) hx hb dX12_rule_237 (by decide) ?_
                                  have hl : lv_has ls 10 [(0, .ref mo), (1, .int (nI j)), (2, .int (nI kk)), (3, .int (nI nz)), (4, .int (nI mz)), (5, .int (nI wz)), (6, .int (nI (40 * kk))), (7, .int ((rsS sp (rho 2) (fun z => (git (40 * kk + z)).toNatClampNeg) nz mz i2) + (nI 0))), (8, .int (nI (i2 + 1)))] := lv_sub hl [3, 4, 5, 6, 7, 8, 9, 1, 0] rfl
                                  have hl : lv_has ls 10 [(0, .ref mo), (1, .int (nI j)), (2, .int (nI kk)), (3, .int (nI nz)), (4, .int (nI mz)), (5, .int (nI wz)), (6, .int (nI (40 * kk))), (7, .int (rsS sp (rho 2) (fun z => (git (40 * kk + z)).toNatClampNeg) nz mz (i2 + 1))), (8, .int (nI (i2 + 1)))] := by
                                    have e_ : rsS sp (rho 2) (fun z => (git (40 * kk + z)).toNatClampNeg) nz mz (i2 + 1) = rsS sp (rho 2) (fun z => (git (40 * kk + z)).toNatClampNeg) nz mz i2 + (nI 0) := by rw [rsS, if_neg c186, if_neg c201, if_neg c216]
                                    rw [e_]
                                    exact hl
                                  exact ih_159 (i2 + 1) (by omega) (by omega) _ _ hH _ hl
                                · refine lv_iconst (v := nI 2) hx hb dX12_rule_219 (by decide) ?_
                                  refine lv_aload_n hx hb dX12_rule_220 rfl (lv_at hl 1 rfl) ?_
                                  refine fx_get C hH (k := 5) (v := .ref rl) h2_mo ff_X12_19_11 rfl dX12_rule_221 ?_
                                  refine lv_iconst (v := nI 1) hx hb dX12_rule_224 (by decide) ?_
                                  refine fx_ialdN C hH h2_rl (by omega) (by omega) dX12_rule_225 ?_
                                  refine fx_ti (y := nI sp) hsp ?_
                                  refine lv_imul hx hb dX12_rule_226 ?_
                                  refine lv_goto (tgt := 231) hx hb dX12_rule_227 (by decide) ?_
                                  refine lv_iadd hx hb dX12_rule_231 ?_
                                  refine lv_istore (lv' := [(7, .int ((rsS sp (rho 2) (fun z => (git (40 * kk + z)).toNatClampNeg) nz mz i2) + ((nI 2) * (nI sp)))), (9, .int (nI ((fun z => (git (40 * kk + z)).toNatClampNeg) (i2 % nz)))), (0, .ref mo), (1, .int (nI j)), (2, .int (nI kk)), (3, .int (nI nz)), (4, .int (nI mz)), (5, .int (nI wz)), (6, .int (nI (40 * kk))), (8, .int (nI i2))]) hx hb dX12_rule_232 hl (by decide) rfl (fun ls hl => ?_)
                                  refine lv_iinc (v := nI (i2 + 1)) (lv' := [(8, .int (nI (i2 + 1))), (7, .int ((rsS sp (rho 2) (fun z => (git (40 * kk + z)).toNatClampNeg) nz mz i2) + ((nI 2) * (nI sp)))), (9, .int (nI ((fun z => (git (40 * kk + z)).toNatClampNeg) (i2 % nz)))), (0, .ref mo), (1, .int (nI j)), (2, .int (nI kk)), (3, .int (nI nz)), (4, .int (nI mz)), (5, .int (nI wz)), (6, .int (nI (40 * kk)))]) hx hb dX12_rule_234 hl (k := 9) rfl (nI_1 _) (by decide) rfl (fun ls hl => ?_)
                                  refine lv_goto (tgt := 159) hx hb dX12_rule_237 (by decide) ?_
                                  have hl : lv_has ls 10 [(0, .ref mo), (1, .int (nI j)), (2, .int (nI kk)), (3, .int (nI nz)), (4, .int (nI mz)), (5, .int (nI wz)), (6, .int (nI (40 * kk))), (7, .int ((rsS sp (rho 2) (fun z => (git (40 * kk + z)).toNatClampNeg) nz mz i2) + ((nI 2) * (nI sp)))), (8, .int (nI (i2 + 1)))] := lv_sub hl [3, 4, 5, 6, 7, 8, 9, 1, 0] rfl
                                  have hl : lv_has ls 10 [(0, .ref mo), (1, .int (nI j)), (2, .int (nI kk)), (3, .int (nI nz)), (4, .int (nI mz)), (5, .int (nI wz)), (6, .int (nI (40 * kk))), (7, .int (rsS sp (rho 2) (fun z => (git (40 * kk + z)).toNatClampNeg) nz mz (i2 + 1))), (8, .int (nI (i2 + 1)))] := by
                                    have e_ : rsS sp (rho 2) (fun z => (git (40 * kk + z)).toNatClampNeg) nz mz (i2 + 1) = rsS sp (rho 2) (fun z => (git (40 * kk + z)).toNatClampNeg) nz mz i2 + (nI 2 * nI sp) := by rw [rsS, if_neg c186, if_neg c201, if_pos c216]
                                    rw [e_]
                                    exact hl
                                  exact ih_159 (i2 + 1) (by omega) (by omega) _ _ hH _ hl
                              · refine lv_aload_n hx hb dX12_rule_204 rfl (lv_at hl 1 rfl) ?_
                                refine fx_get C hH (k := 5) (v := .ref rl) h2_mo ff_X12_19_11 rfl dX12_rule_205 ?_
                                refine lv_iconst (v := nI 2) hx hb dX12_rule_208 (by decide) ?_
                                refine fx_ialdN C hH h2_rl (by omega) (by omega) dX12_rule_209 ?_
                                refine lv_goto (tgt := 231) hx hb dX12_rule_210 (by decide) ?_
                                refine lv_iadd hx hb dX12_rule_231 ?_
                                refine lv_istore (lv' := [(7, .int ((rsS sp (rho 2) (fun z => (git (40 * kk + z)).toNatClampNeg) nz mz i2) + (rho 2))), (9, .int (nI ((fun z => (git (40 * kk + z)).toNatClampNeg) (i2 % nz)))), (0, .ref mo), (1, .int (nI j)), (2, .int (nI kk)), (3, .int (nI nz)), (4, .int (nI mz)), (5, .int (nI wz)), (6, .int (nI (40 * kk))), (8, .int (nI i2))]) hx hb dX12_rule_232 hl (by decide) rfl (fun ls hl => ?_)
                                refine lv_iinc (v := nI (i2 + 1)) (lv' := [(8, .int (nI (i2 + 1))), (7, .int ((rsS sp (rho 2) (fun z => (git (40 * kk + z)).toNatClampNeg) nz mz i2) + (rho 2))), (9, .int (nI ((fun z => (git (40 * kk + z)).toNatClampNeg) (i2 % nz)))), (0, .ref mo), (1, .int (nI j)), (2, .int (nI kk)), (3, .int (nI nz)), (4, .int (nI mz)), (5, .int (nI wz)), (6, .int (nI (40 * kk)))]) hx hb dX12_rule_234 hl (k := 9) rfl (nI_1 _) (by decide) rfl (fun ls hl => ?_)
                                refine lv_goto (tgt := 159) hx hb dX12_rule_237 (by decide) ?_
                                have hl : lv_has ls 10 [(0, .ref mo), (1, .int (nI j)), (2, .int (nI kk)), (3, .int (nI nz)), (4, .int (nI mz)), (5, .int (nI wz)), (6, .int (nI (40 * kk))), (7, .int ((rsS sp (rho 2) (fun z => (git (40 * kk + z)).toNatClampNeg) nz mz i2) + (rho 2))), (8, .int (nI (i2 + 1)))] := lv_sub hl [3, 4, 5, 6, 7, 8, 9, 1, 0] rfl
                                have hl : lv_has ls 10 [(0, .ref mo), (1, .int (nI j)), (2, .int (nI kk)), (3, .int (nI nz)), (4, .int (nI mz)), (5, .int (nI wz)), (6, .int (nI (40 * kk))), (7, .int (rsS sp (rho 2) (fun z => (git (40 * kk + z)).toNatClampNeg) nz mz (i2 + 1))), (8, .int (nI (i2 + 1)))] := by
                                  have e_ : rsS sp (rho 2) (fun z => (git (40 * kk + z)).toNatClampNeg) nz mz (i2 + 1) = rsS sp (rho 2) (fun z => (git (40 * kk + z)).toNatClampNeg) nz mz i2 + (rho 2) := by rw [rsS, if_neg c186, if_pos c201]
                                  rw [e_]
                                  exact hl
                                exact ih_159 (i2 + 1) (by omega) (by omega) _ _ hH _ hl
                            · refine lv_aload_n hx hb dX12_rule_189 rfl (lv_at hl 1 rfl) ?_
                              refine fx_get C hH (k := 5) (v := .ref rl) h2_mo ff_X12_19_11 rfl dX12_rule_190 ?_
                              refine lv_iconst (v := nI 1) hx hb dX12_rule_193 (by decide) ?_
                              refine fx_ialdN C hH h2_rl (by omega) (by omega) dX12_rule_194 ?_
                              refine fx_ti (y := nI sp) hsp ?_
                              refine lv_goto (tgt := 231) hx hb dX12_rule_195 (by decide) ?_
                              refine lv_iadd hx hb dX12_rule_231 ?_
                              refine lv_istore (lv' := [(7, .int ((rsS sp (rho 2) (fun z => (git (40 * kk + z)).toNatClampNeg) nz mz i2) + (nI sp))), (9, .int (nI ((fun z => (git (40 * kk + z)).toNatClampNeg) (i2 % nz)))), (0, .ref mo), (1, .int (nI j)), (2, .int (nI kk)), (3, .int (nI nz)), (4, .int (nI mz)), (5, .int (nI wz)), (6, .int (nI (40 * kk))), (8, .int (nI i2))]) hx hb dX12_rule_232 hl (by decide) rfl (fun ls hl => ?_)
                              refine lv_iinc (v := nI (i2 + 1)) (lv' := [(8, .int (nI (i2 + 1))), (7, .int ((rsS sp (rho 2) (fun z => (git (40 * kk + z)).toNatClampNeg) nz mz i2) + (nI sp))), (9, .int (nI ((fun z => (git (40 * kk + z)).toNatClampNeg) (i2 % nz)))), (0, .ref mo), (1, .int (nI j)), (2, .int (nI kk)), (3, .int (nI nz)), (4, .int (nI mz)), (5, .int (nI wz)), (6, .int (nI (40 * kk)))]) hx hb dX12_rule_234 hl (k := 9) rfl (nI_1 _) (by decide) rfl (fun ls hl => ?_)
                              refine lv_goto (tgt := 159) hx hb dX12_rule_237 (by decide) ?_
                              have hl : lv_has ls 10 [(0, .ref mo), (1, .int (nI j)), (2, .int (nI kk)), (3, .int (nI nz)), (4, .int (nI mz)), (5, .int (nI wz)), (6, .int (nI (40 * kk))), (7, .int ((rsS sp (rho 2) (fun z => (git (40 * kk + z)).toNatClampNeg) nz mz i2) + (nI sp))), (8, .int (nI (i2 + 1)))] := lv_sub hl [3, 4, 5, 6, 7, 8, 9, 1, 0] rfl
                              have hl : lv_has ls 10 [(0, .ref mo), (1, .int (nI j)), (2, .int (nI kk)), (3, .int (nI nz)), (4, .int (nI mz)), (5, .int (nI wz)), (6, .int (nI (40 * kk))), (7, .int (rsS sp (rho 2) (fun z => (git (40 * kk + z)).toNatClampNeg) nz mz (i2 + 1))), (8, .int (nI (i2 + 1)))] := by
                                have e_ : rsS sp (rho 2) (fun z => (git (40 * kk + z)).toNatClampNeg) nz mz (i2 + 1) = rsS sp (rho 2) (fun z => (git (40 * kk + z)).toNatClampNeg) nz mz i2 + (nI sp) := by rw [rsS, if_pos c186]
                                rw [e_]
                                exact hl
                              exact ih_159 (i2 + 1) (by omega) (by omega) _ _ hH _ hl
                      have hl : lv_has ls 10 [(0, .ref mo), (1, .int (nI j)), (2, .int (nI kk)), (3, .int (nI nz)), (4, .int (nI mz)), (5, .int (nI wz)), (6, .int (nI (40 * kk))), (7, .int (nI mz)), (8, .int (nI 0))] := lv_sub hl [2, 3, 4, 5, 6, 7, 8, 1, 0] rfl
                      have hl : lv_has ls 10 [(0, .ref mo), (1, .int (nI j)), (2, .int (nI kk)), (3, .int (nI nz)), (4, .int (nI mz)), (5, .int (nI wz)), (6, .int (nI (40 * kk))), (7, .int (rsS sp (rho 2) (fun z => (git (40 * kk + z)).toNatClampNeg) nz mz 0)), (8, .int (nI 0))] := hl
                      exact loop_159 _ 0 (by omega) (Nat.lt_succ_self _) _ _ hH _ hl
                  · refine lv_aload_n hx hb dX12_rule_110 rfl (lv_at hl 0 rfl) ?_
                    refine fx_get C hH (k := 4) (v := .ref it) h1_mo ff_X12_16_11 rfl dX12_rule_111 ?_
                    refine lv_iload hx hb dX12_rule_114 (lv_at hl 6 rfl) ?_
                    refine lv_iload hx hb dX12_rule_116 (lv_at hl 7 rfl) ?_
                    refine lv_iadd hx hb dX12_rule_118 ?_
                    refine fx_ti (y := nI (40 * kk + i0)) (nI_add _ _) ?_
                    refine fx_ialdN C hH h1_it (by omega) (by omega) dX12_rule_119 ?_
                    refine lv_i2l (v := (git (40 * kk + i0)).toInt64) hx hb dX12_rule_120 rfl ?_
                    refine lv_lconst (v := lN 0) hx hb dX12_rule_121 (by decide) ?_
                    refine lv_ldc2 (v := (3)) hx hb C.2.2.2.1 (C.2.2.2.2.1 _ kL_X12_199 rfl args) dX12_rule_122 ?_
                    refine fx_tl (y := lN 3) (by decide) ?_
                    refine fx_go1 hH (fx_runS C hH hl.1 (As := [.long ((git (40 * kk + i0)).toInt64), .long (lN 0), .long (lN 3)]) (rest := []) (c_X12_in_i (G := G) (base := base) (l := l) (f := fx_up f mo (oO 11 [.int (nI 0), .int sa, .ref la, .ref ma, .ref it, .ref rl, .ref fr, .ref li, .ref wa, .ref ld, .int ac, .ref tp, .int tn, .int cu, .int sr, .int tk, .int va, .int ft, .int fA, .int lt, .ref so, .ref ik, .ref kp, .ref kl, .ref tc, .int tt])) (sz := sz) (x := (git (40 * kk + i0))) (lo := 0) (hi := 3) (by omega) (by omega)) mY_X12_in ml_X12_64 st_X12_in rfl ⟨(Nat.le_of_ble_eq_true rfl), (Nat.le_of_ble_eq_true rfl)⟩ rfl (Nat.le_of_ble_eq_true rfl) ⟨(Nat.le_of_ble_eq_true rfl), (Nat.le_of_ble_eq_true rfl)⟩ dX12_rule_125) (fun H locs hH => ?_)
                    refine fx_b_ne hx hb (tgt := 135) dX12_rule_128 (by decide) (fun c128 => ?_) (fun c128 => ?_)
                    · refine lv_iinc (v := nI (i0 + 1)) (lv' := [(7, .int (nI (i0 + 1))), (0, .ref mo), (1, .int (nI j)), (2, .int (nI kk)), (3, .int (nI nz)), (4, .int (nI mz)), (5, .int (nI wz)), (6, .int (nI (40 * kk)))]) hx hb dX12_rule_135 hl (k := 7) rfl (nI_1 _) (by decide) rfl (fun ls hl => ?_)
                      refine lv_goto (tgt := 104) hx hb dX12_rule_138 (by decide) ?_
                      have hl : lv_has ls 10 [(0, .ref mo), (1, .int (nI j)), (2, .int (nI kk)), (3, .int (nI nz)), (4, .int (nI mz)), (5, .int (nI wz)), (6, .int (nI (40 * kk))), (7, .int (nI (i0 + 1)))] := lv_sub hl [1, 2, 3, 4, 5, 6, 7, 0] rfl
                      exact ih_104 (i0 + 1) (by omega) (fun z hz => by rcases Nat.lt_succ_iff_lt_or_eq.mp hz with q9 | q9; exact hall z q9; subst q9; exact c128) (by omega) _ _ hH _ hl
                    · refine lv_ldc2 (v := (-1000001)) hx hb C.2.2.2.1 (C.2.2.2.2.1 _ kL_X12_201 rfl args) dX12_rule_131 ?_
                      exact fx_lretP C hr hk hH (K5 c29 c42 c55 c68 c85 nz hnz mz hmz wz hwz hns rfl rfl rfl i0 hi0 hall c107 c128) (Nat.zero_le _) (Nat.zero_le _) dX12_rule_134
              have hl : lv_has ls 10 [(0, .ref mo), (1, .int (nI j)), (2, .int (nI kk)), (3, .int (nI nz)), (4, .int (nI mz)), (5, .int (nI wz)), (6, .int (nI (40 * kk))), (7, .int (nI 0))] := lv_sub hl [2, 3, 4, 5, 6, 7, 1, 0] rfl
              exact loop_104 _ 0 (by omega) (fun z hz => absurd hz (Nat.not_lt_zero _)) (Nat.lt_succ_self _) _ _ hH _ hl
          · refine lv_aload_n hx hb dX12_rule_88 rfl (lv_at hl 0 rfl) ?_
            refine lv_iconst (v := nI 2) hx hb dX12_rule_89 (by decide) ?_
            refine fx_go1 hH (fx_runV C hH hl.1 (As := [.int (nI 2)]) (rest := []) (c_X12_finding (G := G) (base := base) (l := l) (f := fx_up f mo (oO 11 [.int (nI 0), .int sa, .ref la, .ref ma, .ref it, .ref rl, .ref fr, .ref li, .ref wa, .ref ld, .int ac, .ref tp, .int tn, .int cu, .int sr, .int tk, .int va, .int ft, .int fA, .int lt, .ref so, .ref ik, .ref kp, .ref kl, .ref tc, .int tt])) (sz := sz) (mo := mo) (nn := nI 2) (th := nI 0) (sa := sa) (la := la) (ma := ma) (it := it) (rl := rl) (fr := fr) (li := li) (wa := wa) (ld := ld) (ac := ac) (tp := tp) (tn := tn) (cu := cu) (sr := sr) (tk := tk) (va := va) (ft := ft) (fA := fA) (lt := lt) (so := so) (ik := ik) (kp := kp) (kl := kl) (tc := tc) (tt := tt) h1_mo) mY_X12_finding ml_X12_75 im_X12_finding se_X12_X12_finding h1_mo rfl rfl ⟨(Nat.le_of_ble_eq_true rfl), (Nat.le_of_ble_eq_true rfl)⟩ rfl (Nat.le_of_ble_eq_true rfl) ⟨(Nat.le_of_ble_eq_true rfl), (Nat.le_of_ble_eq_true rfl)⟩ dX12_rule_90) (fun H locs hH => ?_)
            have hH : fx_H G base s (fx_up (fx_up f mo (oO 11 [.int (nI 0), .int sa, .ref la, .ref ma, .ref it, .ref rl, .ref fr, .ref li, .ref wa, .ref ld, .int ac, .ref tp, .int tn, .int cu, .int sr, .int tk, .int va, .int ft, .int fA, .int lt, .ref so, .ref ik, .ref kp, .ref kl, .ref tc, .int tt])) mo (oO 11 [.int (nI 0), .int (nI 2), .ref la, .ref ma, .ref it, .ref rl, .ref fr, .ref li, .ref wa, .ref ld, .int ac, .ref tp, .int tn, .int cu, .int sr, .int tk, .int va, .int ft, .int fA, .int lt, .ref so, .ref ik, .ref kp, .ref kl, .ref tc, .int tt])) sz H locs := hH
            have heq4 : fx_up (fx_up f mo (oO 11 [.int (nI 0), .int sa, .ref la, .ref ma, .ref it, .ref rl, .ref fr, .ref li, .ref wa, .ref ld, .int ac, .ref tp, .int tn, .int cu, .int sr, .int tk, .int va, .int ft, .int fA, .int lt, .ref so, .ref ik, .ref kp, .ref kl, .ref tc, .int tt])) mo (oO 11 [.int (nI 0), .int (nI 2), .ref la, .ref ma, .ref it, .ref rl, .ref fr, .ref li, .ref wa, .ref ld, .int ac, .ref tp, .int tn, .int cu, .int sr, .int tk, .int va, .int ft, .int fA, .int lt, .ref so, .ref ik, .ref kp, .ref kl, .ref tc, .int tt]) = fx_up f mo (oO 11 [.int (nI 0), .int (nI 2), .ref la, .ref ma, .ref it, .ref rl, .ref fr, .ref li, .ref wa, .ref ld, .int ac, .ref tp, .int tn, .int cu, .int sr, .int tk, .int va, .int ft, .int fA, .int lt, .ref so, .ref ik, .ref kp, .ref kl, .ref tc, .int tt]) := by rw [fx_up_up]
            rw [heq4] at hH
            have h4_rl : (fx_up f mo (oO 11 [.int (nI 0), .int (nI 2), .ref la, .ref ma, .ref it, .ref rl, .ref fr, .ref li, .ref wa, .ref ld, .int ac, .ref tp, .int tn, .int cu, .int sr, .int tk, .int va, .int ft, .int fA, .int lt, .ref so, .ref ik, .ref kp, .ref kl, .ref tc, .int tt])) rl = some (oI 48 rho) := (congrFun heq4 rl).symm.trans ((fx_up_n _ _ (fx_ne h1_rl h1_mo rfl)).trans h1_rl)
            have h4_li : (fx_up f mo (oO 11 [.int (nI 0), .int (nI 2), .ref la, .ref ma, .ref it, .ref rl, .ref fr, .ref li, .ref wa, .ref ld, .int ac, .ref tp, .int tn, .int cu, .int sr, .int tk, .int va, .int ft, .int fA, .int lt, .ref so, .ref ik, .ref kp, .ref kl, .ref tc, .int tt])) li = some (oJ 13 lam) := (congrFun heq4 li).symm.trans ((fx_up_n _ _ (fx_ne h1_li h1_mo rfl)).trans h1_li)
            have h4_so : (fx_up f mo (oO 11 [.int (nI 0), .int (nI 2), .ref la, .ref ma, .ref it, .ref rl, .ref fr, .ref li, .ref wa, .ref ld, .int ac, .ref tp, .int tn, .int cu, .int sr, .int tk, .int va, .int ft, .int fA, .int lt, .ref so, .ref ik, .ref kp, .ref kl, .ref tc, .int tt])) so = some (oJ 13 gso) := (congrFun heq4 so).symm.trans ((fx_up_n _ _ (fx_ne h1_so h1_mo rfl)).trans h1_so)
            have h4_la : (fx_up f mo (oO 11 [.int (nI 0), .int (nI 2), .ref la, .ref ma, .ref it, .ref rl, .ref fr, .ref li, .ref wa, .ref ld, .int ac, .ref tp, .int tn, .int cu, .int sr, .int tk, .int va, .int ft, .int fA, .int lt, .ref so, .ref ik, .ref kp, .ref kl, .ref tc, .int tt])) la = some (oI 8 gla) := (congrFun heq4 la).symm.trans ((fx_up_n _ _ (fx_ne h1_la h1_mo rfl)).trans h1_la)
            have h4_ma : (fx_up f mo (oO 11 [.int (nI 0), .int (nI 2), .ref la, .ref ma, .ref it, .ref rl, .ref fr, .ref li, .ref wa, .ref ld, .int ac, .ref tp, .int tn, .int cu, .int sr, .int tk, .int va, .int ft, .int fA, .int lt, .ref so, .ref ik, .ref kp, .ref kl, .ref tc, .int tt])) ma = some (oI 8 gma) := (congrFun heq4 ma).symm.trans ((fx_up_n _ _ (fx_ne h1_ma h1_mo rfl)).trans h1_ma)
            have h4_it : (fx_up f mo (oO 11 [.int (nI 0), .int (nI 2), .ref la, .ref ma, .ref it, .ref rl, .ref fr, .ref li, .ref wa, .ref ld, .int ac, .ref tp, .int tn, .int cu, .int sr, .int tk, .int va, .int ft, .int fA, .int lt, .ref so, .ref ik, .ref kp, .ref kl, .ref tc, .int tt])) it = some (oI 320 git) := (congrFun heq4 it).symm.trans ((fx_up_n _ _ (fx_ne h1_it h1_mo rfl)).trans h1_it)
            have h4_mo : (fx_up f mo (oO 11 [.int (nI 0), .int (nI 2), .ref la, .ref ma, .ref it, .ref rl, .ref fr, .ref li, .ref wa, .ref ld, .int ac, .ref tp, .int tn, .int cu, .int sr, .int tk, .int va, .int ft, .int fA, .int lt, .ref so, .ref ik, .ref kp, .ref kl, .ref tc, .int tt])) mo = some (oO 11 [.int (nI 0), .int (nI 2), .ref la, .ref ma, .ref it, .ref rl, .ref fr, .ref li, .ref wa, .ref ld, .int ac, .ref tp, .int tn, .int cu, .int sr, .int tk, .int va, .int ft, .int fA, .int lt, .ref so, .ref ik, .ref kp, .ref kl, .ref tc, .int tt]) := (congrFun heq4 mo).symm.trans (fx_up_s _ _ _)
            have hH : fx_H G base s (fx_up f mo (oO 11 [.int (nI 0), .int (nI 2), .ref la, .ref ma, .ref it, .ref rl, .ref fr, .ref li, .ref wa, .ref ld, .int ac, .ref tp, .int tn, .int cu, .int sr, .int tk, .int va, .int ft, .int fA, .int lt, .ref so, .ref ik, .ref kp, .ref kl, .ref tc, .int tt])) sz H locs := hH
            refine lv_i2l (v := ((-1000010) - (nI 2)).toInt64) hx hb dX12_rule_93 rfl ?_
            exact fx_lretP C hr hk hH (K6 c29 c42 c55 c68 c85) (Nat.zero_le _) (Nat.zero_le _) dX12_rule_94
        · refine lv_aload_n hx hb dX12_rule_71 rfl (lv_at hl 0 rfl) ?_
          refine lv_iconst (v := nI 1) hx hb dX12_rule_72 (by decide) ?_
          refine fx_go1 hH (fx_runV C hH hl.1 (As := [.int (nI 1)]) (rest := []) (c_X12_finding (G := G) (base := base) (l := l) (f := fx_up f mo (oO 11 [.int (nI 0), .int sa, .ref la, .ref ma, .ref it, .ref rl, .ref fr, .ref li, .ref wa, .ref ld, .int ac, .ref tp, .int tn, .int cu, .int sr, .int tk, .int va, .int ft, .int fA, .int lt, .ref so, .ref ik, .ref kp, .ref kl, .ref tc, .int tt])) (sz := sz) (mo := mo) (nn := nI 1) (th := nI 0) (sa := sa) (la := la) (ma := ma) (it := it) (rl := rl) (fr := fr) (li := li) (wa := wa) (ld := ld) (ac := ac) (tp := tp) (tn := tn) (cu := cu) (sr := sr) (tk := tk) (va := va) (ft := ft) (fA := fA) (lt := lt) (so := so) (ik := ik) (kp := kp) (kl := kl) (tc := tc) (tt := tt) h1_mo) mY_X12_finding ml_X12_75 im_X12_finding se_X12_X12_finding h1_mo rfl rfl ⟨(Nat.le_of_ble_eq_true rfl), (Nat.le_of_ble_eq_true rfl)⟩ rfl (Nat.le_of_ble_eq_true rfl) ⟨(Nat.le_of_ble_eq_true rfl), (Nat.le_of_ble_eq_true rfl)⟩ dX12_rule_73) (fun H locs hH => ?_)
          have hH : fx_H G base s (fx_up (fx_up f mo (oO 11 [.int (nI 0), .int sa, .ref la, .ref ma, .ref it, .ref rl, .ref fr, .ref li, .ref wa, .ref ld, .int ac, .ref tp, .int tn, .int cu, .int sr, .int tk, .int va, .int ft, .int fA, .int lt, .ref so, .ref ik, .ref kp, .ref kl, .ref tc, .int tt])) mo (oO 11 [.int (nI 0), .int (nI 1), .ref la, .ref ma, .ref it, .ref rl, .ref fr, .ref li, .ref wa, .ref ld, .int ac, .ref tp, .int tn, .int cu, .int sr, .int tk, .int va, .int ft, .int fA, .int lt, .ref so, .ref ik, .ref kp, .ref kl, .ref tc, .int tt])) sz H locs := hH
          have heq5 : fx_up (fx_up f mo (oO 11 [.int (nI 0), .int sa, .ref la, .ref ma, .ref it, .ref rl, .ref fr, .ref li, .ref wa, .ref ld, .int ac, .ref tp, .int tn, .int cu, .int sr, .int tk, .int va, .int ft, .int fA, .int lt, .ref so, .ref ik, .ref kp, .ref kl, .ref tc, .int tt])) mo (oO 11 [.int (nI 0), .int (nI 1), .ref la, .ref ma, .ref it, .ref rl, .ref fr, .ref li, .ref wa, .ref ld, .int ac, .ref tp, .int tn, .int cu, .int sr, .int tk, .int va, .int ft, .int fA, .int lt, .ref so, .ref ik, .ref kp, .ref kl, .ref tc, .int tt]) = fx_up f mo (oO 11 [.int (nI 0), .int (nI 1), .ref la, .ref ma, .ref it, .ref rl, .ref fr, .ref li, .ref wa, .ref ld, .int ac, .ref tp, .int tn, .int cu, .int sr, .int tk, .int va, .int ft, .int fA, .int lt, .ref so, .ref ik, .ref kp, .ref kl, .ref tc, .int tt]) := by rw [fx_up_up]
          rw [heq5] at hH
          have h5_rl : (fx_up f mo (oO 11 [.int (nI 0), .int (nI 1), .ref la, .ref ma, .ref it, .ref rl, .ref fr, .ref li, .ref wa, .ref ld, .int ac, .ref tp, .int tn, .int cu, .int sr, .int tk, .int va, .int ft, .int fA, .int lt, .ref so, .ref ik, .ref kp, .ref kl, .ref tc, .int tt])) rl = some (oI 48 rho) := (congrFun heq5 rl).symm.trans ((fx_up_n _ _ (fx_ne h1_rl h1_mo rfl)).trans h1_rl)
          have h5_li : (fx_up f mo (oO 11 [.int (nI 0), .int (nI 1), .ref la, .ref ma, .ref it, .ref rl, .ref fr, .ref li, .ref wa, .ref ld, .int ac, .ref tp, .int tn, .int cu, .int sr, .int tk, .int va, .int ft, .int fA, .int lt, .ref so, .ref ik, .ref kp, .ref kl, .ref tc, .int tt])) li = some (oJ 13 lam) := (congrFun heq5 li).symm.trans ((fx_up_n _ _ (fx_ne h1_li h1_mo rfl)).trans h1_li)
          have h5_so : (fx_up f mo (oO 11 [.int (nI 0), .int (nI 1), .ref la, .ref ma, .ref it, .ref rl, .ref fr, .ref li, .ref wa, .ref ld, .int ac, .ref tp, .int tn, .int cu, .int sr, .int tk, .int va, .int ft, .int fA, .int lt, .ref so, .ref ik, .ref kp, .ref kl, .ref tc, .int tt])) so = some (oJ 13 gso) := (congrFun heq5 so).symm.trans ((fx_up_n _ _ (fx_ne h1_so h1_mo rfl)).trans h1_so)
          have h5_la : (fx_up f mo (oO 11 [.int (nI 0), .int (nI 1), .ref la, .ref ma, .ref it, .ref rl, .ref fr, .ref li, .ref wa, .ref ld, .int ac, .ref tp, .int tn, .int cu, .int sr, .int tk, .int va, .int ft, .int fA, .int lt, .ref so, .ref ik, .ref kp, .ref kl, .ref tc, .int tt])) la = some (oI 8 gla) := (congrFun heq5 la).symm.trans ((fx_up_n _ _ (fx_ne h1_la h1_mo rfl)).trans h1_la)
          have h5_ma : (fx_up f mo (oO 11 [.int (nI 0), .int (nI 1), .ref la, .ref ma, .ref it, .ref rl, .ref fr, .ref li, .ref wa, .ref ld, .int ac, .ref tp, .int tn, .int cu, .int sr, .int tk, .int va, .int ft, .int fA, .int lt, .ref so, .ref ik, .ref kp, .ref kl, .ref tc, .int tt])) ma = some (oI 8 gma) := (congrFun heq5 ma).symm.trans ((fx_up_n _ _ (fx_ne h1_ma h1_mo rfl)).trans h1_ma)
          have h5_it : (fx_up f mo (oO 11 [.int (nI 0), .int (nI 1), .ref la, .ref ma, .ref it, .ref rl, .ref fr, .ref li, .ref wa, .ref ld, .int ac, .ref tp, .int tn, .int cu, .int sr, .int tk, .int va, .int ft, .int fA, .int lt, .ref so, .ref ik, .ref kp, .ref kl, .ref tc, .int tt])) it = some (oI 320 git) := (congrFun heq5 it).symm.trans ((fx_up_n _ _ (fx_ne h1_it h1_mo rfl)).trans h1_it)
          have h5_mo : (fx_up f mo (oO 11 [.int (nI 0), .int (nI 1), .ref la, .ref ma, .ref it, .ref rl, .ref fr, .ref li, .ref wa, .ref ld, .int ac, .ref tp, .int tn, .int cu, .int sr, .int tk, .int va, .int ft, .int fA, .int lt, .ref so, .ref ik, .ref kp, .ref kl, .ref tc, .int tt])) mo = some (oO 11 [.int (nI 0), .int (nI 1), .ref la, .ref ma, .ref it, .ref rl, .ref fr, .ref li, .ref wa, .ref ld, .int ac, .ref tp, .int tn, .int cu, .int sr, .int tk, .int va, .int ft, .int fA, .int lt, .ref so, .ref ik, .ref kp, .ref kl, .ref tc, .int tt]) := (congrFun heq5 mo).symm.trans (fx_up_s _ _ _)
          have hH : fx_H G base s (fx_up f mo (oO 11 [.int (nI 0), .int (nI 1), .ref la, .ref ma, .ref it, .ref rl, .ref fr, .ref li, .ref wa, .ref ld, .int ac, .ref tp, .int tn, .int cu, .int sr, .int tk, .int va, .int ft, .int fA, .int lt, .ref so, .ref ik, .ref kp, .ref kl, .ref tc, .int tt])) sz H locs := hH
          refine lv_i2l (v := ((-1000010) - (nI 1)).toInt64) hx hb dX12_rule_76 rfl ?_
          exact fx_lretP C hr hk hH (K7 c29 c42 c55 c68) (Nat.zero_le _) (Nat.zero_le _) dX12_rule_77
      · refine lv_ldc2 (v := (-1000001)) hx hb C.2.2.2.1 (C.2.2.2.2.1 _ kL_X12_201 rfl args) dX12_rule_58 ?_
        exact fx_lretP C hr hk hH (K8 c29 c42 c55) (Nat.zero_le _) (Nat.zero_le _) dX12_rule_61
set_option maxHeartbeats 4000000 in
set_option maxRecDepth 100000 in
theorem c_X12_search_k {G : GG} {base : Nat} {l : Launch} {f : Hp} {sz : Nat} {Po : Option Value → Hp → Nat → Prop} {K : Nat} {wi : Nat} {ag : Nat} {tl : Nat} {P : Nat} {mi : Nat} {wn : Nat → Nat} {cvf : Nat → Nat} {mo : Nat} {j : Nat} {seed : Int32} {wh : Int32} {th : Int32} {sa : Int32} {la : Nat} {ma : Nat} {it : Nat} {rl : Nat} {fr : Nat} {li : Nat} {wa : Nat} {ld : Nat} {ac : Int32} {tp : Nat} {tn : Int32} {cu : Int32} {sr : Int32} {tk : Int32} {va : Int32} {ft : Int32} {fA : Int32} {lt : Int32} {so : Nat} {ik : Nat} {kp : Nat} {kl : Nat} {tc : Nat} {tt : Int32} {rho : Nat → Int32} (h_mo : f mo = some (oO 11 [.int th, .int sa, .ref la, .ref ma, .ref it, .ref rl, .ref fr, .ref li, .ref wa, .ref ld, .int ac, .ref tp, .int tn, .int cu, .int sr, .int tk, .int va, .int ft, .int fA, .int lt, .ref so, .ref ik, .ref kp, .ref kl, .ref tc, .int tt])) (h_rl : f rl = some (oI 48 rho)) (hj : j < tl) (htl : tl ≤ 4) (ht : rho 5 = nI tl) (hk0 : rho (36 + (3 * j) + 0) = nI K) (hk1 : rho (36 + (3 * j) + 1) = nI wi) (hk2 : rho (36 + (3 * j) + 2) = nI ag) (hK : 1 ≤ K ∧ K ≤ 5) (hwi : wi ≤ 10) (hag : ag ≤ 10) (hP : rho 0 = nI P) (hP2 : 4 ≤ P ∧ P ≤ 12) (hmi : rho 3 = nI mi) (hmi2 : mi ≤ 9) (hwn : ∀ z, z < P → rho (12 + z) = nI (wn z) ∧ 1 ≤ wn z ∧ wn z ≤ 9) (hcf : ∀ z, z < P → rho (24 + z) = nI (cvf z) ∧ cvf z ≤ 10) (K1 : ∀ (c22 : ¬ (¬ seed < nI 1 ∧ ¬ nI 999999 < seed)), Po (some (.int (-1000001))) (fx_up f mo (oO 11 [.int (nI 0), .int sa, .ref la, .ref ma, .ref it, .ref rl, .ref fr, .ref li, .ref wa, .ref ld, .int ac, .ref tp, .int tn, .int cu, .int sr, .int tk, .int va, .int ft, .int fA, .int lt, .ref so, .ref ik, .ref kp, .ref kl, .ref tc, .int tt])) sz)
    (K2 : ∀ (c22 : (¬ seed < nI 1 ∧ ¬ nI 999999 < seed)), ∀ (c32 : (¬ wh < nI 0 ∧ ¬ nI 1 < wh)), ∀ (sd : Nat), ∀ (hsd : 1 ≤ sd ∧ sd ≤ 999999), ∀ (wz : Nat), ∀ (hwz : wz ≤ 1), ∀ (esd : seed = nI sd), ∀ (ewz : wh = nI wz), ∀ (i0 : Nat), ∀ (hi0 : i0 ≤ P), ∀ (c61 : P ≤ i0), ∀ (en : Nat), ∀ (re_ : Nat), ∀ (hen : en ≤ P), ∀ (hre : re_ < 2 ^ 31), ∀ (hpd : pd wn (P - en) en re_ = pd wn P 0 (drN sd 1 % suN wn mi P)), ∀ (c112 : P ≤ en), ∀ (i1 : Nat), ∀ (hi1 : i1 ≤ 40), ∀ (hall : ∀ z, z < i1 → ¬ drN sd (z + 1 + 1) % 10 < (if z % P = pd wn P 0 (drN sd 1 % suN wn mi P) then feN K wi ag (nI 1) else cvf (z % P))), ∀ (c161 : 40 ≤ i1), Po (some (.int (-1000000))) (fx_up f mo (oO 11 [.int (nI 0), .int sa, .ref la, .ref ma, .ref it, .ref rl, .ref fr, .ref li, .ref wa, .ref ld, .int ac, .ref tp, .int tn, .int cu, .int sr, .int tk, .int va, .int ft, .int fA, .int lt, .ref so, .ref ik, .ref kp, .ref kl, .ref tc, .int tt])) sz)
    (K3 : ∀ (c22 : (¬ seed < nI 1 ∧ ¬ nI 999999 < seed)), ∀ (c32 : (¬ wh < nI 0 ∧ ¬ nI 1 < wh)), ∀ (sd : Nat), ∀ (hsd : 1 ≤ sd ∧ sd ≤ 999999), ∀ (wz : Nat), ∀ (hwz : wz ≤ 1), ∀ (esd : seed = nI sd), ∀ (ewz : wh = nI wz), ∀ (i0 : Nat), ∀ (hi0 : i0 ≤ P), ∀ (c61 : P ≤ i0), ∀ (en : Nat), ∀ (re_ : Nat), ∀ (hen : en ≤ P), ∀ (hre : re_ < 2 ^ 31), ∀ (hpd : pd wn (P - en) en re_ = pd wn P 0 (drN sd 1 % suN wn mi P)), ∀ (c112 : P ≤ en), ∀ (i1 : Nat), ∀ (hi1 : i1 ≤ 40), ∀ (hall : ∀ z, z < i1 → ¬ drN sd (z + 1 + 1) % 10 < (if z % P = pd wn P 0 (drN sd 1 % suN wn mi P) then feN K wi ag (nI 1) else cvf (z % P))), ∀ (c161 : i1 < 40), ∀ (c187 : ¬ (i1 % P) = (pd wn P 0 (drN sd 1 % suN wn mi P))), ∀ (c221 : ((drN sd (i1 + 1 + 1)) % 10) < (cvf (i1 % P))), ∀ (c225 : ¬ wz = 0), ∀ (c239 : ¬ (i1 % P) = (pd wn P 0 (drN sd 1 % suN wn mi P))), Po (some (.int (nI 0))) (fx_up f mo (oO 11 [.int (nI 0), .int sa, .ref la, .ref ma, .ref it, .ref rl, .ref fr, .ref li, .ref wa, .ref ld, .int ac, .ref tp, .int tn, .int cu, .int sr, .int tk, .int va, .int ft, .int fA, .int lt, .ref so, .ref ik, .ref kp, .ref kl, .ref tc, .int tt])) sz)
    (K4 : ∀ (c22 : (¬ seed < nI 1 ∧ ¬ nI 999999 < seed)), ∀ (c32 : (¬ wh < nI 0 ∧ ¬ nI 1 < wh)), ∀ (sd : Nat), ∀ (hsd : 1 ≤ sd ∧ sd ≤ 999999), ∀ (wz : Nat), ∀ (hwz : wz ≤ 1), ∀ (esd : seed = nI sd), ∀ (ewz : wh = nI wz), ∀ (i0 : Nat), ∀ (hi0 : i0 ≤ P), ∀ (c61 : P ≤ i0), ∀ (en : Nat), ∀ (re_ : Nat), ∀ (hen : en ≤ P), ∀ (hre : re_ < 2 ^ 31), ∀ (hpd : pd wn (P - en) en re_ = pd wn P 0 (drN sd 1 % suN wn mi P)), ∀ (c112 : P ≤ en), ∀ (i1 : Nat), ∀ (hi1 : i1 ≤ 40), ∀ (hall : ∀ z, z < i1 → ¬ drN sd (z + 1 + 1) % 10 < (if z % P = pd wn P 0 (drN sd 1 % suN wn mi P) then feN K wi ag (nI 1) else cvf (z % P))), ∀ (c161 : i1 < 40), ∀ (c187 : ¬ (i1 % P) = (pd wn P 0 (drN sd 1 % suN wn mi P))), ∀ (c221 : ((drN sd (i1 + 1 + 1)) % 10) < (cvf (i1 % P))), ∀ (c225 : ¬ wz = 0), ∀ (c239 : (i1 % P) = (pd wn P 0 (drN sd 1 % suN wn mi P))), Po (some (.int (nI 1))) (fx_up f mo (oO 11 [.int (nI 0), .int sa, .ref la, .ref ma, .ref it, .ref rl, .ref fr, .ref li, .ref wa, .ref ld, .int ac, .ref tp, .int tn, .int cu, .int sr, .int tk, .int va, .int ft, .int fA, .int lt, .ref so, .ref ik, .ref kp, .ref kl, .ref tc, .int tt])) sz)
    (K5 : ∀ (c22 : (¬ seed < nI 1 ∧ ¬ nI 999999 < seed)), ∀ (c32 : (¬ wh < nI 0 ∧ ¬ nI 1 < wh)), ∀ (sd : Nat), ∀ (hsd : 1 ≤ sd ∧ sd ≤ 999999), ∀ (wz : Nat), ∀ (hwz : wz ≤ 1), ∀ (esd : seed = nI sd), ∀ (ewz : wh = nI wz), ∀ (i0 : Nat), ∀ (hi0 : i0 ≤ P), ∀ (c61 : P ≤ i0), ∀ (en : Nat), ∀ (re_ : Nat), ∀ (hen : en ≤ P), ∀ (hre : re_ < 2 ^ 31), ∀ (hpd : pd wn (P - en) en re_ = pd wn P 0 (drN sd 1 % suN wn mi P)), ∀ (c112 : P ≤ en), ∀ (i1 : Nat), ∀ (hi1 : i1 ≤ 40), ∀ (hall : ∀ z, z < i1 → ¬ drN sd (z + 1 + 1) % 10 < (if z % P = pd wn P 0 (drN sd 1 % suN wn mi P) then feN K wi ag (nI 1) else cvf (z % P))), ∀ (c161 : i1 < 40), ∀ (c187 : ¬ (i1 % P) = (pd wn P 0 (drN sd 1 % suN wn mi P))), ∀ (c221 : ((drN sd (i1 + 1 + 1)) % 10) < (cvf (i1 % P))), ∀ (c225 : wz = 0), Po (some (.int (nI (i1 + 1)))) (fx_up f mo (oO 11 [.int (nI 0), .int sa, .ref la, .ref ma, .ref it, .ref rl, .ref fr, .ref li, .ref wa, .ref ld, .int ac, .ref tp, .int tn, .int cu, .int sr, .int tk, .int va, .int ft, .int fA, .int lt, .ref so, .ref ik, .ref kp, .ref kl, .ref tc, .int tt])) sz)
    (K6 : ∀ (c22 : (¬ seed < nI 1 ∧ ¬ nI 999999 < seed)), ∀ (c32 : (¬ wh < nI 0 ∧ ¬ nI 1 < wh)), ∀ (sd : Nat), ∀ (hsd : 1 ≤ sd ∧ sd ≤ 999999), ∀ (wz : Nat), ∀ (hwz : wz ≤ 1), ∀ (esd : seed = nI sd), ∀ (ewz : wh = nI wz), ∀ (i0 : Nat), ∀ (hi0 : i0 ≤ P), ∀ (c61 : P ≤ i0), ∀ (en : Nat), ∀ (re_ : Nat), ∀ (hen : en ≤ P), ∀ (hre : re_ < 2 ^ 31), ∀ (hpd : pd wn (P - en) en re_ = pd wn P 0 (drN sd 1 % suN wn mi P)), ∀ (c112 : P ≤ en), ∀ (i1 : Nat), ∀ (hi1 : i1 ≤ 40), ∀ (hall : ∀ z, z < i1 → ¬ drN sd (z + 1 + 1) % 10 < (if z % P = pd wn P 0 (drN sd 1 % suN wn mi P) then feN K wi ag (nI 1) else cvf (z % P))), ∀ (c161 : i1 < 40), ∀ (c187 : (i1 % P) = (pd wn P 0 (drN sd 1 % suN wn mi P))), ∀ (c221 : ((drN sd (i1 + 1 + 1)) % 10) < (feN K wi ag (nI 1))), ∀ (c225 : ¬ wz = 0), ∀ (c239 : ¬ (i1 % P) = (pd wn P 0 (drN sd 1 % suN wn mi P))), Po (some (.int (nI 0))) (fx_up f mo (oO 11 [.int (nI 0), .int sa, .ref la, .ref ma, .ref it, .ref rl, .ref fr, .ref li, .ref wa, .ref ld, .int ac, .ref tp, .int tn, .int cu, .int sr, .int tk, .int va, .int ft, .int fA, .int lt, .ref so, .ref ik, .ref kp, .ref kl, .ref tc, .int tt])) sz)
    (K7 : ∀ (c22 : (¬ seed < nI 1 ∧ ¬ nI 999999 < seed)), ∀ (c32 : (¬ wh < nI 0 ∧ ¬ nI 1 < wh)), ∀ (sd : Nat), ∀ (hsd : 1 ≤ sd ∧ sd ≤ 999999), ∀ (wz : Nat), ∀ (hwz : wz ≤ 1), ∀ (esd : seed = nI sd), ∀ (ewz : wh = nI wz), ∀ (i0 : Nat), ∀ (hi0 : i0 ≤ P), ∀ (c61 : P ≤ i0), ∀ (en : Nat), ∀ (re_ : Nat), ∀ (hen : en ≤ P), ∀ (hre : re_ < 2 ^ 31), ∀ (hpd : pd wn (P - en) en re_ = pd wn P 0 (drN sd 1 % suN wn mi P)), ∀ (c112 : P ≤ en), ∀ (i1 : Nat), ∀ (hi1 : i1 ≤ 40), ∀ (hall : ∀ z, z < i1 → ¬ drN sd (z + 1 + 1) % 10 < (if z % P = pd wn P 0 (drN sd 1 % suN wn mi P) then feN K wi ag (nI 1) else cvf (z % P))), ∀ (c161 : i1 < 40), ∀ (c187 : (i1 % P) = (pd wn P 0 (drN sd 1 % suN wn mi P))), ∀ (c221 : ((drN sd (i1 + 1 + 1)) % 10) < (feN K wi ag (nI 1))), ∀ (c225 : ¬ wz = 0), ∀ (c239 : (i1 % P) = (pd wn P 0 (drN sd 1 % suN wn mi P))), Po (some (.int (nI 1))) (fx_up f mo (oO 11 [.int (nI 0), .int sa, .ref la, .ref ma, .ref it, .ref rl, .ref fr, .ref li, .ref wa, .ref ld, .int ac, .ref tp, .int tn, .int cu, .int sr, .int tk, .int va, .int ft, .int fA, .int lt, .ref so, .ref ik, .ref kp, .ref kl, .ref tc, .int tt])) sz)
    (K8 : ∀ (c22 : (¬ seed < nI 1 ∧ ¬ nI 999999 < seed)), ∀ (c32 : (¬ wh < nI 0 ∧ ¬ nI 1 < wh)), ∀ (sd : Nat), ∀ (hsd : 1 ≤ sd ∧ sd ≤ 999999), ∀ (wz : Nat), ∀ (hwz : wz ≤ 1), ∀ (esd : seed = nI sd), ∀ (ewz : wh = nI wz), ∀ (i0 : Nat), ∀ (hi0 : i0 ≤ P), ∀ (c61 : P ≤ i0), ∀ (en : Nat), ∀ (re_ : Nat), ∀ (hen : en ≤ P), ∀ (hre : re_ < 2 ^ 31), ∀ (hpd : pd wn (P - en) en re_ = pd wn P 0 (drN sd 1 % suN wn mi P)), ∀ (c112 : P ≤ en), ∀ (i1 : Nat), ∀ (hi1 : i1 ≤ 40), ∀ (hall : ∀ z, z < i1 → ¬ drN sd (z + 1 + 1) % 10 < (if z % P = pd wn P 0 (drN sd 1 % suN wn mi P) then feN K wi ag (nI 1) else cvf (z % P))), ∀ (c161 : i1 < 40), ∀ (c187 : (i1 % P) = (pd wn P 0 (drN sd 1 % suN wn mi P))), ∀ (c221 : ((drN sd (i1 + 1 + 1)) % 10) < (feN K wi ag (nI 1))), ∀ (c225 : wz = 0), Po (some (.int (nI (i1 + 1)))) (fx_up f mo (oO 11 [.int (nI 0), .int sa, .ref la, .ref ma, .ref it, .ref rl, .ref fr, .ref li, .ref wa, .ref ld, .int ac, .ref tp, .int tn, .int cu, .int sr, .int tk, .int va, .int ft, .int fA, .int lt, .ref so, .ref ik, .ref kp, .ref kl, .ref tc, .int tt])) sz)
    (K9 : ∀ (c22 : (¬ seed < nI 1 ∧ ¬ nI 999999 < seed)), ∀ (c32 : (¬ wh < nI 0 ∧ ¬ nI 1 < wh)), ∀ (sd : Nat), ∀ (hsd : 1 ≤ sd ∧ sd ≤ 999999), ∀ (wz : Nat), ∀ (hwz : wz ≤ 1), ∀ (esd : seed = nI sd), ∀ (ewz : wh = nI wz), ∀ (i0 : Nat), ∀ (hi0 : i0 ≤ P), ∀ (c61 : P ≤ i0), ∀ (en : Nat), ∀ (re_ : Nat), ∀ (hen : en ≤ P), ∀ (hre : re_ < 2 ^ 31), ∀ (hpd : pd wn (P - en) en re_ = pd wn P 0 (drN sd 1 % suN wn mi P)), ∀ (c112 : en < P), ∀ (c129 : re_ < (wn en)), ∀ (i1 : Nat), ∀ (hi1 : i1 ≤ 40), ∀ (hall : ∀ z, z < i1 → ¬ drN sd (z + 1 + 1) % 10 < (if z % P = pd wn P 0 (drN sd 1 % suN wn mi P) then feN K wi ag (nI 1) else cvf (z % P))), ∀ (c161 : 40 ≤ i1), Po (some (.int (-1000000))) (fx_up f mo (oO 11 [.int (nI 0), .int sa, .ref la, .ref ma, .ref it, .ref rl, .ref fr, .ref li, .ref wa, .ref ld, .int ac, .ref tp, .int tn, .int cu, .int sr, .int tk, .int va, .int ft, .int fA, .int lt, .ref so, .ref ik, .ref kp, .ref kl, .ref tc, .int tt])) sz)
    (K10 : ∀ (c22 : (¬ seed < nI 1 ∧ ¬ nI 999999 < seed)), ∀ (c32 : (¬ wh < nI 0 ∧ ¬ nI 1 < wh)), ∀ (sd : Nat), ∀ (hsd : 1 ≤ sd ∧ sd ≤ 999999), ∀ (wz : Nat), ∀ (hwz : wz ≤ 1), ∀ (esd : seed = nI sd), ∀ (ewz : wh = nI wz), ∀ (i0 : Nat), ∀ (hi0 : i0 ≤ P), ∀ (c61 : P ≤ i0), ∀ (en : Nat), ∀ (re_ : Nat), ∀ (hen : en ≤ P), ∀ (hre : re_ < 2 ^ 31), ∀ (hpd : pd wn (P - en) en re_ = pd wn P 0 (drN sd 1 % suN wn mi P)), ∀ (c112 : en < P), ∀ (c129 : re_ < (wn en)), ∀ (i1 : Nat), ∀ (hi1 : i1 ≤ 40), ∀ (hall : ∀ z, z < i1 → ¬ drN sd (z + 1 + 1) % 10 < (if z % P = pd wn P 0 (drN sd 1 % suN wn mi P) then feN K wi ag (nI 1) else cvf (z % P))), ∀ (c161 : i1 < 40), ∀ (c187 : ¬ (i1 % P) = (pd wn P 0 (drN sd 1 % suN wn mi P))), ∀ (c221 : ((drN sd (i1 + 1 + 1)) % 10) < (cvf (i1 % P))), ∀ (c225 : ¬ wz = 0), ∀ (c239 : ¬ (i1 % P) = (pd wn P 0 (drN sd 1 % suN wn mi P))), Po (some (.int (nI 0))) (fx_up f mo (oO 11 [.int (nI 0), .int sa, .ref la, .ref ma, .ref it, .ref rl, .ref fr, .ref li, .ref wa, .ref ld, .int ac, .ref tp, .int tn, .int cu, .int sr, .int tk, .int va, .int ft, .int fA, .int lt, .ref so, .ref ik, .ref kp, .ref kl, .ref tc, .int tt])) sz)
    (K11 : ∀ (c22 : (¬ seed < nI 1 ∧ ¬ nI 999999 < seed)), ∀ (c32 : (¬ wh < nI 0 ∧ ¬ nI 1 < wh)), ∀ (sd : Nat), ∀ (hsd : 1 ≤ sd ∧ sd ≤ 999999), ∀ (wz : Nat), ∀ (hwz : wz ≤ 1), ∀ (esd : seed = nI sd), ∀ (ewz : wh = nI wz), ∀ (i0 : Nat), ∀ (hi0 : i0 ≤ P), ∀ (c61 : P ≤ i0), ∀ (en : Nat), ∀ (re_ : Nat), ∀ (hen : en ≤ P), ∀ (hre : re_ < 2 ^ 31), ∀ (hpd : pd wn (P - en) en re_ = pd wn P 0 (drN sd 1 % suN wn mi P)), ∀ (c112 : en < P), ∀ (c129 : re_ < (wn en)), ∀ (i1 : Nat), ∀ (hi1 : i1 ≤ 40), ∀ (hall : ∀ z, z < i1 → ¬ drN sd (z + 1 + 1) % 10 < (if z % P = pd wn P 0 (drN sd 1 % suN wn mi P) then feN K wi ag (nI 1) else cvf (z % P))), ∀ (c161 : i1 < 40), ∀ (c187 : ¬ (i1 % P) = (pd wn P 0 (drN sd 1 % suN wn mi P))), ∀ (c221 : ((drN sd (i1 + 1 + 1)) % 10) < (cvf (i1 % P))), ∀ (c225 : ¬ wz = 0), ∀ (c239 : (i1 % P) = (pd wn P 0 (drN sd 1 % suN wn mi P))), Po (some (.int (nI 1))) (fx_up f mo (oO 11 [.int (nI 0), .int sa, .ref la, .ref ma, .ref it, .ref rl, .ref fr, .ref li, .ref wa, .ref ld, .int ac, .ref tp, .int tn, .int cu, .int sr, .int tk, .int va, .int ft, .int fA, .int lt, .ref so, .ref ik, .ref kp, .ref kl, .ref tc, .int tt])) sz)
    (K12 : ∀ (c22 : (¬ seed < nI 1 ∧ ¬ nI 999999 < seed)), ∀ (c32 : (¬ wh < nI 0 ∧ ¬ nI 1 < wh)), ∀ (sd : Nat), ∀ (hsd : 1 ≤ sd ∧ sd ≤ 999999), ∀ (wz : Nat), ∀ (hwz : wz ≤ 1), ∀ (esd : seed = nI sd), ∀ (ewz : wh = nI wz), ∀ (i0 : Nat), ∀ (hi0 : i0 ≤ P), ∀ (c61 : P ≤ i0), ∀ (en : Nat), ∀ (re_ : Nat), ∀ (hen : en ≤ P), ∀ (hre : re_ < 2 ^ 31), ∀ (hpd : pd wn (P - en) en re_ = pd wn P 0 (drN sd 1 % suN wn mi P)), ∀ (c112 : en < P), ∀ (c129 : re_ < (wn en)), ∀ (i1 : Nat), ∀ (hi1 : i1 ≤ 40), ∀ (hall : ∀ z, z < i1 → ¬ drN sd (z + 1 + 1) % 10 < (if z % P = pd wn P 0 (drN sd 1 % suN wn mi P) then feN K wi ag (nI 1) else cvf (z % P))), ∀ (c161 : i1 < 40), ∀ (c187 : ¬ (i1 % P) = (pd wn P 0 (drN sd 1 % suN wn mi P))), ∀ (c221 : ((drN sd (i1 + 1 + 1)) % 10) < (cvf (i1 % P))), ∀ (c225 : wz = 0), Po (some (.int (nI (i1 + 1)))) (fx_up f mo (oO 11 [.int (nI 0), .int sa, .ref la, .ref ma, .ref it, .ref rl, .ref fr, .ref li, .ref wa, .ref ld, .int ac, .ref tp, .int tn, .int cu, .int sr, .int tk, .int va, .int ft, .int fA, .int lt, .ref so, .ref ik, .ref kp, .ref kl, .ref tc, .int tt])) sz)
    (K13 : ∀ (c22 : (¬ seed < nI 1 ∧ ¬ nI 999999 < seed)), ∀ (c32 : (¬ wh < nI 0 ∧ ¬ nI 1 < wh)), ∀ (sd : Nat), ∀ (hsd : 1 ≤ sd ∧ sd ≤ 999999), ∀ (wz : Nat), ∀ (hwz : wz ≤ 1), ∀ (esd : seed = nI sd), ∀ (ewz : wh = nI wz), ∀ (i0 : Nat), ∀ (hi0 : i0 ≤ P), ∀ (c61 : P ≤ i0), ∀ (en : Nat), ∀ (re_ : Nat), ∀ (hen : en ≤ P), ∀ (hre : re_ < 2 ^ 31), ∀ (hpd : pd wn (P - en) en re_ = pd wn P 0 (drN sd 1 % suN wn mi P)), ∀ (c112 : en < P), ∀ (c129 : re_ < (wn en)), ∀ (i1 : Nat), ∀ (hi1 : i1 ≤ 40), ∀ (hall : ∀ z, z < i1 → ¬ drN sd (z + 1 + 1) % 10 < (if z % P = pd wn P 0 (drN sd 1 % suN wn mi P) then feN K wi ag (nI 1) else cvf (z % P))), ∀ (c161 : i1 < 40), ∀ (c187 : (i1 % P) = (pd wn P 0 (drN sd 1 % suN wn mi P))), ∀ (c221 : ((drN sd (i1 + 1 + 1)) % 10) < (feN K wi ag (nI 1))), ∀ (c225 : ¬ wz = 0), ∀ (c239 : ¬ (i1 % P) = (pd wn P 0 (drN sd 1 % suN wn mi P))), Po (some (.int (nI 0))) (fx_up f mo (oO 11 [.int (nI 0), .int sa, .ref la, .ref ma, .ref it, .ref rl, .ref fr, .ref li, .ref wa, .ref ld, .int ac, .ref tp, .int tn, .int cu, .int sr, .int tk, .int va, .int ft, .int fA, .int lt, .ref so, .ref ik, .ref kp, .ref kl, .ref tc, .int tt])) sz)
    (K14 : ∀ (c22 : (¬ seed < nI 1 ∧ ¬ nI 999999 < seed)), ∀ (c32 : (¬ wh < nI 0 ∧ ¬ nI 1 < wh)), ∀ (sd : Nat), ∀ (hsd : 1 ≤ sd ∧ sd ≤ 999999), ∀ (wz : Nat), ∀ (hwz : wz ≤ 1), ∀ (esd : seed = nI sd), ∀ (ewz : wh = nI wz), ∀ (i0 : Nat), ∀ (hi0 : i0 ≤ P), ∀ (c61 : P ≤ i0), ∀ (en : Nat), ∀ (re_ : Nat), ∀ (hen : en ≤ P), ∀ (hre : re_ < 2 ^ 31), ∀ (hpd : pd wn (P - en) en re_ = pd wn P 0 (drN sd 1 % suN wn mi P)), ∀ (c112 : en < P), ∀ (c129 : re_ < (wn en)), ∀ (i1 : Nat), ∀ (hi1 : i1 ≤ 40), ∀ (hall : ∀ z, z < i1 → ¬ drN sd (z + 1 + 1) % 10 < (if z % P = pd wn P 0 (drN sd 1 % suN wn mi P) then feN K wi ag (nI 1) else cvf (z % P))), ∀ (c161 : i1 < 40), ∀ (c187 : (i1 % P) = (pd wn P 0 (drN sd 1 % suN wn mi P))), ∀ (c221 : ((drN sd (i1 + 1 + 1)) % 10) < (feN K wi ag (nI 1))), ∀ (c225 : ¬ wz = 0), ∀ (c239 : (i1 % P) = (pd wn P 0 (drN sd 1 % suN wn mi P))), Po (some (.int (nI 1))) (fx_up f mo (oO 11 [.int (nI 0), .int sa, .ref la, .ref ma, .ref it, .ref rl, .ref fr, .ref li, .ref wa, .ref ld, .int ac, .ref tp, .int tn, .int cu, .int sr, .int tk, .int va, .int ft, .int fA, .int lt, .ref so, .ref ik, .ref kp, .ref kl, .ref tc, .int tt])) sz)
    (K15 : ∀ (c22 : (¬ seed < nI 1 ∧ ¬ nI 999999 < seed)), ∀ (c32 : (¬ wh < nI 0 ∧ ¬ nI 1 < wh)), ∀ (sd : Nat), ∀ (hsd : 1 ≤ sd ∧ sd ≤ 999999), ∀ (wz : Nat), ∀ (hwz : wz ≤ 1), ∀ (esd : seed = nI sd), ∀ (ewz : wh = nI wz), ∀ (i0 : Nat), ∀ (hi0 : i0 ≤ P), ∀ (c61 : P ≤ i0), ∀ (en : Nat), ∀ (re_ : Nat), ∀ (hen : en ≤ P), ∀ (hre : re_ < 2 ^ 31), ∀ (hpd : pd wn (P - en) en re_ = pd wn P 0 (drN sd 1 % suN wn mi P)), ∀ (c112 : en < P), ∀ (c129 : re_ < (wn en)), ∀ (i1 : Nat), ∀ (hi1 : i1 ≤ 40), ∀ (hall : ∀ z, z < i1 → ¬ drN sd (z + 1 + 1) % 10 < (if z % P = pd wn P 0 (drN sd 1 % suN wn mi P) then feN K wi ag (nI 1) else cvf (z % P))), ∀ (c161 : i1 < 40), ∀ (c187 : (i1 % P) = (pd wn P 0 (drN sd 1 % suN wn mi P))), ∀ (c221 : ((drN sd (i1 + 1 + 1)) % 10) < (feN K wi ag (nI 1))), ∀ (c225 : wz = 0), Po (some (.int (nI (i1 + 1)))) (fx_up f mo (oO 11 [.int (nI 0), .int sa, .ref la, .ref ma, .ref it, .ref rl, .ref fr, .ref li, .ref wa, .ref ld, .int ac, .ref tp, .int tn, .int cu, .int sr, .int tk, .int va, .int ft, .int fA, .int lt, .ref so, .ref ik, .ref kp, .ref kl, .ref tc, .int tt])) sz)
    (K16 : ∀ (c22 : (¬ seed < nI 1 ∧ ¬ nI 999999 < seed)), ∀ (c32 : ¬ (¬ wh < nI 0 ∧ ¬ nI 1 < wh)), Po (some (.int (-1000001))) (fx_up f mo (oO 11 [.int (nI 0), .int sa, .ref la, .ref ma, .ref it, .ref rl, .ref fr, .ref li, .ref wa, .ref ld, .int ac, .ref tp, .int tn, .int cu, .int sr, .int tk, .int va, .int ft, .int fA, .int lt, .ref so, .ref ik, .ref kp, .ref kl, .ref tc, .int tt])) sz) : fx_MP G base l yX12_search cX12_search 14 (some .int) rm_X12_search [.ref mo, .int (nI j), .int seed, .int wh] f sz Po := by
  refine fx_ofP (by decide +kernel) (Nat.le_of_ble_eq_true rfl) ?_
  intro p e s m args below meth c C hr hk hnm hH ls hl
  obtain ⟨locs, hlocs⟩ : ∃ L : List Loc, L = [] := ⟨_, rfl⟩
  rw [← hlocs] at hH ⊢
  generalize s.heap = H at hH ⊢
  have hx := C.1
  have hb := C.2.1
  have hl : lv_has ls 14 [(0, .ref mo), (1, .int (nI j)), (2, .int seed), (3, .int wh)] := hl
  refine lv_aload_n hx hb dX12_search_0 rfl (lv_at hl 0 rfl) ?_
  refine lv_iconst (v := nI 0) hx hb dX12_search_1 (by decide) ?_
  refine fx_putT C hH (k := 0) h_mo ff_X12_54_11 fL_11 fT_11_0 rfl rfl (Nat.le_of_ble_eq_true rfl) dX12_search_2 (fun H locs hH => ?_)
  have hH : fx_H G base s (fx_up f mo (oO 11 [.int (nI 0), .int sa, .ref la, .ref ma, .ref it, .ref rl, .ref fr, .ref li, .ref wa, .ref ld, .int ac, .ref tp, .int tn, .int cu, .int sr, .int tk, .int va, .int ft, .int fA, .int lt, .ref so, .ref ik, .ref kp, .ref kl, .ref tc, .int tt])) sz H locs := hH
  have h1_rl : (fx_up f mo (oO 11 [.int (nI 0), .int sa, .ref la, .ref ma, .ref it, .ref rl, .ref fr, .ref li, .ref wa, .ref ld, .int ac, .ref tp, .int tn, .int cu, .int sr, .int tk, .int va, .int ft, .int fA, .int lt, .ref so, .ref ik, .ref kp, .ref kl, .ref tc, .int tt])) rl = some (oI 48 rho) := (fx_up_n _ _ (fx_ne h_rl h_mo rfl)).trans h_rl
  have h1_mo : (fx_up f mo (oO 11 [.int (nI 0), .int sa, .ref la, .ref ma, .ref it, .ref rl, .ref fr, .ref li, .ref wa, .ref ld, .int ac, .ref tp, .int tn, .int cu, .int sr, .int tk, .int va, .int ft, .int fA, .int lt, .ref so, .ref ik, .ref kp, .ref kl, .ref tc, .int tt])) mo = some (oO 11 [.int (nI 0), .int sa, .ref la, .ref ma, .ref it, .ref rl, .ref fr, .ref li, .ref wa, .ref ld, .int ac, .ref tp, .int tn, .int cu, .int sr, .int tk, .int va, .int ft, .int fA, .int lt, .ref so, .ref ik, .ref kp, .ref kl, .ref tc, .int tt]) := fx_up_s _ _ _
  refine lv_aload_n hx hb dX12_search_5 rfl (lv_at hl 0 rfl) ?_
  refine lv_iload_n hx hb dX12_search_6 rfl (lv_at hl 1 rfl) ?_
  refine fx_go1 hH (fx_runV C hH hl.1 (As := [.int (nI j)]) (rest := []) (c_X12_isSeeker (G := G) (base := base) (l := l) (f := fx_up f mo (oO 11 [.int (nI 0), .int sa, .ref la, .ref ma, .ref it, .ref rl, .ref fr, .ref li, .ref wa, .ref ld, .int ac, .ref tp, .int tn, .int cu, .int sr, .int tk, .int va, .int ft, .int fA, .int lt, .ref so, .ref ik, .ref kp, .ref kl, .ref tc, .int tt])) (sz := sz) (tl := tl) (mo := mo) (pp := nI j) (th := nI 0) (sa := sa) (la := la) (ma := ma) (it := it) (rl := rl) (fr := fr) (li := li) (wa := wa) (ld := ld) (ac := ac) (tp := tp) (tn := tn) (cu := cu) (sr := sr) (tk := tk) (va := va) (ft := ft) (fA := fA) (lt := lt) (so := so) (ik := ik) (kp := kp) (kl := kl) (tc := tc) (tt := tt) (rho := rho) h1_mo h1_rl ht) mY_X12_isSeeker ml_X12_165 im_X12_isSeeker se_X12_X12_isSeeker h1_mo rfl rfl ⟨(Nat.le_of_ble_eq_true rfl), (Nat.le_of_ble_eq_true rfl)⟩ rfl (Nat.le_of_ble_eq_true rfl) ⟨(Nat.le_of_ble_eq_true rfl), (Nat.le_of_ble_eq_true rfl)⟩ dX12_search_7) (fun H locs hH => ?_)
  refine fx_b_eq hx hb (tgt := 35) dX12_search_10 (by decide) (fun c10 => absurd c10 (fun z => z (rngS' (by omega) hj))) (fun c10 => ?_)
  refine lv_iload_n hx hb dX12_search_13 rfl (lv_at hl 2 rfl) ?_
  refine lv_i2l (v := seed.toInt64) hx hb dX12_search_14 rfl ?_
  refine lv_lconst (v := lN 1) hx hb dX12_search_15 (by decide) ?_
  refine lv_ldc2 (v := (999999)) hx hb C.2.2.2.1 (C.2.2.2.2.1 _ kL_X12_251 rfl args) dX12_search_16 ?_
  refine fx_tl (y := lN 999999) (by decide) ?_
  refine fx_go1 hH (fx_runS C hH hl.1 (As := [.long seed.toInt64, .long (lN 1), .long (lN 999999)]) (rest := []) (c_X12_in_i (G := G) (base := base) (l := l) (f := fx_up f mo (oO 11 [.int (nI 0), .int sa, .ref la, .ref ma, .ref it, .ref rl, .ref fr, .ref li, .ref wa, .ref ld, .int ac, .ref tp, .int tn, .int cu, .int sr, .int tk, .int va, .int ft, .int fA, .int lt, .ref so, .ref ik, .ref kp, .ref kl, .ref tc, .int tt])) (sz := sz) (x := seed) (lo := 1) (hi := 999999) (by omega) (by omega)) mY_X12_in ml_X12_64 st_X12_in rfl ⟨(Nat.le_of_ble_eq_true rfl), (Nat.le_of_ble_eq_true rfl)⟩ rfl (Nat.le_of_ble_eq_true rfl) ⟨(Nat.le_of_ble_eq_true rfl), (Nat.le_of_ble_eq_true rfl)⟩ dX12_search_19) (fun H locs hH => ?_)
  refine fx_b_eq hx hb (tgt := 35) dX12_search_22 (by decide) (fun c22 => ?_) (fun c22 => ?_)
  · refine lv_ldc (v := (-1000001)) hx hb C.2.2.2.1 (C.2.2.2.2.1 _ kI_X12_74 rfl args) dX12_search_35 ?_
    exact fx_iretP C hr hk hH (K1 c22) (Nat.zero_le _) (Nat.zero_le _) dX12_search_37
  · refine lv_iload_n hx hb dX12_search_25 rfl (lv_at hl 3 rfl) ?_
    refine lv_i2l (v := wh.toInt64) hx hb dX12_search_26 rfl ?_
    refine lv_lconst (v := lN 0) hx hb dX12_search_27 (by decide) ?_
    refine lv_lconst (v := lN 1) hx hb dX12_search_28 (by decide) ?_
    refine fx_go1 hH (fx_runS C hH hl.1 (As := [.long wh.toInt64, .long (lN 0), .long (lN 1)]) (rest := []) (c_X12_in_i (G := G) (base := base) (l := l) (f := fx_up f mo (oO 11 [.int (nI 0), .int sa, .ref la, .ref ma, .ref it, .ref rl, .ref fr, .ref li, .ref wa, .ref ld, .int ac, .ref tp, .int tn, .int cu, .int sr, .int tk, .int va, .int ft, .int fA, .int lt, .ref so, .ref ik, .ref kp, .ref kl, .ref tc, .int tt])) (sz := sz) (x := wh) (lo := 0) (hi := 1) (by omega) (by omega)) mY_X12_in ml_X12_64 st_X12_in rfl ⟨(Nat.le_of_ble_eq_true rfl), (Nat.le_of_ble_eq_true rfl)⟩ rfl (Nat.le_of_ble_eq_true rfl) ⟨(Nat.le_of_ble_eq_true rfl), (Nat.le_of_ble_eq_true rfl)⟩ dX12_search_29) (fun H locs hH => ?_)
    refine fx_b_ne hx hb (tgt := 38) dX12_search_32 (by decide) (fun c32 => ?_) (fun c32 => ?_)
    · obtain ⟨sd, hsd1, hsd2, rfl⟩ := rng1 (M := 1) (N := 999999) (by omega) (by omega) c22
      obtain ⟨wz, hwz, rfl⟩ := rng (N := 1) (by omega) c32.1 c32.2
      have hsd : 1 ≤ sd ∧ sd ≤ 999999 := ⟨hsd1, hsd2⟩
      have hdr := fun k_ => drN_lt (x := sd) (by omega) k_
      have hdr1 := hdr 1
      have hfl : feN K wi ag (nI 1) ≤ 10 := feN_le hwi hag
      have hsl := suN_le (wn := wn) hmi2 (fun z hz => (hwn z hz).2.2)
      have hs1 : 1 ≤ suN wn mi P := by
        obtain ⟨j9, hj9⟩ : ∃ j9, P = j9 + 1 := ⟨P - 1, by omega⟩
        have := (hwn j9 (by omega)).2.1
        rw [hj9, suN]; omega
      have hsP := hsl P (Nat.le_refl _)
      · skip
        refine lv_aload_n hx hb dX12_search_38 rfl (lv_at hl 0 rfl) ?_
        refine fx_get C hH (k := 5) (v := .ref rl) h1_mo ff_X12_19_11 rfl dX12_search_39 ?_
        refine lv_iconst (v := nI 0) hx hb dX12_search_42 (by decide) ?_
        refine fx_ialdN C hH h1_rl (by omega) (by omega) dX12_search_43 ?_
        refine fx_ti (y := nI P) hP ?_
        refine lv_istore (lv' := [(4, .int (nI P)), (0, .ref mo), (1, .int (nI j)), (2, .int (nI sd)), (3, .int (nI wz))]) hx hb dX12_search_44 hl (by decide) rfl (fun ls hl => ?_)
        refine lv_aload_n hx hb dX12_search_46 rfl (lv_at hl 1 rfl) ?_
        refine fx_get C hH (k := 5) (v := .ref rl) h1_mo ff_X12_19_11 rfl dX12_search_47 ?_
        refine lv_iconst (v := nI 3) hx hb dX12_search_50 (by decide) ?_
        refine fx_ialdN C hH h1_rl (by omega) (by omega) dX12_search_51 ?_
        refine fx_ti (y := nI mi) hmi ?_
        refine lv_istore (lv' := [(5, .int (nI mi)), (4, .int (nI P)), (0, .ref mo), (1, .int (nI j)), (2, .int (nI sd)), (3, .int (nI wz))]) hx hb dX12_search_52 hl (by decide) rfl (fun ls hl => ?_)
        refine lv_iconst (v := nI 0) hx hb dX12_search_54 (by decide) ?_
        refine lv_istore (lv' := [(6, .int (nI 0)), (5, .int (nI mi)), (4, .int (nI P)), (0, .ref mo), (1, .int (nI j)), (2, .int (nI sd)), (3, .int (nI wz))]) hx hb dX12_search_55 hl (by decide) rfl (fun ls hl => ?_)
        have loop_57 : ∀ (N_57 : Nat) (i0 : Nat) (hi0 : i0 ≤ P) (hm_57 : P - i0 < N_57) (H : Heap) (locs : List Loc) (hH : fx_H G base s (fx_up f mo (oO 11 [.int (nI 0), .int sa, .ref la, .ref ma, .ref it, .ref rl, .ref fr, .ref li, .ref wa, .ref ld, .int ac, .ref tp, .int tn, .int cu, .int sr, .int tk, .int va, .int ft, .int fA, .int lt, .ref so, .ref ik, .ref kp, .ref kl, .ref tc, .int tt])) sz H locs) (ls : Array Slot) (hl : lv_has ls 14 [(0, .ref mo), (1, .int (nI j)), (2, .int (nI sd)), (3, .int (nI wz)), (4, .int (nI P)), (5, .int (nI (suN wn mi i0))), (6, .int (nI i0))]), W p l e rm_X12_search s m args below meth c H locs 0 0 (MQ below (fx_QP G base Po) args s rm_X12_search.cells rm_X12_search.slots (fun q => base ≤ q)) (F0 m 57 ls []) := by
          intro N_57
          induction N_57 with
          | zero => intro i0 hi0 hm_57; exact absurd hm_57 (Nat.not_lt_zero _)
          | succ N_57 ih_57 =>
            intro i0 hi0 hm_57 H locs hH ls hl
            refine lv_iload hx hb dX12_search_57 (lv_at hl 6 rfl) ?_
            refine lv_iload hx hb dX12_search_59 (lv_at hl 4 rfl) ?_
            refine fx_N_ge (a := i0) (b := P) hx hb (by omega) (by omega) (tgt := 85) dX12_search_61 (by decide) (fun c61 => ?_) (fun c61 => ?_)
            · have hi0P : i0 = P := by omega
              have hsi := hsl i0 hi0
              have hs1i : 1 ≤ suN wn mi i0 := by rw [hi0P]; exact hs1
              refine lv_iload_n hx hb dX12_search_85 rfl (lv_at hl 2 rfl) ?_
              refine lv_i2l (v := lN sd) hx hb dX12_search_86 (nI_l (by omega)) ?_
              refine lv_ldc2 (v := (16807)) hx hb C.2.2.2.1 (C.2.2.2.2.1 _ kL_X12_253 rfl args) dX12_search_87 ?_
              refine fx_tl (y := lN 16807) (by decide) ?_
              refine lv_lmul hx hb dX12_search_90 ?_
              refine fx_tl (y := lN (sd * 16807)) (lN_mul _ _) ?_
              refine lv_ldc2 (v := (2147483647)) hx hb C.2.2.2.1 (C.2.2.2.2.1 _ kL_X12_255 rfl args) dX12_search_91 ?_
              refine fx_tl (y := lN 2147483647) (by decide) ?_
              refine lv_lrem hx hb dX12_search_94 (fun q => absurd ((pk_lEQ (b := 0) (by omega) (by omega)).mp q) (by omega)) ?_
              refine fx_tl (y := lN ((sd * 16807) % 2147483647)) (pk_lRem (by omega) (by omega) (by omega)) ?_
              refine lv_lstore (lv' := [(6, .long (lN ((sd * 16807) % 2147483647))), (0, .ref mo), (1, .int (nI j)), (2, .int (nI sd)), (3, .int (nI wz)), (4, .int (nI P)), (5, .int (nI (suN wn mi i0)))]) hx hb dX12_search_95 hl (by decide) rfl (fun ls hl => ?_)
              refine lv_lload hx hb dX12_search_97 (lv_at hl 0 rfl) ?_
              refine lv_iload hx hb dX12_search_99 (lv_at hl 6 rfl) ?_
              refine lv_i2l (v := lN (suN wn mi i0)) hx hb dX12_search_101 (nI_l (by omega)) ?_
              refine lv_lrem hx hb dX12_search_102 (fun q => absurd ((pk_lEQ (b := 0) (by omega) (by omega)).mp q) (by omega)) ?_
              refine fx_tl (y := lN (((sd * 16807) % 2147483647) % (suN wn mi i0))) (pk_lRem (by omega) (by omega) (by omega)) ?_
              refine lv_lstore (lv' := [(8, .long (lN (((sd * 16807) % 2147483647) % (suN wn mi i0)))), (6, .long (lN ((sd * 16807) % 2147483647))), (0, .ref mo), (1, .int (nI j)), (2, .int (nI sd)), (3, .int (nI wz)), (4, .int (nI P)), (5, .int (nI (suN wn mi i0)))]) hx hb dX12_search_103 hl (by decide) rfl (fun ls hl => ?_)
              refine lv_iconst (v := nI 0) hx hb dX12_search_105 (by decide) ?_
              refine lv_istore (lv' := [(10, .int (nI 0)), (8, .long (lN (((sd * 16807) % 2147483647) % (suN wn mi i0)))), (6, .long (lN ((sd * 16807) % 2147483647))), (0, .ref mo), (1, .int (nI j)), (2, .int (nI sd)), (3, .int (nI wz)), (4, .int (nI P)), (5, .int (nI (suN wn mi i0)))]) hx hb dX12_search_106 hl (by decide) rfl (fun ls hl => ?_)
              have loop_108 : ∀ (N_108 : Nat) (en : Nat) (re_ : Nat) (hen : en ≤ P) (hre : re_ < 2 ^ 31) (hpd : pd wn (P - en) en re_ = pd wn P 0 (drN sd 1 % suN wn mi P)) (hm_108 : P - en < N_108) (H : Heap) (locs : List Loc) (hH : fx_H G base s (fx_up f mo (oO 11 [.int (nI 0), .int sa, .ref la, .ref ma, .ref it, .ref rl, .ref fr, .ref li, .ref wa, .ref ld, .int ac, .ref tp, .int tn, .int cu, .int sr, .int tk, .int va, .int ft, .int fA, .int lt, .ref so, .ref ik, .ref kp, .ref kl, .ref tc, .int tt])) sz H locs) (ls : Array Slot) (hl : lv_has ls 14 [(0, .ref mo), (1, .int (nI j)), (2, .int (nI sd)), (3, .int (nI wz)), (4, .int (nI P)), (6, .long (lN (drN sd 1))), (8, .long (lN re_)), (10, .int (nI en))]), W p l e rm_X12_search s m args below meth c H locs 0 0 (MQ below (fx_QP G base Po) args s rm_X12_search.cells rm_X12_search.slots (fun q => base ≤ q)) (F0 m 108 ls []) := by
                intro N_108
                induction N_108 with
                | zero => intro en re_ hen hre hpd hm_108; exact absurd hm_108 (Nat.not_lt_zero _)
                | succ N_108 ih_108 =>
                  intro en re_ hen hre hpd hm_108 H locs hH ls hl
                  refine lv_iload hx hb dX12_search_108 (lv_at hl 7 rfl) ?_
                  refine lv_iload hx hb dX12_search_110 (lv_at hl 4 rfl) ?_
                  refine fx_N_ge (a := en) (b := P) hx hb (by omega) (by omega) (tgt := 154) dX12_search_112 (by decide) (fun c112 => ?_) (fun c112 => ?_)
                  · refine lv_iconst (v := nI 0) hx hb dX12_search_154 (by decide) ?_
                    refine lv_istore (lv' := [(11, .int (nI 0)), (0, .ref mo), (1, .int (nI j)), (2, .int (nI sd)), (3, .int (nI wz)), (4, .int (nI P)), (6, .long (lN (drN sd 1))), (8, .long (lN re_)), (10, .int (nI en))]) hx hb dX12_search_155 hl (by decide) rfl (fun ls hl => ?_)
                    have henE : en = pd wn P 0 (drN sd 1 % suN wn mi P) := by rw [← hpd]; first | (rw [show P - en = 0 from (by omega), pd]) | (rw [show P - en = (P - (en + 1)) + 1 from (by omega), pd, if_pos (by omega)])
                    have loop_157 : ∀ (N_157 : Nat) (i1 : Nat) (hi1 : i1 ≤ 40) (hall : ∀ z, z < i1 → ¬ drN sd (z + 1 + 1) % 10 < (if z % P = pd wn P 0 (drN sd 1 % suN wn mi P) then feN K wi ag (nI 1) else cvf (z % P))) (hm_157 : 40 - i1 < N_157) (H : Heap) (locs : List Loc) (hH : fx_H G base s (fx_up f mo (oO 11 [.int (nI 0), .int sa, .ref la, .ref ma, .ref it, .ref rl, .ref fr, .ref li, .ref wa, .ref ld, .int ac, .ref tp, .int tn, .int cu, .int sr, .int tk, .int va, .int ft, .int fA, .int lt, .ref so, .ref ik, .ref kp, .ref kl, .ref tc, .int tt])) sz H locs) (ls : Array Slot) (hl : lv_has ls 14 [(0, .ref mo), (1, .int (nI j)), (2, .int (nI sd)), (3, .int (nI wz)), (4, .int (nI P)), (6, .long (lN (drN sd (i1 + 1)))), (10, .int (nI (pd wn P 0 (drN sd 1 % suN wn mi P)))), (11, .int (nI i1))]), W p l e rm_X12_search s m args below meth c H locs 0 0 (MQ below (fx_QP G base Po) args s rm_X12_search.cells rm_X12_search.slots (fun q => base ≤ q)) (F0 m 157 ls []) := by
                      intro N_157
                      induction N_157 with
                      | zero => intro i1 hi1 hall hm_157; exact absurd hm_157 (Nat.not_lt_zero _)
                      | succ N_157 ih_157 =>
                        intro i1 hi1 hall hm_157 H locs hH ls hl
                        have hmod : i1 % P < P := Nat.mod_lt _ (by omega)
                        have hci := hcf (i1 % P) hmod
                        have hpdl : pd wn P 0 (drN sd 1 % suN wn mi P) ≤ P := pd_le (by omega)
                        have hd10 : drN sd (i1 + 1 + 1) % 10 < 10 := Nat.mod_lt _ (by omega)
                        have hdri := hdr (i1 + 1)
                        have hdri2 := hdr (i1 + 1 + 1)
                        refine lv_iload hx hb dX12_search_157 (lv_at hl 7 rfl) ?_
                        refine lv_bipush (v := nI 40) hx hb dX12_search_159 (by decide) ?_
                        refine fx_N_ge (a := i1) (b := 40) hx hb (by omega) (by omega) (tgt := 254) dX12_search_161 (by decide) (fun c161 => ?_) (fun c161 => ?_)
                        · refine lv_ldc (v := (-1000000)) hx hb C.2.2.2.1 (C.2.2.2.2.1 _ kI_X12_97 rfl args) dX12_search_254 ?_
                          exact fx_iretP C hr hk hH (K2 c22 c32 sd hsd wz hwz rfl rfl i0 hi0 c61 en re_ hen hre hpd c112 i1 hi1 hall c161) (Nat.zero_le _) (Nat.zero_le _) dX12_search_256
                        · refine lv_iload hx hb dX12_search_164 (lv_at hl 7 rfl) ?_
                          refine lv_iload hx hb dX12_search_166 (lv_at hl 4 rfl) ?_
                          refine lv_irem hx hb dX12_search_168 (fun q => absurd ((nI_eq (b := 0) (by omega) (by omega)).mp q) (by omega)) ?_
                          refine fx_ti (y := nI (i1 % P)) (pk_rem (by omega) (by omega) (by omega)) ?_
                          refine lv_istore (lv' := [(12, .int (nI (i1 % P))), (0, .ref mo), (1, .int (nI j)), (2, .int (nI sd)), (3, .int (nI wz)), (4, .int (nI P)), (6, .long (lN (drN sd (i1 + 1)))), (10, .int (nI (pd wn P 0 (drN sd 1 % suN wn mi P)))), (11, .int (nI i1))]) hx hb dX12_search_169 hl (by decide) rfl (fun ls hl => ?_)
                          refine lv_lload hx hb dX12_search_171 (lv_at hl 6 rfl) ?_
                          refine lv_ldc2 (v := (16807)) hx hb C.2.2.2.1 (C.2.2.2.2.1 _ kL_X12_253 rfl args) dX12_search_173 ?_
                          refine fx_tl (y := lN 16807) (by decide) ?_
                          refine lv_lmul hx hb dX12_search_176 ?_
                          refine fx_tl (y := lN ((drN sd (i1 + 1)) * 16807)) (lN_mul _ _) ?_
                          refine lv_ldc2 (v := (2147483647)) hx hb C.2.2.2.1 (C.2.2.2.2.1 _ kL_X12_255 rfl args) dX12_search_177 ?_
                          refine fx_tl (y := lN 2147483647) (by decide) ?_
                          refine lv_lrem hx hb dX12_search_180 (fun q => absurd ((pk_lEQ (b := 0) (by omega) (by omega)).mp q) (by omega)) ?_
                          refine fx_tl (y := lN (((drN sd (i1 + 1)) * 16807) % 2147483647)) (pk_lRem (by omega) (by omega) (by omega)) ?_
                          refine fx_tl (y := lN (drN sd (i1 + 1 + 1))) rfl ?_
                          refine lv_lstore (lv' := [(6, .long (lN (drN sd (i1 + 1 + 1)))), (12, .int (nI (i1 % P))), (0, .ref mo), (1, .int (nI j)), (2, .int (nI sd)), (3, .int (nI wz)), (4, .int (nI P)), (10, .int (nI (pd wn P 0 (drN sd 1 % suN wn mi P)))), (11, .int (nI i1))]) hx hb dX12_search_181 hl (by decide) rfl (fun ls hl => ?_)
                          refine lv_iload hx hb dX12_search_183 (lv_at hl 1 rfl) ?_
                          refine lv_iload hx hb dX12_search_185 (lv_at hl 7 rfl) ?_
                          refine fx_N_ne (a := i1 % P) (b := pd wn P 0 (drN sd 1 % suN wn mi P)) hx hb (by omega) (by omega) (tgt := 199) dX12_search_187 (by decide) (fun c187 => ?_) (fun c187 => ?_)
                          · refine lv_aload_n hx hb dX12_search_199 rfl (lv_at hl 2 rfl) ?_
                            refine fx_get C hH (k := 5) (v := .ref rl) h1_mo ff_X12_19_11 rfl dX12_search_200 ?_
                            refine lv_bipush (v := nI 24) hx hb dX12_search_203 (by decide) ?_
                            refine lv_iload hx hb dX12_search_205 (lv_at hl 1 rfl) ?_
                            refine lv_iadd hx hb dX12_search_207 ?_
                            refine fx_ti (y := nI (24 + (i1 % P))) (nI_add _ _) ?_
                            refine fx_ialdN C hH h1_rl (by omega) (by omega) dX12_search_208 ?_
                            refine fx_ti (y := nI (cvf (i1 % P))) hci.1 ?_
                            refine lv_istore (lv' := [(13, .int (nI (cvf (i1 % P)))), (6, .long (lN (drN sd (i1 + 1 + 1)))), (12, .int (nI (i1 % P))), (0, .ref mo), (1, .int (nI j)), (2, .int (nI sd)), (3, .int (nI wz)), (4, .int (nI P)), (10, .int (nI (pd wn P 0 (drN sd 1 % suN wn mi P)))), (11, .int (nI i1))]) hx hb dX12_search_209 hl (by decide) rfl (fun ls hl => ?_)
                            refine lv_lload hx hb dX12_search_211 (lv_at hl 1 rfl) ?_
                            refine lv_ldc2 (v := (10)) hx hb C.2.2.2.1 (C.2.2.2.2.1 _ kL_X12_203 rfl args) dX12_search_213 ?_
                            refine fx_tl (y := lN 10) (by decide) ?_
                            refine lv_lrem hx hb dX12_search_216 (fun q => absurd ((pk_lEQ (b := 0) (by omega) (by omega)).mp q) (by omega)) ?_
                            refine fx_tl (y := lN ((drN sd (i1 + 1 + 1)) % 10)) (pk_lRem (by omega) (by omega) (by omega)) ?_
                            refine lv_iload hx hb dX12_search_217 (lv_at hl 0 rfl) ?_
                            refine lv_i2l (v := lN (cvf (i1 % P))) hx hb dX12_search_219 (nI_l (by omega)) ?_
                            refine W.lcmp hx hb dX12_search_220 ?_
                            refine fx_JN_ge (a := (drN sd (i1 + 1 + 1)) % 10) (b := cvf (i1 % P)) hx hb (by omega) (by omega) (tgt := 248) dX12_search_221 (by decide) (fun c221 => ?_) (fun c221 => ?_)
                            · refine lv_iinc (v := nI (i1 + 1)) (lv' := [(11, .int (nI (i1 + 1))), (13, .int (nI (cvf (i1 % P)))), (6, .long (lN (drN sd (i1 + 1 + 1)))), (12, .int (nI (i1 % P))), (0, .ref mo), (1, .int (nI j)), (2, .int (nI sd)), (3, .int (nI wz)), (4, .int (nI P)), (10, .int (nI (pd wn P 0 (drN sd 1 % suN wn mi P))))]) hx hb dX12_search_248 hl (k := 9) rfl (nI_1 _) (by decide) rfl (fun ls hl => ?_)
                              refine lv_goto (tgt := 157) hx hb dX12_search_251 (by decide) ?_
                              have hl : lv_has ls 14 [(0, .ref mo), (1, .int (nI j)), (2, .int (nI sd)), (3, .int (nI wz)), (4, .int (nI P)), (6, .long (lN (drN sd (i1 + 1 + 1)))), (10, .int (nI (pd wn P 0 (drN sd 1 % suN wn mi P)))), (11, .int (nI (i1 + 1)))] := lv_sub hl [4, 5, 6, 7, 8, 2, 9, 0] rfl
                              have hl : lv_has ls 14 [(0, .ref mo), (1, .int (nI j)), (2, .int (nI sd)), (3, .int (nI wz)), (4, .int (nI P)), (6, .long (lN (drN sd ((i1 + 1) + 1)))), (10, .int (nI (pd wn P 0 (drN sd 1 % suN wn mi P)))), (11, .int (nI (i1 + 1)))] := hl
                              exact ih_157 (i1 + 1) (by omega) (fun z hz => by rcases Nat.lt_succ_iff_lt_or_eq.mp hz with q9 | q9; exact hall z q9; subst q9; first | (rw [if_pos c187]; omega) | (rw [if_neg c187]; omega)) (by omega) _ _ hH _ hl
                            · refine lv_iload_n hx hb dX12_search_224 rfl (lv_at hl 6 rfl) ?_
                              refine fx_O_ne (a := wz) hx hb (by omega) (tgt := 235) dX12_search_225 (by decide) (fun c225 => ?_) (fun c225 => ?_)
                              · refine lv_iload hx hb dX12_search_235 (lv_at hl 2 rfl) ?_
                                refine lv_iload hx hb dX12_search_237 (lv_at hl 8 rfl) ?_
                                refine fx_N_ne (a := i1 % P) (b := pd wn P 0 (drN sd 1 % suN wn mi P)) hx hb (by omega) (by omega) (tgt := 246) dX12_search_239 (by decide) (fun c239 => ?_) (fun c239 => ?_)
                                · refine lv_iconst (v := nI 0) hx hb dX12_search_246 (by decide) ?_
                                  exact fx_iretP C hr hk hH (K3 c22 c32 sd hsd wz hwz rfl rfl i0 hi0 c61 en re_ hen hre hpd c112 i1 hi1 hall c161 c187 c221 c225 c239) (Nat.zero_le _) (Nat.zero_le _) dX12_search_247
                                · refine lv_iconst (v := nI 1) hx hb dX12_search_242 (by decide) ?_
                                  refine lv_goto (tgt := 247) hx hb dX12_search_243 (by decide) ?_
                                  exact fx_iretP C hr hk hH (K4 c22 c32 sd hsd wz hwz rfl rfl i0 hi0 c61 en re_ hen hre hpd c112 i1 hi1 hall c161 c187 c221 c225 c239) (Nat.zero_le _) (Nat.zero_le _) dX12_search_247
                              · refine lv_iload hx hb dX12_search_228 (lv_at hl 9 rfl) ?_
                                refine lv_iconst (v := nI 1) hx hb dX12_search_230 (by decide) ?_
                                refine lv_iadd hx hb dX12_search_231 ?_
                                refine fx_ti (y := nI (i1 + 1)) (nI_add _ _) ?_
                                refine lv_goto (tgt := 247) hx hb dX12_search_232 (by decide) ?_
                                exact fx_iretP C hr hk hH (K5 c22 c32 sd hsd wz hwz rfl rfl i0 hi0 c61 en re_ hen hre hpd c112 i1 hi1 hall c161 c187 c221 c225) (Nat.zero_le _) (Nat.zero_le _) dX12_search_247
                          · refine lv_aload_n hx hb dX12_search_190 rfl (lv_at hl 2 rfl) ?_
                            refine lv_iload_n hx hb dX12_search_191 rfl (lv_at hl 3 rfl) ?_
                            refine lv_iconst (v := nI 1) hx hb dX12_search_192 (by decide) ?_
                            refine fx_go1 hH (fx_runV C hH hl.1 (As := [.int (nI j), .int (nI 1)]) (rest := []) (c_X12_feel (G := G) (base := base) (l := l) (f := fx_up f mo (oO 11 [.int (nI 0), .int sa, .ref la, .ref ma, .ref it, .ref rl, .ref fr, .ref li, .ref wa, .ref ld, .int ac, .ref tp, .int tn, .int cu, .int sr, .int tk, .int va, .int ft, .int fA, .int lt, .ref so, .ref ik, .ref kp, .ref kl, .ref tc, .int tt])) (sz := sz) (K := K) (wi := wi) (ag := ag) (mo := mo) (j := j) (wy := nI 1) (th := nI 0) (sa := sa) (la := la) (ma := ma) (it := it) (rl := rl) (fr := fr) (li := li) (wa := wa) (ld := ld) (ac := ac) (tp := tp) (tn := tn) (cu := cu) (sr := sr) (tk := tk) (va := va) (ft := ft) (fA := fA) (lt := lt) (so := so) (ik := ik) (kp := kp) (kl := kl) (tc := tc) (tt := tt) (rho := rho) h1_mo h1_rl (by omega) hk0 hk1 hk2 (by omega) (by omega) (by omega)) mY_X12_feel ml_X12_162 im_X12_feel se_X12_X12_feel h1_mo rfl rfl ⟨(Nat.le_of_ble_eq_true rfl), (Nat.le_of_ble_eq_true rfl)⟩ rfl (Nat.le_of_ble_eq_true rfl) ⟨(Nat.le_of_ble_eq_true rfl), (Nat.le_of_ble_eq_true rfl)⟩ dX12_search_193) (fun H locs hH => ?_)
                            refine lv_goto (tgt := 209) hx hb dX12_search_196 (by decide) ?_
                            refine lv_istore (lv' := [(13, .int (nI (feN K wi ag (nI 1)))), (6, .long (lN (drN sd (i1 + 1 + 1)))), (12, .int (nI (i1 % P))), (0, .ref mo), (1, .int (nI j)), (2, .int (nI sd)), (3, .int (nI wz)), (4, .int (nI P)), (10, .int (nI (pd wn P 0 (drN sd 1 % suN wn mi P)))), (11, .int (nI i1))]) hx hb dX12_search_209 hl (by decide) rfl (fun ls hl => ?_)
                            refine lv_lload hx hb dX12_search_211 (lv_at hl 1 rfl) ?_
                            refine lv_ldc2 (v := (10)) hx hb C.2.2.2.1 (C.2.2.2.2.1 _ kL_X12_203 rfl args) dX12_search_213 ?_
                            refine fx_tl (y := lN 10) (by decide) ?_
                            refine lv_lrem hx hb dX12_search_216 (fun q => absurd ((pk_lEQ (b := 0) (by omega) (by omega)).mp q) (by omega)) ?_
                            refine fx_tl (y := lN ((drN sd (i1 + 1 + 1)) % 10)) (pk_lRem (by omega) (by omega) (by omega)) ?_
                            refine lv_iload hx hb dX12_search_217 (lv_at hl 0 rfl) ?_
                            refine lv_i2l (v := lN (feN K wi ag (nI 1))) hx hb dX12_search_219 (nI_l (by omega)) ?_
                            refine W.lcmp hx hb dX12_search_220 ?_
                            refine fx_JN_ge (a := (drN sd (i1 + 1 + 1)) % 10) (b := feN K wi ag (nI 1)) hx hb (by omega) (by omega) (tgt := 248) dX12_search_221 (by decide) (fun c221 => ?_) (fun c221 => ?_)
                            · refine lv_iinc (v := nI (i1 + 1)) (lv' := [(11, .int (nI (i1 + 1))), (13, .int (nI (feN K wi ag (nI 1)))), (6, .long (lN (drN sd (i1 + 1 + 1)))), (12, .int (nI (i1 % P))), (0, .ref mo), (1, .int (nI j)), (2, .int (nI sd)), (3, .int (nI wz)), (4, .int (nI P)), (10, .int (nI (pd wn P 0 (drN sd 1 % suN wn mi P))))]) hx hb dX12_search_248 hl (k := 9) rfl (nI_1 _) (by decide) rfl (fun ls hl => ?_)
                              refine lv_goto (tgt := 157) hx hb dX12_search_251 (by decide) ?_
                              have hl : lv_has ls 14 [(0, .ref mo), (1, .int (nI j)), (2, .int (nI sd)), (3, .int (nI wz)), (4, .int (nI P)), (6, .long (lN (drN sd (i1 + 1 + 1)))), (10, .int (nI (pd wn P 0 (drN sd 1 % suN wn mi P)))), (11, .int (nI (i1 + 1)))] := lv_sub hl [4, 5, 6, 7, 8, 2, 9, 0] rfl
                              have hl : lv_has ls 14 [(0, .ref mo), (1, .int (nI j)), (2, .int (nI sd)), (3, .int (nI wz)), (4, .int (nI P)), (6, .long (lN (drN sd ((i1 + 1) + 1)))), (10, .int (nI (pd wn P 0 (drN sd 1 % suN wn mi P)))), (11, .int (nI (i1 + 1)))] := hl
                              exact ih_157 (i1 + 1) (by omega) (fun z hz => by rcases Nat.lt_succ_iff_lt_or_eq.mp hz with q9 | q9; exact hall z q9; subst q9; first | (rw [if_pos c187]; omega) | (rw [if_neg c187]; omega)) (by omega) _ _ hH _ hl
                            · refine lv_iload_n hx hb dX12_search_224 rfl (lv_at hl 6 rfl) ?_
                              refine fx_O_ne (a := wz) hx hb (by omega) (tgt := 235) dX12_search_225 (by decide) (fun c225 => ?_) (fun c225 => ?_)
                              · refine lv_iload hx hb dX12_search_235 (lv_at hl 2 rfl) ?_
                                refine lv_iload hx hb dX12_search_237 (lv_at hl 8 rfl) ?_
                                refine fx_N_ne (a := i1 % P) (b := pd wn P 0 (drN sd 1 % suN wn mi P)) hx hb (by omega) (by omega) (tgt := 246) dX12_search_239 (by decide) (fun c239 => ?_) (fun c239 => ?_)
                                · refine lv_iconst (v := nI 0) hx hb dX12_search_246 (by decide) ?_
                                  exact fx_iretP C hr hk hH (K6 c22 c32 sd hsd wz hwz rfl rfl i0 hi0 c61 en re_ hen hre hpd c112 i1 hi1 hall c161 c187 c221 c225 c239) (Nat.zero_le _) (Nat.zero_le _) dX12_search_247
                                · refine lv_iconst (v := nI 1) hx hb dX12_search_242 (by decide) ?_
                                  refine lv_goto (tgt := 247) hx hb dX12_search_243 (by decide) ?_
                                  exact fx_iretP C hr hk hH (K7 c22 c32 sd hsd wz hwz rfl rfl i0 hi0 c61 en re_ hen hre hpd c112 i1 hi1 hall c161 c187 c221 c225 c239) (Nat.zero_le _) (Nat.zero_le _) dX12_search_247
                              · refine lv_iload hx hb dX12_search_228 (lv_at hl 9 rfl) ?_
                                refine lv_iconst (v := nI 1) hx hb dX12_search_230 (by decide) ?_
                                refine lv_iadd hx hb dX12_search_231 ?_
                                refine fx_ti (y := nI (i1 + 1)) (nI_add _ _) ?_
                                refine lv_goto (tgt := 247) hx hb dX12_search_232 (by decide) ?_
                                exact fx_iretP C hr hk hH (K8 c22 c32 sd hsd wz hwz rfl rfl i0 hi0 c61 en re_ hen hre hpd c112 i1 hi1 hall c161 c187 c221 c225) (Nat.zero_le _) (Nat.zero_le _) dX12_search_247
                    have hl : lv_has ls 14 [(0, .ref mo), (1, .int (nI j)), (2, .int (nI sd)), (3, .int (nI wz)), (4, .int (nI P)), (6, .long (lN (drN sd 1))), (10, .int (nI en)), (11, .int (nI 0))] := lv_sub hl [1, 2, 3, 4, 5, 6, 8, 0] rfl
                    have hl : lv_has ls 14 [(0, .ref mo), (1, .int (nI j)), (2, .int (nI sd)), (3, .int (nI wz)), (4, .int (nI P)), (6, .long (lN (drN sd (0 + 1)))), (10, .int (nI (pd wn P 0 (drN sd 1 % suN wn mi P)))), (11, .int (nI 0))] := by
                      rw [← henE]
                      exact hl
                    exact loop_157 _ 0 (by omega) (fun z hz => absurd hz (Nat.not_lt_zero _)) (Nat.lt_succ_self _) _ _ hH _ hl
                  · refine lv_lload hx hb dX12_search_115 (lv_at hl 6 rfl) ?_
                    refine lv_aload_n hx hb dX12_search_117 rfl (lv_at hl 0 rfl) ?_
                    refine fx_get C hH (k := 5) (v := .ref rl) h1_mo ff_X12_19_11 rfl dX12_search_118 ?_
                    refine lv_bipush (v := nI 12) hx hb dX12_search_121 (by decide) ?_
                    refine lv_iload hx hb dX12_search_123 (lv_at hl 7 rfl) ?_
                    refine lv_iadd hx hb dX12_search_125 ?_
                    refine fx_ti (y := nI (12 + en)) (nI_add _ _) ?_
                    refine fx_ialdN C hH h1_rl (by omega) (by omega) dX12_search_126 ?_
                    refine fx_ti (y := nI (wn en)) ((hwn en (by omega)).1) ?_
                    have hwe := hwn en (by omega)
                    refine lv_i2l (v := lN (wn en)) hx hb dX12_search_127 (nI_l (by omega)) ?_
                    refine W.lcmp hx hb dX12_search_128 ?_
                    refine fx_JN_lt (a := re_) (b := wn en) hx hb (by omega) (by omega) (tgt := 154) dX12_search_129 (by decide) (fun c129 => ?_) (fun c129 => ?_)
                    · refine lv_iconst (v := nI 0) hx hb dX12_search_154 (by decide) ?_
                      refine lv_istore (lv' := [(11, .int (nI 0)), (0, .ref mo), (1, .int (nI j)), (2, .int (nI sd)), (3, .int (nI wz)), (4, .int (nI P)), (6, .long (lN (drN sd 1))), (8, .long (lN re_)), (10, .int (nI en))]) hx hb dX12_search_155 hl (by decide) rfl (fun ls hl => ?_)
                      have henE : en = pd wn P 0 (drN sd 1 % suN wn mi P) := by rw [← hpd]; first | (rw [show P - en = 0 from (by omega), pd]) | (rw [show P - en = (P - (en + 1)) + 1 from (by omega), pd, if_pos (by omega)])
                      have loop_157 : ∀ (N_157 : Nat) (i1 : Nat) (hi1 : i1 ≤ 40) (hall : ∀ z, z < i1 → ¬ drN sd (z + 1 + 1) % 10 < (if z % P = pd wn P 0 (drN sd 1 % suN wn mi P) then feN K wi ag (nI 1) else cvf (z % P))) (hm_157 : 40 - i1 < N_157) (H : Heap) (locs : List Loc) (hH : fx_H G base s (fx_up f mo (oO 11 [.int (nI 0), .int sa, .ref la, .ref ma, .ref it, .ref rl, .ref fr, .ref li, .ref wa, .ref ld, .int ac, .ref tp, .int tn, .int cu, .int sr, .int tk, .int va, .int ft, .int fA, .int lt, .ref so, .ref ik, .ref kp, .ref kl, .ref tc, .int tt])) sz H locs) (ls : Array Slot) (hl : lv_has ls 14 [(0, .ref mo), (1, .int (nI j)), (2, .int (nI sd)), (3, .int (nI wz)), (4, .int (nI P)), (6, .long (lN (drN sd (i1 + 1)))), (10, .int (nI (pd wn P 0 (drN sd 1 % suN wn mi P)))), (11, .int (nI i1))]), W p l e rm_X12_search s m args below meth c H locs 0 0 (MQ below (fx_QP G base Po) args s rm_X12_search.cells rm_X12_search.slots (fun q => base ≤ q)) (F0 m 157 ls []) := by
                        intro N_157
                        induction N_157 with
                        | zero => intro i1 hi1 hall hm_157; exact absurd hm_157 (Nat.not_lt_zero _)
                        | succ N_157 ih_157 =>
                          intro i1 hi1 hall hm_157 H locs hH ls hl
                          have hmod : i1 % P < P := Nat.mod_lt _ (by omega)
                          have hci := hcf (i1 % P) hmod
                          have hpdl : pd wn P 0 (drN sd 1 % suN wn mi P) ≤ P := pd_le (by omega)
                          have hd10 : drN sd (i1 + 1 + 1) % 10 < 10 := Nat.mod_lt _ (by omega)
                          have hdri := hdr (i1 + 1)
                          have hdri2 := hdr (i1 + 1 + 1)
                          refine lv_iload hx hb dX12_search_157 (lv_at hl 7 rfl) ?_
                          refine lv_bipush (v := nI 40) hx hb dX12_search_159 (by decide) ?_
                          refine fx_N_ge (a := i1) (b := 40) hx hb (by omega) (by omega) (tgt := 254) dX12_search_161 (by decide) (fun c161 => ?_) (fun c161 => ?_)
                          · refine lv_ldc (v := (-1000000)) hx hb C.2.2.2.1 (C.2.2.2.2.1 _ kI_X12_97 rfl args) dX12_search_254 ?_
                            exact fx_iretP C hr hk hH (K9 c22 c32 sd hsd wz hwz rfl rfl i0 hi0 c61 en re_ hen hre hpd c112 c129 i1 hi1 hall c161) (Nat.zero_le _) (Nat.zero_le _) dX12_search_256
                          · refine lv_iload hx hb dX12_search_164 (lv_at hl 7 rfl) ?_
                            refine lv_iload hx hb dX12_search_166 (lv_at hl 4 rfl) ?_
                            refine lv_irem hx hb dX12_search_168 (fun q => absurd ((nI_eq (b := 0) (by omega) (by omega)).mp q) (by omega)) ?_
                            refine fx_ti (y := nI (i1 % P)) (pk_rem (by omega) (by omega) (by omega)) ?_
                            refine lv_istore (lv' := [(12, .int (nI (i1 % P))), (0, .ref mo), (1, .int (nI j)), (2, .int (nI sd)), (3, .int (nI wz)), (4, .int (nI P)), (6, .long (lN (drN sd (i1 + 1)))), (10, .int (nI (pd wn P 0 (drN sd 1 % suN wn mi P)))), (11, .int (nI i1))]) hx hb dX12_search_169 hl (by decide) rfl (fun ls hl => ?_)
                            refine lv_lload hx hb dX12_search_171 (lv_at hl 6 rfl) ?_
                            refine lv_ldc2 (v := (16807)) hx hb C.2.2.2.1 (C.2.2.2.2.1 _ kL_X12_253 rfl args) dX12_search_173 ?_
                            refine fx_tl (y := lN 16807) (by decide) ?_
                            refine lv_lmul hx hb dX12_search_176 ?_
                            refine fx_tl (y := lN ((drN sd (i1 + 1)) * 16807)) (lN_mul _ _) ?_
                            refine lv_ldc2 (v := (2147483647)) hx hb C.2.2.2.1 (C.2.2.2.2.1 _ kL_X12_255 rfl args) dX12_search_177 ?_
                            refine fx_tl (y := lN 2147483647) (by decide) ?_
                            refine lv_lrem hx hb dX12_search_180 (fun q => absurd ((pk_lEQ (b := 0) (by omega) (by omega)).mp q) (by omega)) ?_
                            refine fx_tl (y := lN (((drN sd (i1 + 1)) * 16807) % 2147483647)) (pk_lRem (by omega) (by omega) (by omega)) ?_
                            refine fx_tl (y := lN (drN sd (i1 + 1 + 1))) rfl ?_
                            refine lv_lstore (lv' := [(6, .long (lN (drN sd (i1 + 1 + 1)))), (12, .int (nI (i1 % P))), (0, .ref mo), (1, .int (nI j)), (2, .int (nI sd)), (3, .int (nI wz)), (4, .int (nI P)), (10, .int (nI (pd wn P 0 (drN sd 1 % suN wn mi P)))), (11, .int (nI i1))]) hx hb dX12_search_181 hl (by decide) rfl (fun ls hl => ?_)
                            refine lv_iload hx hb dX12_search_183 (lv_at hl 1 rfl) ?_
                            refine lv_iload hx hb dX12_search_185 (lv_at hl 7 rfl) ?_
                            refine fx_N_ne (a := i1 % P) (b := pd wn P 0 (drN sd 1 % suN wn mi P)) hx hb (by omega) (by omega) (tgt := 199) dX12_search_187 (by decide) (fun c187 => ?_) (fun c187 => ?_)
                            · refine lv_aload_n hx hb dX12_search_199 rfl (lv_at hl 2 rfl) ?_
                              refine fx_get C hH (k := 5) (v := .ref rl) h1_mo ff_X12_19_11 rfl dX12_search_200 ?_
                              refine lv_bipush (v := nI 24) hx hb dX12_search_203 (by decide) ?_
                              refine lv_iload hx hb dX12_search_205 (lv_at hl 1 rfl) ?_
                              refine lv_iadd hx hb dX12_search_207 ?_
                              refine fx_ti (y := nI (24 + (i1 % P))) (nI_add _ _) ?_
                              refine fx_ialdN C hH h1_rl (by omega) (by omega) dX12_search_208 ?_
                              refine fx_ti (y := nI (cvf (i1 % P))) hci.1 ?_
                              refine lv_istore (lv' := [(13, .int (nI (cvf (i1 % P)))), (6, .long (lN (drN sd (i1 + 1 + 1)))), (12, .int (nI (i1 % P))), (0, .ref mo), (1, .int (nI j)), (2, .int (nI sd)), (3, .int (nI wz)), (4, .int (nI P)), (10, .int (nI (pd wn P 0 (drN sd 1 % suN wn mi P)))), (11, .int (nI i1))]) hx hb dX12_search_209 hl (by decide) rfl (fun ls hl => ?_)
                              refine lv_lload hx hb dX12_search_211 (lv_at hl 1 rfl) ?_
                              refine lv_ldc2 (v := (10)) hx hb C.2.2.2.1 (C.2.2.2.2.1 _ kL_X12_203 rfl args) dX12_search_213 ?_
                              refine fx_tl (y := lN 10) (by decide) ?_
                              refine lv_lrem hx hb dX12_search_216 (fun q => absurd ((pk_lEQ (b := 0) (by omega) (by omega)).mp q) (by omega)) ?_
                              refine fx_tl (y := lN ((drN sd (i1 + 1 + 1)) % 10)) (pk_lRem (by omega) (by omega) (by omega)) ?_
                              refine lv_iload hx hb dX12_search_217 (lv_at hl 0 rfl) ?_
                              refine lv_i2l (v := lN (cvf (i1 % P))) hx hb dX12_search_219 (nI_l (by omega)) ?_
                              refine W.lcmp hx hb dX12_search_220 ?_
                              refine fx_JN_ge (a := (drN sd (i1 + 1 + 1)) % 10) (b := cvf (i1 % P)) hx hb (by omega) (by omega) (tgt := 248) dX12_search_221 (by decide) (fun c221 => ?_) (fun c221 => ?_)
                              · refine lv_iinc (v := nI (i1 + 1)) (lv' := [(11, .int (nI (i1 + 1))), (13, .int (nI (cvf (i1 % P)))), (6, .long (lN (drN sd (i1 + 1 + 1)))), (12, .int (nI (i1 % P))), (0, .ref mo), (1, .int (nI j)), (2, .int (nI sd)), (3, .int (nI wz)), (4, .int (nI P)), (10, .int (nI (pd wn P 0 (drN sd 1 % suN wn mi P))))]) hx hb dX12_search_248 hl (k := 9) rfl (nI_1 _) (by decide) rfl (fun ls hl => ?_)
                                refine lv_goto (tgt := 157) hx hb dX12_search_251 (by decide) ?_
                                have hl : lv_has ls 14 [(0, .ref mo), (1, .int (nI j)), (2, .int (nI sd)), (3, .int (nI wz)), (4, .int (nI P)), (6, .long (lN (drN sd (i1 + 1 + 1)))), (10, .int (nI (pd wn P 0 (drN sd 1 % suN wn mi P)))), (11, .int (nI (i1 + 1)))] := lv_sub hl [4, 5, 6, 7, 8, 2, 9, 0] rfl
                                have hl : lv_has ls 14 [(0, .ref mo), (1, .int (nI j)), (2, .int (nI sd)), (3, .int (nI wz)), (4, .int (nI P)), (6, .long (lN (drN sd ((i1 + 1) + 1)))), (10, .int (nI (pd wn P 0 (drN sd 1 % suN wn mi P)))), (11, .int (nI (i1 + 1)))] := hl
                                exact ih_157 (i1 + 1) (by omega) (fun z hz => by rcases Nat.lt_succ_iff_lt_or_eq.mp hz with q9 | q9; exact hall z q9; subst q9; first | (rw [if_pos c187]; omega) | (rw [if_neg c187]; omega)) (by omega) _ _ hH _ hl
                              · refine lv_iload_n hx hb dX12_search_224 rfl (lv_at hl 6 rfl) ?_
                                refine fx_O_ne (a := wz) hx hb (by omega) (tgt := 235) dX12_search_225 (by decide) (fun c225 => ?_) (fun c225 => ?_)
                                · refine lv_iload hx hb dX12_search_235 (lv_at hl 2 rfl) ?_
                                  refine lv_iload hx hb dX12_search_237 (lv_at hl 8 rfl) ?_
                                  refine fx_N_ne (a := i1 % P) (b := pd wn P 0 (drN sd 1 % suN wn mi P)) hx hb (by omega) (by omega) (tgt := 246) dX12_search_239 (by decide) (fun c239 => ?_) (fun c239 => ?_)
                                  · refine lv_iconst (v := nI 0) hx hb dX12_search_246 (by decide) ?_
                                    exact fx_iretP C hr hk hH (K10 c22 c32 sd hsd wz hwz rfl rfl i0 hi0 c61 en re_ hen hre hpd c112 c129 i1 hi1 hall c161 c187 c221 c225 c239) (Nat.zero_le _) (Nat.zero_le _) dX12_search_247
                                  · refine lv_iconst (v := nI 1) hx hb dX12_search_242 (by decide) ?_
                                    refine lv_goto (tgt := 247) hx hb dX12_search_243 (by decide) ?_
                                    exact fx_iretP C hr hk hH (K11 c22 c32 sd hsd wz hwz rfl rfl i0 hi0 c61 en re_ hen hre hpd c112 c129 i1 hi1 hall c161 c187 c221 c225 c239) (Nat.zero_le _) (Nat.zero_le _) dX12_search_247
                                · refine lv_iload hx hb dX12_search_228 (lv_at hl 9 rfl) ?_
                                  refine lv_iconst (v := nI 1) hx hb dX12_search_230 (by decide) ?_
                                  refine lv_iadd hx hb dX12_search_231 ?_
                                  refine fx_ti (y := nI (i1 + 1)) (nI_add _ _) ?_
                                  refine lv_goto (tgt := 247) hx hb dX12_search_232 (by decide) ?_
                                  exact fx_iretP C hr hk hH (K12 c22 c32 sd hsd wz hwz rfl rfl i0 hi0 c61 en re_ hen hre hpd c112 c129 i1 hi1 hall c161 c187 c221 c225) (Nat.zero_le _) (Nat.zero_le _) dX12_search_247
                            · refine lv_aload_n hx hb dX12_search_190 rfl (lv_at hl 2 rfl) ?_
                              refine lv_iload_n hx hb dX12_search_191 rfl (lv_at hl 3 rfl) ?_
                              refine lv_iconst (v := nI 1) hx hb dX12_search_192 (by decide) ?_
                              refine fx_go1 hH (fx_runV C hH hl.1 (As := [.int (nI j), .int (nI 1)]) (rest := []) (c_X12_feel (G := G) (base := base) (l := l) (f := fx_up f mo (oO 11 [.int (nI 0), .int sa, .ref la, .ref ma, .ref it, .ref rl, .ref fr, .ref li, .ref wa, .ref ld, .int ac, .ref tp, .int tn, .int cu, .int sr, .int tk, .int va, .int ft, .int fA, .int lt, .ref so, .ref ik, .ref kp, .ref kl, .ref tc, .int tt])) (sz := sz) (K := K) (wi := wi) (ag := ag) (mo := mo) (j := j) (wy := nI 1) (th := nI 0) (sa := sa) (la := la) (ma := ma) (it := it) (rl := rl) (fr := fr) (li := li) (wa := wa) (ld := ld) (ac := ac) (tp := tp) (tn := tn) (cu := cu) (sr := sr) (tk := tk) (va := va) (ft := ft) (fA := fA) (lt := lt) (so := so) (ik := ik) (kp := kp) (kl := kl) (tc := tc) (tt := tt) (rho := rho) h1_mo h1_rl (by omega) hk0 hk1 hk2 (by omega) (by omega) (by omega)) mY_X12_feel ml_X12_162 im_X12_feel se_X12_X12_feel h1_mo rfl rfl ⟨(Nat.le_of_ble_eq_true rfl), (Nat.le_of_ble_eq_true rfl)⟩ rfl (Nat.le_of_ble_eq_true rfl) ⟨(Nat.le_of_ble_eq_true rfl), (Nat.le_of_ble_eq_true rfl)⟩ dX12_search_193) (fun H locs hH => ?_)
                              refine lv_goto (tgt := 209) hx hb dX12_search_196 (by decide) ?_
                              refine lv_istore (lv' := [(13, .int (nI (feN K wi ag (nI 1)))), (6, .long (lN (drN sd (i1 + 1 + 1)))), (12, .int (nI (i1 % P))), (0, .ref mo), (1, .int (nI j)), (2, .int (nI sd)), (3, .int (nI wz)), (4, .int (nI P)), (10, .int (nI (pd wn P 0 (drN sd 1 % suN wn mi P)))), (11, .int (nI i1))]) hx hb dX12_search_209 hl (by decide) rfl (fun ls hl => ?_)
                              refine lv_lload hx hb dX12_search_211 (lv_at hl 1 rfl) ?_
                              refine lv_ldc2 (v := (10)) hx hb C.2.2.2.1 (C.2.2.2.2.1 _ kL_X12_203 rfl args) dX12_search_213 ?_
                              refine fx_tl (y := lN 10) (by decide) ?_
                              refine lv_lrem hx hb dX12_search_216 (fun q => absurd ((pk_lEQ (b := 0) (by omega) (by omega)).mp q) (by omega)) ?_
                              refine fx_tl (y := lN ((drN sd (i1 + 1 + 1)) % 10)) (pk_lRem (by omega) (by omega) (by omega)) ?_
                              refine lv_iload hx hb dX12_search_217 (lv_at hl 0 rfl) ?_
                              refine lv_i2l (v := lN (feN K wi ag (nI 1))) hx hb dX12_search_219 (nI_l (by omega)) ?_
                              refine W.lcmp hx hb dX12_search_220 ?_
                              refine fx_JN_ge (a := (drN sd (i1 + 1 + 1)) % 10) (b := feN K wi ag (nI 1)) hx hb (by omega) (by omega) (tgt := 248) dX12_search_221 (by decide) (fun c221 => ?_) (fun c221 => ?_)
                              · refine lv_iinc (v := nI (i1 + 1)) (lv' := [(11, .int (nI (i1 + 1))), (13, .int (nI (feN K wi ag (nI 1)))), (6, .long (lN (drN sd (i1 + 1 + 1)))), (12, .int (nI (i1 % P))), (0, .ref mo), (1, .int (nI j)), (2, .int (nI sd)), (3, .int (nI wz)), (4, .int (nI P)), (10, .int (nI (pd wn P 0 (drN sd 1 % suN wn mi P))))]) hx hb dX12_search_248 hl (k := 9) rfl (nI_1 _) (by decide) rfl (fun ls hl => ?_)
                                refine lv_goto (tgt := 157) hx hb dX12_search_251 (by decide) ?_
                                have hl : lv_has ls 14 [(0, .ref mo), (1, .int (nI j)), (2, .int (nI sd)), (3, .int (nI wz)), (4, .int (nI P)), (6, .long (lN (drN sd (i1 + 1 + 1)))), (10, .int (nI (pd wn P 0 (drN sd 1 % suN wn mi P)))), (11, .int (nI (i1 + 1)))] := lv_sub hl [4, 5, 6, 7, 8, 2, 9, 0] rfl
                                have hl : lv_has ls 14 [(0, .ref mo), (1, .int (nI j)), (2, .int (nI sd)), (3, .int (nI wz)), (4, .int (nI P)), (6, .long (lN (drN sd ((i1 + 1) + 1)))), (10, .int (nI (pd wn P 0 (drN sd 1 % suN wn mi P)))), (11, .int (nI (i1 + 1)))] := hl
                                exact ih_157 (i1 + 1) (by omega) (fun z hz => by rcases Nat.lt_succ_iff_lt_or_eq.mp hz with q9 | q9; exact hall z q9; subst q9; first | (rw [if_pos c187]; omega) | (rw [if_neg c187]; omega)) (by omega) _ _ hH _ hl
                              · refine lv_iload_n hx hb dX12_search_224 rfl (lv_at hl 6 rfl) ?_
                                refine fx_O_ne (a := wz) hx hb (by omega) (tgt := 235) dX12_search_225 (by decide) (fun c225 => ?_) (fun c225 => ?_)
                                · refine lv_iload hx hb dX12_search_235 (lv_at hl 2 rfl) ?_
                                  refine lv_iload hx hb dX12_search_237 (lv_at hl 8 rfl) ?_
                                  refine fx_N_ne (a := i1 % P) (b := pd wn P 0 (drN sd 1 % suN wn mi P)) hx hb (by omega) (by omega) (tgt := 246) dX12_search_239 (by decide) (fun c239 => ?_) (fun c239 => ?_)
                                  · refine lv_iconst (v := nI 0) hx hb dX12_search_246 (by decide) ?_
                                    exact fx_iretP C hr hk hH (K13 c22 c32 sd hsd wz hwz rfl rfl i0 hi0 c61 en re_ hen hre hpd c112 c129 i1 hi1 hall c161 c187 c221 c225 c239) (Nat.zero_le _) (Nat.zero_le _) dX12_search_247
                                  · refine lv_iconst (v := nI 1) hx hb dX12_search_242 (by decide) ?_
                                    refine lv_goto (tgt := 247) hx hb dX12_search_243 (by decide) ?_
                                    exact fx_iretP C hr hk hH (K14 c22 c32 sd hsd wz hwz rfl rfl i0 hi0 c61 en re_ hen hre hpd c112 c129 i1 hi1 hall c161 c187 c221 c225 c239) (Nat.zero_le _) (Nat.zero_le _) dX12_search_247
                                · refine lv_iload hx hb dX12_search_228 (lv_at hl 9 rfl) ?_
                                  refine lv_iconst (v := nI 1) hx hb dX12_search_230 (by decide) ?_
                                  refine lv_iadd hx hb dX12_search_231 ?_
                                  refine fx_ti (y := nI (i1 + 1)) (nI_add _ _) ?_
                                  refine lv_goto (tgt := 247) hx hb dX12_search_232 (by decide) ?_
                                  exact fx_iretP C hr hk hH (K15 c22 c32 sd hsd wz hwz rfl rfl i0 hi0 c61 en re_ hen hre hpd c112 c129 i1 hi1 hall c161 c187 c221 c225) (Nat.zero_le _) (Nat.zero_le _) dX12_search_247
                      have hl : lv_has ls 14 [(0, .ref mo), (1, .int (nI j)), (2, .int (nI sd)), (3, .int (nI wz)), (4, .int (nI P)), (6, .long (lN (drN sd 1))), (10, .int (nI en)), (11, .int (nI 0))] := lv_sub hl [1, 2, 3, 4, 5, 6, 8, 0] rfl
                      have hl : lv_has ls 14 [(0, .ref mo), (1, .int (nI j)), (2, .int (nI sd)), (3, .int (nI wz)), (4, .int (nI P)), (6, .long (lN (drN sd (0 + 1)))), (10, .int (nI (pd wn P 0 (drN sd 1 % suN wn mi P)))), (11, .int (nI 0))] := by
                        rw [← henE]
                        exact hl
                      exact loop_157 _ 0 (by omega) (fun z hz => absurd hz (Nat.not_lt_zero _)) (Nat.lt_succ_self _) _ _ hH _ hl
                    · refine lv_lload hx hb dX12_search_132 (lv_at hl 6 rfl) ?_
                      refine lv_aload_n hx hb dX12_search_134 rfl (lv_at hl 0 rfl) ?_
                      refine fx_get C hH (k := 5) (v := .ref rl) h1_mo ff_X12_19_11 rfl dX12_search_135 ?_
                      refine lv_bipush (v := nI 12) hx hb dX12_search_138 (by decide) ?_
                      refine lv_iload hx hb dX12_search_140 (lv_at hl 7 rfl) ?_
                      refine lv_iadd hx hb dX12_search_142 ?_
                      refine fx_ti (y := nI (12 + en)) (nI_add _ _) ?_
                      refine fx_ialdN C hH h1_rl (by omega) (by omega) dX12_search_143 ?_
                      refine fx_ti (y := nI (wn en)) ((hwn en (by omega)).1) ?_
                      have hwe := hwn en (by omega)
                      refine lv_i2l (v := lN (wn en)) hx hb dX12_search_144 (nI_l (by omega)) ?_
                      refine lv_lsub hx hb dX12_search_145 ?_
                      refine fx_tl (y := lN (re_ - (wn en))) (lN_sub (by omega)) ?_
                      refine lv_lstore (lv' := [(8, .long (lN (re_ - (wn en)))), (0, .ref mo), (1, .int (nI j)), (2, .int (nI sd)), (3, .int (nI wz)), (4, .int (nI P)), (6, .long (lN (drN sd 1))), (10, .int (nI en))]) hx hb dX12_search_146 hl (by decide) rfl (fun ls hl => ?_)
                      refine lv_iinc (v := nI (en + 1)) (lv' := [(10, .int (nI (en + 1))), (8, .long (lN (re_ - (wn en)))), (0, .ref mo), (1, .int (nI j)), (2, .int (nI sd)), (3, .int (nI wz)), (4, .int (nI P)), (6, .long (lN (drN sd 1)))]) hx hb dX12_search_148 hl (k := 7) rfl (nI_1 _) (by decide) rfl (fun ls hl => ?_)
                      refine lv_goto (tgt := 108) hx hb dX12_search_151 (by decide) ?_
                      have hl : lv_has ls 14 [(0, .ref mo), (1, .int (nI j)), (2, .int (nI sd)), (3, .int (nI wz)), (4, .int (nI P)), (6, .long (lN (drN sd 1))), (8, .long (lN (re_ - (wn en)))), (10, .int (nI (en + 1)))] := lv_sub hl [2, 3, 4, 5, 6, 7, 1, 0] rfl
                      exact ih_108 (en + 1) (re_ - (wn en)) (by omega) (by omega) (by rw [← hpd, show P - en = (P - (en + 1)) + 1 from (by omega), pd, if_neg (by omega)]) (by omega) _ _ hH _ hl
              have hl : lv_has ls 14 [(0, .ref mo), (1, .int (nI j)), (2, .int (nI sd)), (3, .int (nI wz)), (4, .int (nI P)), (6, .long (lN ((sd * 16807) % 2147483647))), (8, .long (lN (((sd * 16807) % 2147483647) % (suN wn mi i0)))), (10, .int (nI 0))] := lv_sub hl [3, 4, 5, 6, 7, 2, 1, 0] rfl
              have hl : lv_has ls 14 [(0, .ref mo), (1, .int (nI j)), (2, .int (nI sd)), (3, .int (nI wz)), (4, .int (nI P)), (6, .long (lN (drN sd 1))), (8, .long (lN (((sd * 16807) % 2147483647) % (suN wn mi i0)))), (10, .int (nI 0))] := hl
              exact loop_108 _ 0 (((sd * 16807) % 2147483647) % (suN wn mi i0)) (by omega) (Nat.lt_of_le_of_lt (Nat.mod_le _ _) (Nat.lt_trans hdr1 (by omega))) (by rw [hi0P]; rfl) (Nat.lt_succ_self _) _ _ hH _ hl
            · refine lv_iload hx hb dX12_search_64 (lv_at hl 5 rfl) ?_
              refine lv_aload_n hx hb dX12_search_66 rfl (lv_at hl 0 rfl) ?_
              refine fx_get C hH (k := 5) (v := .ref rl) h1_mo ff_X12_19_11 rfl dX12_search_67 ?_
              refine lv_bipush (v := nI 12) hx hb dX12_search_70 (by decide) ?_
              refine lv_iload hx hb dX12_search_72 (lv_at hl 6 rfl) ?_
              refine lv_iadd hx hb dX12_search_74 ?_
              refine fx_ti (y := nI (12 + i0)) (nI_add _ _) ?_
              refine fx_ialdN C hH h1_rl (by omega) (by omega) dX12_search_75 ?_
              refine fx_ti (y := nI (wn i0)) ((hwn i0 (by omega)).1) ?_
              refine lv_iadd hx hb dX12_search_76 ?_
              refine fx_ti (y := nI (suN wn mi i0 + (wn i0))) (nI_add _ _) ?_
              refine lv_istore (lv' := [(5, .int (nI (suN wn mi i0 + (wn i0)))), (0, .ref mo), (1, .int (nI j)), (2, .int (nI sd)), (3, .int (nI wz)), (4, .int (nI P)), (6, .int (nI i0))]) hx hb dX12_search_77 hl (by decide) rfl (fun ls hl => ?_)
              refine lv_iinc (v := nI (i0 + 1)) (lv' := [(6, .int (nI (i0 + 1))), (5, .int (nI (suN wn mi i0 + (wn i0)))), (0, .ref mo), (1, .int (nI j)), (2, .int (nI sd)), (3, .int (nI wz)), (4, .int (nI P))]) hx hb dX12_search_79 hl (k := 6) rfl (nI_1 _) (by decide) rfl (fun ls hl => ?_)
              refine lv_goto (tgt := 57) hx hb dX12_search_82 (by decide) ?_
              have hl : lv_has ls 14 [(0, .ref mo), (1, .int (nI j)), (2, .int (nI sd)), (3, .int (nI wz)), (4, .int (nI P)), (5, .int (nI (suN wn mi i0 + (wn i0)))), (6, .int (nI (i0 + 1)))] := lv_sub hl [2, 3, 4, 5, 6, 1, 0] rfl
              have hl : lv_has ls 14 [(0, .ref mo), (1, .int (nI j)), (2, .int (nI sd)), (3, .int (nI wz)), (4, .int (nI P)), (5, .int (nI (suN wn mi (i0 + 1)))), (6, .int (nI (i0 + 1)))] := hl
              exact ih_57 (i0 + 1) (by omega) (by omega) _ _ hH _ hl
        have hl : lv_has ls 14 [(0, .ref mo), (1, .int (nI j)), (2, .int (nI sd)), (3, .int (nI wz)), (4, .int (nI P)), (5, .int (nI mi)), (6, .int (nI 0))] := lv_sub hl [3, 4, 5, 6, 2, 1, 0] rfl
        have hl : lv_has ls 14 [(0, .ref mo), (1, .int (nI j)), (2, .int (nI sd)), (3, .int (nI wz)), (4, .int (nI P)), (5, .int (nI (suN wn mi 0))), (6, .int (nI 0))] := hl
        exact loop_57 _ 0 (by omega) (Nat.lt_succ_self _) _ _ hH _ hl
    · refine lv_ldc (v := (-1000001)) hx hb C.2.2.2.1 (C.2.2.2.2.1 _ kI_X12_74 rfl args) dX12_search_35 ?_
      exact fx_iretP C hr hk hH (K16 c22 c32) (Nat.zero_le _) (Nat.zero_le _) dX12_search_37
