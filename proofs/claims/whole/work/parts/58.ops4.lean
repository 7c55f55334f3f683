/-! ===== calls that ask rows; searches ===== -/
theorem pe_qHp {q : Nat → Int64} {P : Nat} {wy : Int32} {pt pt' cvf : Nat → Nat} {K wi ag : Nat} : ∀ {k : Nat}, (∀ z, z < k → pt z = pt' z) → qH q P wy pt cvf K wi ag k = qH q P wy pt' cvf K wi ag k
  | 0, _ => rfl
  | k + 1, h => by rw [qH, qH, pe_qHp (k := k) (fun z hz => h z (by omega)), h k (by omega)]
theorem pe_hs {q : Nat → Int64} {P : Nat} {wy ta : Int32} {pt pt' cvf : Nat → Nat} {K wi ag n : Nat} {w w' : Nat → Int32} (hp : ∀ z, z < n → pt z = pt' z) (hw : ∀ z, z < n → w z = w' z) : hsP q P wy pt cvf K wi ag n ta w ↔ hsP q P wy pt' cvf K wi ag n ta w' := by
  have e : ∀ z, z < n - 1 → nxR K (qH q P wy pt cvf K wi ag (z + 1)) (pt z) wy 0 ta P = nxR K (qH q P wy pt' cvf K wi ag (z + 1)) (pt' z) wy 0 ta P := fun z hz => by
    rw [pe_qHp (k := z + 1) (fun y hy => hp y (by omega)), hp z (by omega)]
  exact ⟨fun h z hz => (e z hz).symm.trans ((h z hz).trans (hw (z + 1) (by omega))), fun h z hz => (e z hz).trans ((h z hz).trans (hw (z + 1) (by omega)).symm)⟩
theorem pe_nws {P pl : Nat} {wy : Int32} {wd wd' : Nat → Nat} {n : Nat} (hn : 1 ≤ n) (h : ∀ z, z < n → wd z = wd' z) : ∀ k, nwS P pl wy wd n k = nwS P pl wy wd' n k
  | 0 => rfl
  | k + 1 => by rw [nwS, nwS, pe_nws hn h k, h (k % n) (Nat.mod_lt _ (by omega))]
theorem pe_vWw {v : Nat → Nat} {P pl : Nat} {wy : Int32} {wd wd' : Nat → Nat} {n K wi ag : Nat} (hn : 1 ≤ n) (h : ∀ z, z < n → wd z = wd' z) : ∀ k, vW v P pl wy wd n K wi ag k = vW v P pl wy wd' n K wi ag k
  | 0 => rfl
  | k + 1 => by rw [vW, vW, pe_vWw hn h k, pe_nws hn h k]
theorem pe_rsw {sp : Nat} {ov : Int32} {wd wd' : Nat → Nat} {n m : Nat} (hn : 1 ≤ n) (h : ∀ z, z < n → wd z = wd' z) : ∀ k, rsS sp ov wd n m k = rsS sp ov wd' n m k
  | 0 => rfl
  | k + 1 => by rw [rsS, rsS, pe_rsw hn h k, h (k % n) (Nat.mod_lt _ (by omega))]
set_option maxHeartbeats 4000000 in
set_option maxRecDepth 100000 in
theorem c_X11_search_s {G : GG} {base : Nat} {l : Launch} {f : Hp} {sz : Nat} {Po : Option Value → Hp → Nat → Prop} {wn : Nat → Nat} {cvf : Nat → Nat} {x : Nat} {j : Nat} {seed : Int32} {wh : Int32} {ra : Nat} {tp : Nat} {tc : Nat} {ro : Nat} {tr : Nat} {ia : Nat} {aa : Nat} {oa : Int32} {ak : Int32} {fa : Int32} {fi : Int32} {k : Nat} {w : Nat} {pl : Nat} {wy : Int32} {se : Int32} {to : Nat} {lf : Nat} {ta : Int32} {wt : Nat} {ch : Nat} {sk : Nat} {P : Nat} {st : Nat} {ov : Int32} {mi : Nat} {ri : Nat} {tl : Nat} {gs : Nat → Option Nat} {o : Nat} {K : Nat} {nn : Int32} {wi : Nat} {ag : Nat} {g : Nat → Int32} {gc : Nat → Int32} (h_x : f x = some (oO 10 [.ref ra, .ref tp, .ref tc, .ref ro, .ref tr, .ref ia, .ref aa, .int oa, .int ak, .int fa, .int fi])) (h_ro : f ro = some (oO 4 [.ref k, .ref w, .int (nI pl), .int wy, .int se, .int (nI to), .int (nI lf), .int ta])) (h_w : f w = some (oO 2 [.ref wt, .ref ch, .ref sk, .int (nI P), .int (nI st), .int ov, .int (nI mi), .int (nI ri), .int (nI tl)])) (h_sk : f sk = some (oR 5 4 gs)) (h_o : f o = some (skC K nn (nI wi) (nI ag))) (h_wt : f wt = some (oI 12 g)) (h_ch : f ch = some (oI 12 gc)) (hne_0 : wt ≠ ch) (hj : j < tl) (htl : tl ≤ 4) (hg : gs j = some o) (hK : 1 ≤ K ∧ K ≤ 5) (hwi : wi ≤ 10) (hag : ag ≤ 10) (hP : 4 ≤ P ∧ P ≤ 12) (hwn : ∀ z, z < P → g z = nI (wn z) ∧ 1 ≤ wn z ∧ wn z ≤ 9) (hmi : mi ≤ 9) (hcf : ∀ z, z < P → gc z = nI (cvf z) ∧ cvf z ≤ 10) (A1 : ∀ (ca : ¬ (¬ seed < (nI 1) ∧ ¬ (nI 999999) < seed)), Po (some (.int (-1000001))) f sz) (A2 : ∀ (ca : (¬ seed < (nI 1) ∧ ¬ (nI 999999) < seed)) (cb : ¬ (¬ wh < (nI 0) ∧ ¬ (nI 1) < wh)), Po (some (.int (-1000001))) f sz) (A3 : ∀ (ca : (¬ seed < (nI 1) ∧ ¬ (nI 999999) < seed)) (cb : (¬ wh < (nI 0) ∧ ¬ (nI 1) < wh)) (sd : Nat) (hsd : 1 ≤ sd ∧ sd ≤ 999999) (esd : seed = nI sd) (hall : ∀ z, z < 40 → ¬ drN sd (z + 1 + 1) % 10 < (if z % P = pd wn P 0 (drN sd 1 % suN wn mi P) then feN K wi ag (nI 1) else cvf (z % P))), Po (some (.int (-1000000))) f sz) (A4 : ∀ (ca : (¬ seed < (nI 1) ∧ ¬ (nI 999999) < seed)) (cb : (¬ wh < (nI 0) ∧ ¬ (nI 1) < wh)) (sd : Nat) (hsd : 1 ≤ sd ∧ sd ≤ 999999) (wz : Nat) (hwz : wz ≤ 1) (esd : seed = nI sd) (ewz : wh = nI wz) (i1 : Nat) (hi1 : i1 < 40) (hall : ∀ z, z < i1 → ¬ drN sd (z + 1 + 1) % 10 < (if z % P = pd wn P 0 (drN sd 1 % suN wn mi P) then feN K wi ag (nI 1) else cvf (z % P))) (hh : drN sd (i1 + 1 + 1) % 10 < (if i1 % P = pd wn P 0 (drN sd 1 % suN wn mi P) then feN K wi ag (nI 1) else cvf (i1 % P))), Po (some (.int (if wz = 0 then nI (i1 + 1) else if i1 % P = pd wn P 0 (drN sd 1 % suN wn mi P) then nI 1 else nI 0))) f sz) : fx_MP G base l yX11_search cX11_search 12 (some .int) rm_X11_search [.ref x, .int (nI j), .int seed, .int wh] f sz Po := by
  exact c_X11_search_k h_x h_ro h_w h_sk h_o h_wt h_ch hne_0 hj htl hg hK hwi hag hP hwn hmi hcf A1
    (fun ca cb sd hsd wz hwz esd ewz i1 hi1 hall c40 => A3 ca cb sd hsd esd (fun z hz => hall z (by omega)))
    (fun ca cb sd hsd wz hwz esd ewz i1 hi1 hall c40 cc cd ce cf => by
    have k := A4 ca cb sd hsd wz hwz esd ewz i1 c40 hall (by rw [if_neg cc]; exact cd)
    rw [if_neg ce, if_neg cf] at k
    exact k)
    (fun ca cb sd hsd wz hwz esd ewz i1 hi1 hall c40 cc cd ce cf => by
    have k := A4 ca cb sd hsd wz hwz esd ewz i1 c40 hall (by rw [if_neg cc]; exact cd)
    rw [if_neg ce, if_pos cf] at k
    exact k)
    (fun ca cb sd hsd wz hwz esd ewz i1 hi1 hall c40 cc cd ce => by
    have k := A4 ca cb sd hsd wz hwz esd ewz i1 c40 hall (by rw [if_neg cc]; exact cd)
    rw [if_pos ce] at k
    exact k)
    (fun ca cb sd hsd wz hwz esd ewz i1 hi1 hall c40 cc cd ce cf => by
    have k := A4 ca cb sd hsd wz hwz esd ewz i1 c40 hall (by rw [if_pos cc]; exact cd)
    rw [if_neg ce, if_neg cf] at k
    exact k)
    (fun ca cb sd hsd wz hwz esd ewz i1 hi1 hall c40 cc cd ce cf => by
    have k := A4 ca cb sd hsd wz hwz esd ewz i1 c40 hall (by rw [if_pos cc]; exact cd)
    rw [if_neg ce, if_pos cf] at k
    exact k)
    (fun ca cb sd hsd wz hwz esd ewz i1 hi1 hall c40 cc cd ce => by
    have k := A4 ca cb sd hsd wz hwz esd ewz i1 c40 hall (by rw [if_pos cc]; exact cd)
    rw [if_pos ce] at k
    exact k)
    A2
set_option maxHeartbeats 4000000 in
set_option maxRecDepth 100000 in
theorem c_X12_search_s {G : GG} {base : Nat} {l : Launch} {f : Hp} {sz : Nat} {Po : Option Value → Hp → Nat → Prop} {K : Nat} {wi : Nat} {ag : Nat} {tl : Nat} {P : Nat} {mi : Nat} {wn : Nat → Nat} {cvf : Nat → Nat} {mo : Nat} {j : Nat} {seed : Int32} {wh : Int32} {th : Int32} {sa : Int32} {la : Nat} {ma : Nat} {it : Nat} {rl : Nat} {fr : Nat} {li : Nat} {wa : Nat} {ld : Nat} {ac : Int32} {tp : Nat} {tn : Int32} {cu : Int32} {sr : Int32} {tk : Int32} {va : Int32} {ft : Int32} {fA : Int32} {lt : Int32} {so : Nat} {ik : Nat} {kp : Nat} {kl : Nat} {tc : Nat} {tt : Int32} {rho : Nat → Int32} (h_mo : f mo = some (oO 11 [.int th, .int sa, .ref la, .ref ma, .ref it, .ref rl, .ref fr, .ref li, .ref wa, .ref ld, .int ac, .ref tp, .int tn, .int cu, .int sr, .int tk, .int va, .int ft, .int fA, .int lt, .ref so, .ref ik, .ref kp, .ref kl, .ref tc, .int tt])) (h_rl : f rl = some (oI 48 rho)) (hj : j < tl) (htl : tl ≤ 4) (ht : rho 5 = nI tl) (hk0 : rho (36 + (3 * j) + 0) = nI K) (hk1 : rho (36 + (3 * j) + 1) = nI wi) (hk2 : rho (36 + (3 * j) + 2) = nI ag) (hK : 1 ≤ K ∧ K ≤ 5) (hwi : wi ≤ 10) (hag : ag ≤ 10) (hP : rho 0 = nI P) (hP2 : 4 ≤ P ∧ P ≤ 12) (hmi : rho 3 = nI mi) (hmi2 : mi ≤ 9) (hwn : ∀ z, z < P → rho (12 + z) = nI (wn z) ∧ 1 ≤ wn z ∧ wn z ≤ 9) (hcf : ∀ z, z < P → rho (24 + z) = nI (cvf z) ∧ cvf z ≤ 10) (A1 : ∀ (ca : ¬ (¬ seed < (nI 1) ∧ ¬ (nI 999999) < seed)), Po (some (.int (-1000001))) (fx_up f mo (oO 11 [.int (nI 0), .int sa, .ref la, .ref ma, .ref it, .ref rl, .ref fr, .ref li, .ref wa, .ref ld, .int ac, .ref tp, .int tn, .int cu, .int sr, .int tk, .int va, .int ft, .int fA, .int lt, .ref so, .ref ik, .ref kp, .ref kl, .ref tc, .int tt])) sz) (A2 : ∀ (ca : (¬ seed < (nI 1) ∧ ¬ (nI 999999) < seed)) (cb : ¬ (¬ wh < (nI 0) ∧ ¬ (nI 1) < wh)), Po (some (.int (-1000001))) (fx_up f mo (oO 11 [.int (nI 0), .int sa, .ref la, .ref ma, .ref it, .ref rl, .ref fr, .ref li, .ref wa, .ref ld, .int ac, .ref tp, .int tn, .int cu, .int sr, .int tk, .int va, .int ft, .int fA, .int lt, .ref so, .ref ik, .ref kp, .ref kl, .ref tc, .int tt])) sz) (A3 : ∀ (ca : (¬ seed < (nI 1) ∧ ¬ (nI 999999) < seed)) (cb : (¬ wh < (nI 0) ∧ ¬ (nI 1) < wh)) (sd : Nat) (hsd : 1 ≤ sd ∧ sd ≤ 999999) (esd : seed = nI sd) (hall : ∀ z, z < 40 → ¬ drN sd (z + 1 + 1) % 10 < (if z % P = pd wn P 0 (drN sd 1 % suN wn mi P) then feN K wi ag (nI 1) else cvf (z % P))), Po (some (.int (-1000000))) (fx_up f mo (oO 11 [.int (nI 0), .int sa, .ref la, .ref ma, .ref it, .ref rl, .ref fr, .ref li, .ref wa, .ref ld, .int ac, .ref tp, .int tn, .int cu, .int sr, .int tk, .int va, .int ft, .int fA, .int lt, .ref so, .ref ik, .ref kp, .ref kl, .ref tc, .int tt])) sz) (A4 : ∀ (ca : (¬ seed < (nI 1) ∧ ¬ (nI 999999) < seed)) (cb : (¬ wh < (nI 0) ∧ ¬ (nI 1) < wh)) (sd : Nat) (hsd : 1 ≤ sd ∧ sd ≤ 999999) (wz : Nat) (hwz : wz ≤ 1) (esd : seed = nI sd) (ewz : wh = nI wz) (i1 : Nat) (hi1 : i1 < 40) (hall : ∀ z, z < i1 → ¬ drN sd (z + 1 + 1) % 10 < (if z % P = pd wn P 0 (drN sd 1 % suN wn mi P) then feN K wi ag (nI 1) else cvf (z % P))) (hh : drN sd (i1 + 1 + 1) % 10 < (if i1 % P = pd wn P 0 (drN sd 1 % suN wn mi P) then feN K wi ag (nI 1) else cvf (i1 % P))), Po (some (.int (if wz = 0 then nI (i1 + 1) else if i1 % P = pd wn P 0 (drN sd 1 % suN wn mi P) then nI 1 else nI 0))) (fx_up f mo (oO 11 [.int (nI 0), .int sa, .ref la, .ref ma, .ref it, .ref rl, .ref fr, .ref li, .ref wa, .ref ld, .int ac, .ref tp, .int tn, .int cu, .int sr, .int tk, .int va, .int ft, .int fA, .int lt, .ref so, .ref ik, .ref kp, .ref kl, .ref tc, .int tt])) sz) : fx_MP G base l yX12_search cX12_search 14 (some .int) rm_X12_search [.ref mo, .int (nI j), .int seed, .int wh] f sz Po := by
  exact c_X12_search_k h_mo h_rl hj htl ht hk0 hk1 hk2 hK hwi hag hP hP2 hmi hmi2 hwn hcf A1
    (fun ca cb sd hsd wz hwz esd ewz i0 hi0 c61 en re_ hen hre hpd c112 i1 hi1 hall c40 => A3 ca cb sd hsd esd (fun z hz => hall z (by omega)))
    (fun ca cb sd hsd wz hwz esd ewz i0 hi0 c61 en re_ hen hre hpd c112 i1 hi1 hall c40 cc cd ce cf => by
    have k := A4 ca cb sd hsd wz hwz esd ewz i1 c40 hall (by rw [if_neg cc]; exact cd)
    rw [if_neg ce, if_neg cf] at k
    exact k)
    (fun ca cb sd hsd wz hwz esd ewz i0 hi0 c61 en re_ hen hre hpd c112 i1 hi1 hall c40 cc cd ce cf => by
    have k := A4 ca cb sd hsd wz hwz esd ewz i1 c40 hall (by rw [if_neg cc]; exact cd)
    rw [if_neg ce, if_pos cf] at k
    exact k)
    (fun ca cb sd hsd wz hwz esd ewz i0 hi0 c61 en re_ hen hre hpd c112 i1 hi1 hall c40 cc cd ce => by
    have k := A4 ca cb sd hsd wz hwz esd ewz i1 c40 hall (by rw [if_neg cc]; exact cd)
    rw [if_pos ce] at k
    exact k)
    (fun ca cb sd hsd wz hwz esd ewz i0 hi0 c61 en re_ hen hre hpd c112 i1 hi1 hall c40 cc cd ce cf => by
    have k := A4 ca cb sd hsd wz hwz esd ewz i1 c40 hall (by rw [if_pos cc]; exact cd)
    rw [if_neg ce, if_neg cf] at k
    exact k)
    (fun ca cb sd hsd wz hwz esd ewz i0 hi0 c61 en re_ hen hre hpd c112 i1 hi1 hall c40 cc cd ce cf => by
    have k := A4 ca cb sd hsd wz hwz esd ewz i1 c40 hall (by rw [if_pos cc]; exact cd)
    rw [if_neg ce, if_pos cf] at k
    exact k)
    (fun ca cb sd hsd wz hwz esd ewz i0 hi0 c61 en re_ hen hre hpd c112 i1 hi1 hall c40 cc cd ce => by
    have k := A4 ca cb sd hsd wz hwz esd ewz i1 c40 hall (by rw [if_pos cc]; exact cd)
    rw [if_pos ce] at k
    exact k)
    (fun ca cb sd hsd wz hwz esd ewz i0 hi0 c61 en re_ hen hre hpd c112 c129 i1 hi1 hall c40 => A3 ca cb sd hsd esd (fun z hz => hall z (by omega)))
    (fun ca cb sd hsd wz hwz esd ewz i0 hi0 c61 en re_ hen hre hpd c112 c129 i1 hi1 hall c40 cc cd ce cf => by
    have k := A4 ca cb sd hsd wz hwz esd ewz i1 c40 hall (by rw [if_neg cc]; exact cd)
    rw [if_neg ce, if_neg cf] at k
    exact k)
    (fun ca cb sd hsd wz hwz esd ewz i0 hi0 c61 en re_ hen hre hpd c112 c129 i1 hi1 hall c40 cc cd ce cf => by
    have k := A4 ca cb sd hsd wz hwz esd ewz i1 c40 hall (by rw [if_neg cc]; exact cd)
    rw [if_neg ce, if_pos cf] at k
    exact k)
    (fun ca cb sd hsd wz hwz esd ewz i0 hi0 c61 en re_ hen hre hpd c112 c129 i1 hi1 hall c40 cc cd ce => by
    have k := A4 ca cb sd hsd wz hwz esd ewz i1 c40 hall (by rw [if_neg cc]; exact cd)
    rw [if_pos ce] at k
    exact k)
    (fun ca cb sd hsd wz hwz esd ewz i0 hi0 c61 en re_ hen hre hpd c112 c129 i1 hi1 hall c40 cc cd ce cf => by
    have k := A4 ca cb sd hsd wz hwz esd ewz i1 c40 hall (by rw [if_pos cc]; exact cd)
    rw [if_neg ce, if_neg cf] at k
    exact k)
    (fun ca cb sd hsd wz hwz esd ewz i0 hi0 c61 en re_ hen hre hpd c112 c129 i1 hi1 hall c40 cc cd ce cf => by
    have k := A4 ca cb sd hsd wz hwz esd ewz i1 c40 hall (by rw [if_pos cc]; exact cd)
    rw [if_neg ce, if_pos cf] at k
    exact k)
    (fun ca cb sd hsd wz hwz esd ewz i0 hi0 c61 en re_ hen hre hpd c112 c129 i1 hi1 hall c40 cc cd ce => by
    have k := A4 ca cb sd hsd wz hwz esd ewz i1 c40 hall (by rw [if_pos cc]; exact cd)
    rw [if_pos ce] at k
    exact k)
    A2
set_option maxHeartbeats 4000000 in
set_option maxRecDepth 100000 in
theorem op_whose {G : GG} {base : Nat} {l : Launch} {b : Nat} {f : Hp} {sz : Nat} (h : REL b f sz) (r i n : Int32) : opI G base l yX11_whose yX12_whose cX11_whose cX12_whose 7 7 rm_X11_whose rm_X12_whose [.int r, .int i, .int n] b f sz := by
  obtain ⟨oa, ak, tn, tt, fa, fi, hR⟩ := h
  obtain ⟨h_x, ⟨th, cu, sr, tk, va, ft, fA, h_mo⟩, hRow, hTap, hTrc, hMai, hTri, hImg, hAct, hsz⟩ := id hR
  obtain ⟨rho, lam, h_rl, h_li, w, pl, to, lf, wy, se, ta, q, P, wt, ch, sk, st, mi, ri, tl, ov, gw, gc, gs, os, Ks, wis, ags, wn, cvf, v, h_ro, h_k, hLW, hRO⟩ := id hMai
  obtain ⟨⟨h_w, h_wt, h_ch, h_sk⟩, ⟨iw, iwt, ich, isk, hwc⟩, ⟨r0, r1, r2, r3, r4, r5⟩, ⟨hPt, htl, hst, hmi⟩, hwn, hcf, hsk⟩ := id hLW
  have hP12 : P ≤ 12 := LW_P hLW
  obtain ⟨mis, las, sns, gis, gr, gla, gma, git, h_ra, hgr, hrow, hit, h_la, h_ma, h_it, hml, hsn, hgi⟩ := id hRow
  have hn : 0 < P → (∀ i, i ≤ P → q i = lN (v i)) ∧ (∀ i, i ≤ P → lam i = lN (v i)) ∧ 0 < sN v (P + 1) ∧ sN v (P + 1) ≤ 117 * 10 ^ 10 ∧ (∀ i, i < P → 0 ≤ q i) ∧ ∀ i, i < P → q i = lam i := fun hP0 => by
    obtain ⟨⟨hpl, hto, hlf, hwy⟩, -, -, hq, hsum⟩ := hRO hP0
    have hb10 : ∀ i, i ≤ P → v i ≤ 9 * 10 ^ 10 := fun i hi => Nat.le_trans (hq i hi).2.2 (Nat.mul_le_mul_left _ (Nat.pow_le_pow_right (by omega) hto))
    have hs2 : sN v (P + 1) ≤ 117 * 10 ^ 10 := by
      have h1 := sN_mul (v := v) (M := 9 * 10 ^ 10) (n := P + 1) (fun i hi => hb10 i (by omega))
      have h2 : (P + 1) * (9 * 10 ^ 10) ≤ 13 * (9 * 10 ^ 10) := Nat.mul_le_mul_right _ (by omega)
      exact Nat.le_trans h1 (Nat.le_trans h2 (Nat.le_of_ble_eq_true rfl))
    have hqv : ∀ i, i ≤ P → q i = lN (v i) := fun i hi => (hq i hi).1
    have hlv : ∀ i, i ≤ P → lam i = lN (v i) := fun i hi => (hq i hi).2.1
    have hq0 : ∀ i, i < P → 0 ≤ q i := fun i hi => by rw [hqv i (by omega)]; exact pe_l0 (by have := hb10 i (by omega); omega)
    have hql : ∀ i, i < P → q i = lam i := fun i hi => (hqv i (by omega)).trans (hlv i (by omega)).symm
    exact ⟨hqv, hlv, hsum, hs2, hq0, hql⟩
  obtain ⟨⟨w2, pl2, wy2, se2, to2, lf2, ta2, q2, h_tr, h_k2⟩, ⟨gso, h_so⟩, gfr, h_fr⟩ := id hTri

  by_cases hr : ¬ r < nI 0 ∧ ¬ nI 7 < r
  case neg =>
    refine c_X11_whose_n h_x h_ro h_w hr hP12 ?_ ?_
    · intro c4
      exact ⟨_, rfl, ⟨_, h_mo⟩, c_X12_whose_n h_mo h_rl r0 hP12 hr (fun _ => ⟨rfl, REL_m hR⟩) (fun k => absurd (show 0 < P by omega) k)⟩
    · intro c4
      exact ⟨_, rfl, ⟨_, h_mo⟩, c_X12_whose_n h_mo h_rl r0 hP12 hr (fun k => absurd k (by omega)) (fun _ => ⟨rfl, REL_m hR⟩)⟩
  obtain ⟨kk, hkk, rfl⟩ := rng (N := 7) (by omega) hr.1 hr.2
  have hk8 : kk < 8 := by omega
  have hs40 := (hsn kk hk8).1
  refine c_X11_whose_k (os := os) (Ks := Ks) (wis := wis) (ags := ags) (cvf := cvf) h_x h_ro h_k h_w h_ch h_sk h_tr h_k2 h_ra (hrow kk hk8) (hit kk hk8) (by omega) (by omega) (by unfold inL at ich; omega) hk8 (hgr kk hk8) (hsn kk hk8).1 (by omega) htl (fun z hz => (hsk z hz).1) (fun z hz => (hsk z hz).2.2.1) (fun z hz => (hsk z hz).2.2.2.2.2.2) (fun z hz => ⟨(hcf z hz).1, (hcf z hz).2.2⟩) ?_ ?_ ?_ ?_ ?_ ?_
  · intro c4 c29 c40 c56 ix nn hix hn1 hie hne c84 i1 w2_ pl2_ wy2_ se2_ to2_ lf2_ ta2_ q2_ hi1 c108
    obtain ⟨⟨hpl, hto, hlf, hwy⟩, ⟨c6, c7, c8, c9, c10, c11⟩, hta, hq, hsum⟩ := hRO (by omega)
    have hn2 := hn (by omega)
    have hla := (hml kk hk8).resolve_right (fun k => k.1 c40)
    have hgz : ∀ z, z < nn → git (40 * kk + ix + z) = gis kk (ix + z) := fun z hz => by rw [Nat.add_assoc]; exact hgi kk hk8 (ix + z) (by omega)
    refine ⟨_, rfl, ⟨_, (up_o (up_o (up_o (h_mo) (by omega)) (by omega)) (by omega))⟩, c_X12_whose_k (Ks := Ks) (wis := wis) (ags := ags) (cvf := cvf) (wy := wy) (up_o (up_o (up_o (h_mo) (by omega)) (by omega)) (by omega)) (up_o (up_o (up_o (h_rl) (by omega)) (by omega)) (by omega)) (up_o (up_o (up_o (h_li) (by omega)) (by omega)) (by omega)) (up_o (up_o (up_o (h_so) (by omega)) (by omega)) (by omega)) (up_o (up_o (up_o (h_la) (by omega)) (by omega)) (by omega)) (up_o (up_o (up_o (h_ma) (by omega)) (by omega)) (by omega)) (up_o (up_o (up_o (h_it) (by omega)) (by omega)) (by omega)) (by omega) (by omega) (by omega) (by omega) (by omega) (by omega) (by omega) hk8 (hsn kk hk8).2 (hsn kk hk8).1 r0 (by omega) r5 htl c7 (fun j hj => ⟨(hsk j hj).2.2.2.1, (hsk j hj).2.2.2.2.1, (hsk j hj).2.2.2.2.2.1, (hsk j hj).2.2.2.2.2.2.1, (hsk j hj).2.2.2.2.2.2.2.1, (hsk j hj).2.2.2.2.2.2.2.2⟩) (fun z hz => ⟨(hcf z hz).2.1, (hcf z hz).2.2⟩) (fun _ _ _ k => absurd k c56.1) ?_ ?_ (fun _ _ _ _ k => absurd (pe_64.mp (by rw [(hsn kk hk8).2]; exact c56.2.2)) k) (fun _ _ k => absurd hla.2.2 k) (fun _ k => absurd c29 k) (fun k => absurd (show 0 < P by omega) k)⟩
    · intro _ _ _ _ _ ix2 nn2 hix2 hn2_ e1 e2 i0 hi0 hall c92 i2 q_ hi2 c140
      have k1 := (nI_eq (by omega) (by omega)).mp (hie.symm.trans e1)
      have k2 := (nI_eq (by omega) (by omega)).mp (hne.symm.trans e2)
      subst k1; subst k2
      have k3 : i2 = i1 := by omega
      subst k3
      refine ⟨?_, ⟨oa, ak, tn, tt, fa, nI 0, (up_o (up_o (fx_up_s _ _ _) (by omega)) (by omega)), ⟨_, _, _, _, _, _, _, (up_o (fx_up_s _ _ _) (by omega))⟩, rRows_c hRow (fun a ha => (fx_up_n _ _ (by omega)).trans ((fx_up_n _ _ (by omega)).trans ((fx_up_n _ _ (by omega)).trans ((fx_up_n _ _ (by omega)).trans ((fx_up_n _ _ (by omega)).trans (rfl)))))), rTape_c hTap (fun a ha => (fx_up_n _ _ (by omega)).trans ((fx_up_n _ _ (by omega)).trans ((fx_up_n _ _ (by omega)).trans ((fx_up_n _ _ (by omega)).trans ((fx_up_n _ _ (by omega)).trans (rfl)))))), rTrace_c hTrc (fun a ha => (fx_up_n _ _ (by omega)).trans ((fx_up_n _ _ (by omega)).trans ((fx_up_n _ _ (by omega)).trans ((fx_up_n _ _ (by omega)).trans ((fx_up_n _ _ (by omega)).trans (rfl)))))), rMain_c hMai (fun a ha => (fx_up_n _ _ (by omega)).trans ((fx_up_n _ _ (by omega)).trans ((fx_up_n _ _ (by omega)).trans ((fx_up_n _ _ (by omega)).trans ((fx_up_n _ _ (by omega)).trans (rfl)))))), ⟨⟨_, _, _, _, _, _, _, _, (up_o (up_o (up_o (up_o (fx_up_s _ _ _) (by omega)) (by omega)) (by omega)) (by omega)), (up_o (up_o (up_o (fx_up_s _ _ _) (by omega)) (by omega)) (by omega))⟩, ⟨_, (fx_up_s _ _ _)⟩, _, (up_o (up_o (up_o (up_o (up_o (h_fr) (by omega)) (by omega)) (by omega)) (by omega)) (by omega))⟩, rImg_c hImg (fun a ha => (fx_up_n _ _ (by omega)).trans ((fx_up_n _ _ (by omega)).trans ((fx_up_n _ _ (by omega)).trans ((fx_up_n _ _ (by omega)).trans ((fx_up_n _ _ (by omega)).trans (rfl)))))), rActs_c hAct (fun a ha => (fx_up_n _ _ (by omega)).trans ((fx_up_n _ _ (by omega)).trans ((fx_up_n _ _ (by omega)).trans ((fx_up_n _ _ (by omega)).trans ((fx_up_n _ _ (by omega)).trans (rfl)))))), hsz⟩⟩
      have hpt : ∀ z, z < nn → (gis kk (ix + z)).toNatClampNeg < P := fun z hz => by
        obtain ⟨y, hy, ey⟩ := rng (N := P - 1) (by omega) (c84 z hz).1 (c84 z hz).2
        rw [ey, nI_clamp (by omega)]; omega
      rw [c11, pe_wh (p' := fun k_ => gsP q P wy (fun z => (gis kk (ix + z)).toNatClampNeg) cvf (Ks k_) (wis k_) (ags k_) nn ta (fun z => gis kk (ix + z))) (fun k_ _ => (pe_hs (fun z hz => by rw [hgz z hz]) (fun z hz => hgz z hz)).trans (pe_gs (by omega) hwy hta (by omega) hpt hn2.1 hn2.2.1 (fun i hi => Nat.le_trans (hq i hi).2.2 (Nat.mul_le_mul_left _ (Nat.pow_le_pow_right (by omega) hto)))).symm)]
    · intro _ _ _ _ _ ix2 nn2 hix2 hn2_ e1 e2 i0 hi0 hall c92 c109
      have k1 := (nI_eq (by omega) (by omega)).mp (hie.symm.trans e1)
      have k2 := (nI_eq (by omega) (by omega)).mp (hne.symm.trans e2)
      subst k1; subst k2
      have k3 := c84 i0 c92
      rw [hgz i0 c92, pk_sub (by omega)] at c109
      exact absurd k3 c109
  · intro c4 c29 c40 c56 ix nn hix hn1 hie hne c84
    have hla := (hml kk hk8).resolve_right (fun k => k.1 c40)
    have hgz : ∀ z, z < nn → git (40 * kk + ix + z) = gis kk (ix + z) := fun z hz => by rw [Nat.add_assoc]; exact hgi kk hk8 (ix + z) (by omega)
    refine ⟨_, rfl, ⟨_, h_mo⟩, c_X12_whose_k (Ks := Ks) (wis := wis) (ags := ags) (cvf := cvf) (wy := rho 7) (h_mo) (h_rl) (h_li) (h_so) (h_la) (h_ma) (h_it) (by omega) (by omega) (by omega) (by omega) (by omega) (by omega) (by omega) hk8 (hsn kk hk8).2 (hsn kk hk8).1 r0 (by omega) r5 htl rfl (fun j hj => ⟨(hsk j hj).2.2.2.1, (hsk j hj).2.2.2.2.1, (hsk j hj).2.2.2.2.2.1, (hsk j hj).2.2.2.2.2.2.1, (hsk j hj).2.2.2.2.2.2.2.1, (hsk j hj).2.2.2.2.2.2.2.2⟩) (fun z hz => ⟨(hcf z hz).2.1, (hcf z hz).2.2⟩) (fun _ _ _ k => absurd k c56.1) ?_ (fun _ _ _ _ _ _ _ _ _ _ _ _ _ _ _ _ => ⟨rfl, REL_m hR⟩) (fun _ _ _ _ k => absurd (pe_64.mp (by rw [(hsn kk hk8).2]; exact c56.2.2)) k) (fun _ _ k => absurd hla.2.2 k) (fun _ k => absurd c29 k) (fun k => absurd (show 0 < P by omega) k)⟩
    intro _ _ _ _ _ ix2 nn2 hix2 hn2_ e1 e2 i0 hi0 hall c92
    have k1 := (nI_eq (by omega) (by omega)).mp (hie.symm.trans e1)
    have k2 := (nI_eq (by omega) (by omega)).mp (hne.symm.trans e2)
    subst k1; subst k2
    refine absurd (fun z hz => ?_) c84
    have k3 := hall z (by omega)
    rw [hgz z hz, pk_sub (by omega)] at k3
    exact k3
  · intro c4 c29 c40 c56
    have hla := (hml kk hk8).resolve_right (fun k => k.1 c40)
    have hno : ¬ i < 0 → i.toInt64 + n.toInt64 ≤ (gma kk).toInt64 → False := fun k1 k2 => c56 ⟨k1, fun k => c29.1 (by
      rw [fa_lt] at k ⊢
      have e0 : ((0 : Int32)).toInt = 0 := by decide
      have e1 : (nI 1).toInt = 1 := by decide
      rw [e0] at k; rw [e1]; omega), by rw [← (hsn kk hk8).2]; exact pe_64.mpr k2⟩
    exact ⟨_, rfl, ⟨_, (up_o (h_mo) (by omega))⟩, c_X12_whose_k (Ks := Ks) (wis := wis) (ags := ags) (cvf := cvf) (wy := rho 7) (up_o (h_mo) (by omega)) (up_o (h_rl) (by omega)) (up_o (h_li) (by omega)) (up_o (h_so) (by omega)) (up_o (h_la) (by omega)) (up_o (h_ma) (by omega)) (up_o (h_it) (by omega)) (by omega) (by omega) (by omega) (by omega) (by omega) (by omega) (by omega) hk8 (hsn kk hk8).2 (hsn kk hk8).1 r0 (by omega) r5 htl rfl (fun j hj => ⟨(hsk j hj).2.2.2.1, (hsk j hj).2.2.2.2.1, (hsk j hj).2.2.2.2.2.1, (hsk j hj).2.2.2.2.2.2.1, (hsk j hj).2.2.2.2.2.2.2.1, (hsk j hj).2.2.2.2.2.2.2.2⟩) (fun z hz => ⟨(hcf z hz).2.1, (hcf z hz).2.2⟩) (fun _ _ _ _ => ⟨rfl, REL_xm hR⟩) (fun _ _ _ k1 k2 => (hno k1 k2).elim) (fun _ _ _ k1 k2 => (hno k1 k2).elim) (fun _ _ _ _ _ => ⟨rfl, REL_xm hR⟩) (fun _ _ k => absurd hla.2.2 k) (fun _ k => absurd c29 k) (fun k => absurd (show 0 < P by omega) k)⟩
  · intro c4 c29 c40
    have hla : ¬ 0 ≤ gla kk := ((hml kk hk8).resolve_left (fun k => c40 k.1)).2
    exact ⟨_, rfl, ⟨_, (up_o (h_mo) (by omega))⟩, c_X12_whose_k (Ks := Ks) (wis := wis) (ags := ags) (cvf := cvf) (wy := rho 7) (up_o (h_mo) (by omega)) (up_o (h_rl) (by omega)) (up_o (h_li) (by omega)) (up_o (h_so) (by omega)) (up_o (h_la) (by omega)) (up_o (h_ma) (by omega)) (up_o (h_it) (by omega)) (by omega) (by omega) (by omega) (by omega) (by omega) (by omega) (by omega) hk8 (hsn kk hk8).2 (hsn kk hk8).1 r0 (by omega) r5 htl rfl (fun j hj => ⟨(hsk j hj).2.2.2.1, (hsk j hj).2.2.2.2.1, (hsk j hj).2.2.2.2.2.1, (hsk j hj).2.2.2.2.2.2.1, (hsk j hj).2.2.2.2.2.2.2.1, (hsk j hj).2.2.2.2.2.2.2.2⟩) (fun z hz => ⟨(hcf z hz).2.1, (hcf z hz).2.2⟩) (fun _ _ k => absurd k hla) (fun _ _ k => absurd k hla) (fun _ _ k => absurd k hla) (fun _ _ k => absurd k hla) (fun _ _ _ => ⟨rfl, REL_xm hR⟩) (fun _ k => absurd c29 k) (fun k => absurd (show 0 < P by omega) k)⟩
  · intro c4 c29
    exact ⟨_, rfl, ⟨_, h_mo⟩, c_X12_whose_k (Ks := Ks) (wis := wis) (ags := ags) (cvf := cvf) (wy := rho 7) (h_mo) (h_rl) (h_li) (h_so) (h_la) (h_ma) (h_it) (by omega) (by omega) (by omega) (by omega) (by omega) (by omega) (by omega) hk8 (hsn kk hk8).2 (hsn kk hk8).1 r0 (by omega) r5 htl rfl (fun j hj => ⟨(hsk j hj).2.2.2.1, (hsk j hj).2.2.2.2.1, (hsk j hj).2.2.2.2.2.1, (hsk j hj).2.2.2.2.2.2.1, (hsk j hj).2.2.2.2.2.2.2.1, (hsk j hj).2.2.2.2.2.2.2.2⟩) (fun z hz => ⟨(hcf z hz).2.1, (hcf z hz).2.2⟩) (fun _ k => absurd k c29) (fun _ k => absurd k c29) (fun _ k => absurd k c29) (fun _ k => absurd k c29) (fun _ k => absurd k c29) (fun _ _ => ⟨rfl, REL_m hR⟩) (fun k => absurd (show 0 < P by omega) k)⟩
  · intro c4
    exact ⟨_, rfl, ⟨_, h_mo⟩, c_X12_whose_k (Ks := Ks) (wis := wis) (ags := ags) (cvf := cvf) (wy := rho 7) (h_mo) (h_rl) (h_li) (h_so) (h_la) (h_ma) (h_it) (by omega) (by omega) (by omega) (by omega) (by omega) (by omega) (by omega) hk8 (hsn kk hk8).2 (hsn kk hk8).1 r0 (by omega) r5 htl rfl (fun j hj => ⟨(hsk j hj).2.2.2.1, (hsk j hj).2.2.2.2.1, (hsk j hj).2.2.2.2.2.1, (hsk j hj).2.2.2.2.2.2.1, (hsk j hj).2.2.2.2.2.2.2.1, (hsk j hj).2.2.2.2.2.2.2.2⟩) (fun z hz => ⟨(hcf z hz).2.1, (hcf z hz).2.2⟩) (fun k => absurd k (by omega)) (fun k => absurd k (by omega)) (fun k => absurd k (by omega)) (fun k => absurd k (by omega)) (fun k => absurd k (by omega)) (fun k => absurd k (by omega)) (fun _ => ⟨rfl, REL_m hR⟩)⟩
set_option maxHeartbeats 4000000 in
set_option maxRecDepth 100000 in
theorem op_rule {G : GG} {base : Nat} {l : Launch} {b : Nat} {f : Hp} {sz : Nat} (h : REL b f sz) (sx r n m_ wh : Int32) : opJ G base l yX11_rule yX12_rule cX11_rule cX12_rule 10 10 rm_X11_rule rm_X12_rule [.int sx, .int r, .int n, .int m_, .int wh] b f sz := by
  obtain ⟨oa, ak, tn, tt, fa, fi, hR⟩ := h
  obtain ⟨h_x, ⟨th, cu, sr, tk, va, ft, fA, h_mo⟩, hRow, hTap, hTrc, hMai, hTri, hImg, hAct, hsz⟩ := id hR
  obtain ⟨rho, lam, h_rl, h_li, w, pl, to, lf, wy, se, ta, q, P, wt, ch, sk, st, mi, ri, tl, ov, gw, gc, gs, os, Ks, wis, ags, wn, cvf, v, h_ro, h_k, hLW, hRO⟩ := id hMai
  obtain ⟨⟨h_w, h_wt, h_ch, h_sk⟩, ⟨iw, iwt, ich, isk, hwc⟩, ⟨r0, r1, r2, r3, r4, r5⟩, ⟨hPt, htl, hst, hmi⟩, hwn, hcf, hsk⟩ := id hLW
  have hP12 : P ≤ 12 := LW_P hLW
  obtain ⟨mis, las, sns, gis, gr, gla, gma, git, h_ra, hgr, hrow, hit, h_la, h_ma, h_it, hml, hsn, hgi⟩ := id hRow
  by_cases hr : ¬ r < nI 0 ∧ ¬ nI 7 < r
  case neg =>
    by_cases hs : ¬ sx < nI 0 ∧ ¬ (nI tl - nI 1) < sx
    case neg => exact c_X11_rule_nn h_x h_ro h_w hs hr ⟨_, rfl, ⟨_, h_mo⟩, c_X12_rule_n h_mo h_rl r5 hs ⟨rfl, REL_m hR⟩⟩
    obtain ⟨j, hj, rfl⟩ := rngS (by omega) hs
    obtain ⟨hgo, ios, h_o, hk0, hk1, hk2, hK, hwi, hag⟩ := hsk j hj
    exact c_X11_rule_kn h_x h_ro h_w h_sk h_o hj htl hgo hK hwi hag (by omega) hr ⟨_, rfl, ⟨_, h_mo⟩, c_X12_rule_kn h_mo h_rl hj htl r5 hr ⟨rfl, REL_m hR⟩⟩
  obtain ⟨kk, hkk, rfl⟩ := rng (N := 7) (by omega) hr.1 hr.2
  have hk8 : kk < 8 := by omega
  have hs40 := (hsn kk hk8).1
  by_cases hs : ¬ sx < nI 0 ∧ ¬ (nI tl - nI 1) < sx
  case neg => exact c_X11_rule_nk h_x h_ro h_w h_ra (hrow kk hk8) (hit kk hk8) hs hk8 (hgr kk hk8) (hsn kk hk8).1 ⟨_, rfl, ⟨_, h_mo⟩, c_X12_rule_n h_mo h_rl r5 hs ⟨rfl, REL_m hR⟩⟩
  obtain ⟨j, hj, rfl⟩ := rngS (by omega) hs
  obtain ⟨hgo, ios, h_o, hk0, hk1, hk2, hK, hwi, hag⟩ := hsk j hj
  have hP4 : 4 ≤ P ∧ P ≤ 12 := by omega
  obtain ⟨⟨hpl, hto, hlf, hwy⟩, ⟨c6, c7, c8, c9, c10, c11⟩, hta, hq, hsum⟩ := hRO (by omega)
  have hb10 : ∀ i, i ≤ P → v i ≤ 9 * 10 ^ 10 := fun i hi => Nat.le_trans (hq i hi).2.2 (Nat.mul_le_mul_left _ (Nat.pow_le_pow_right (by omega) hto))
  have hs2 : sN v (P + 1) ≤ 117 * 10 ^ 10 := by
    have h1 := sN_mul (v := v) (M := 9 * 10 ^ 10) (n := P + 1) (fun i hi => hb10 i (by omega))
    have h2 : (P + 1) * (9 * 10 ^ 10) ≤ 13 * (9 * 10 ^ 10) := Nat.mul_le_mul_right _ (by omega)
    exact Nat.le_trans h1 (Nat.le_trans h2 (Nat.le_of_ble_eq_true rfl))
  have hqv : ∀ i, i ≤ P → q i = lN (v i) := fun i hi => (hq i hi).1
  have hlv : ∀ i, i ≤ P → lam i = lN (v i) := fun i hi => (hq i hi).2.1
  have hq0 : ∀ i, i < P → 0 ≤ q i := fun i hi => by rw [hqv i (by omega)]; exact pe_l0 (by have := hb10 i (by omega); omega)
  have hql : ∀ i, i < P → q i = lam i := fun i hi => (hqv i (by omega)).trans (hlv i (by omega)).symm
  obtain ⟨⟨w2, pl2, wy2, se2, to2, lf2, ta2, q2, h_tr, h_k2⟩, ⟨gso, h_so⟩, gfr, h_fr⟩ := id hTri

  refine c_X11_rule_kk (tw := fun wd nz mz => sN (vW v P pl wy wd nz (Ks j) (wis j) (ags j) mz) (P + 1)) h_x h_ro h_w h_sk h_o h_k h_tr h_k2 h_ra (hrow kk hk8) (hit kk hk8) (by omega) (by omega) hj htl hgo hK hwi hag hP4 hk8 (hgr kk hk8) (hsn kk hk8).1 hqv hsum hs2 hpl hwy (pe_tw (q2 := q2) (gso := gso) hP12 hqv hlv).1 ?_ ?_ ?_ ?_ ?_ ?_ ?_ ?_
  · intro c31
    exact ⟨_, rfl, ⟨_, h_mo⟩, c_X12_rule_kk (tw := fun wd nz mz => sN (vW v P pl wy wd nz (Ks j) (wis j) (ags j) mz) (P + 1)) (h_mo) (h_rl) (h_li) (h_so) (h_la) (h_ma) (h_it) (by omega) (by omega) (by omega) (by omega) (by omega) (by omega) (by omega) hj htl r5 hk0 hk1 hk2 hK hwi hag r0 hP4 hk8 (hsn kk hk8).2 (hsn kk hk8).1 hlv hsum hs2 r1 hst c6 hpl c7 hwy (pe_tw (q2 := q2) (gso := gso) hP12 hqv hlv).2 (fun _ => ⟨rfl, REL_m hR⟩) (fun k => absurd k c31) (fun k => absurd k c31) (fun k => absurd k c31) (fun k => absurd k c31) (fun k => absurd k c31) (fun k => absurd k c31) (fun k => absurd k c31)⟩
  · intro c31 c42
    exact ⟨_, rfl, ⟨_, h_mo⟩, c_X12_rule_kk (tw := fun wd nz mz => sN (vW v P pl wy wd nz (Ks j) (wis j) (ags j) mz) (P + 1)) (h_mo) (h_rl) (h_li) (h_so) (h_la) (h_ma) (h_it) (by omega) (by omega) (by omega) (by omega) (by omega) (by omega) (by omega) hj htl r5 hk0 hk1 hk2 hK hwi hag r0 hP4 hk8 (hsn kk hk8).2 (hsn kk hk8).1 hlv hsum hs2 r1 hst c6 hpl c7 hwy (pe_tw (q2 := q2) (gso := gso) hP12 hqv hlv).2 (fun k => absurd c31 k) (fun _ _ => ⟨rfl, REL_m hR⟩) (fun _ k => absurd k c42) (fun _ k => absurd k c42) (fun _ k => absurd k c42) (fun _ k => absurd k c42) (fun _ k => absurd k c42) (fun _ k => absurd k c42)⟩
  · intro c31 c42 c52 c64 c81 nz hnz mz hmz wz hwz hns enz emz ewz c99 c125
    have hla := (hml kk hk8).resolve_right (fun k => k.1 c64)
    have hle : n ≤ gma kk := by rw [enz, (hsn kk hk8).2]; exact (nI_leI (by omega) (by omega)).mpr hns
    refine ⟨_, rfl, ⟨_, (up_o (up_o (up_o (h_mo) (by omega)) (by omega)) (by omega))⟩, c_X12_rule_kk (tw := fun wd nz mz => sN (vW v P pl wy wd nz (Ks j) (wis j) (ags j) mz) (P + 1)) (up_o (up_o (up_o (h_mo) (by omega)) (by omega)) (by omega)) (up_o (up_o (up_o (h_rl) (by omega)) (by omega)) (by omega)) (up_o (up_o (up_o (h_li) (by omega)) (by omega)) (by omega)) (up_o (up_o (up_o (h_so) (by omega)) (by omega)) (by omega)) (up_o (up_o (up_o (h_la) (by omega)) (by omega)) (by omega)) (up_o (up_o (up_o (h_ma) (by omega)) (by omega)) (by omega)) (up_o (up_o (up_o (h_it) (by omega)) (by omega)) (by omega)) (by omega) (by omega) (by omega) (by omega) (by omega) (by omega) (by omega) hj htl r5 hk0 hk1 hk2 hK hwi hag r0 hP4 hk8 (hsn kk hk8).2 (hsn kk hk8).1 hlv hsum hs2 r1 hst c6 hpl c7 hwy (pe_tw (q2 := q2) (gso := gso) hP12 hqv hlv).2 (fun k => absurd c31 k) (fun _ k => absurd c42 k) ?_ ?_ ?_ (fun _ _ _ _ k => absurd hle k) (fun _ _ _ k => absurd hla.2.2 k) (fun _ _ k => absurd c52 k)⟩
    · intro _ _ _ _ _ nz2 hnz2 mz2 hmz2 wz2 hwz2 hns2 e1 e2 e3 i0 hi0 hall c107 c149
      have k1 := (nI_eq (by omega) (by omega)).mp (enz.symm.trans e1)
      have k2 := (nI_eq (by omega) (by omega)).mp (emz.symm.trans e2)
      have k3 := (nI_eq (by omega) (by omega)).mp (ewz.symm.trans e3)
      subst k1; subst k2; subst k3
      have et := pe_vWw (v := v) (P := P) (pl := pl) (wy := wy) (K := Ks j) (wi := wis j) (ag := ags j) (wd := fun z => (git (40 * kk + z)).toNatClampNeg) (wd' := fun z => (gis kk z).toNatClampNeg) hnz.1 (fun z hz => by rw [hgi kk hk8 z (by omega)]) mz
      refine ⟨?_, ⟨oa, ak, tn, tt, fa, nI 0, (up_o (up_o (up_o (up_o (fx_up_s _ _ _) (by omega)) (by omega)) (by omega)) (by omega)), ⟨_, _, _, _, _, _, _, (up_o (fx_up_s _ _ _) (by omega))⟩, rRows_c hRow (fun a ha => (fx_up_n _ _ (by omega)).trans ((fx_up_n _ _ (by omega)).trans ((fx_up_n _ _ (by omega)).trans ((fx_up_n _ _ (by omega)).trans ((fx_up_n _ _ (by omega)).trans (rfl)))))), rTape_c hTap (fun a ha => (fx_up_n _ _ (by omega)).trans ((fx_up_n _ _ (by omega)).trans ((fx_up_n _ _ (by omega)).trans ((fx_up_n _ _ (by omega)).trans ((fx_up_n _ _ (by omega)).trans (rfl)))))), rTrace_c hTrc (fun a ha => (fx_up_n _ _ (by omega)).trans ((fx_up_n _ _ (by omega)).trans ((fx_up_n _ _ (by omega)).trans ((fx_up_n _ _ (by omega)).trans ((fx_up_n _ _ (by omega)).trans (rfl)))))), rMain_c hMai (fun a ha => (fx_up_n _ _ (by omega)).trans ((fx_up_n _ _ (by omega)).trans ((fx_up_n _ _ (by omega)).trans ((fx_up_n _ _ (by omega)).trans ((fx_up_n _ _ (by omega)).trans (rfl)))))), ⟨⟨_, _, _, _, _, _, _, _, (up_o (up_o (up_o (fx_up_s _ _ _) (by omega)) (by omega)) (by omega)), (up_o (up_o (fx_up_s _ _ _) (by omega)) (by omega))⟩, ⟨_, (fx_up_s _ _ _)⟩, _, (up_o (up_o (up_o (up_o (up_o (h_fr) (by omega)) (by omega)) (by omega)) (by omega)) (by omega))⟩, rImg_c hImg (fun a ha => (fx_up_n _ _ (by omega)).trans ((fx_up_n _ _ (by omega)).trans ((fx_up_n _ _ (by omega)).trans ((fx_up_n _ _ (by omega)).trans ((fx_up_n _ _ (by omega)).trans (rfl)))))), rActs_c hAct (fun a ha => (fx_up_n _ _ (by omega)).trans ((fx_up_n _ _ (by omega)).trans ((fx_up_n _ _ (by omega)).trans ((fx_up_n _ _ (by omega)).trans ((fx_up_n _ _ (by omega)).trans (rfl)))))), hsz⟩⟩
      simp only [et]
      rw [Nat.mul_comm (10 ^ mz)]
    · intro _ _ _ _ _ nz2 hnz2 mz2 hmz2 wz2 hwz2 hns2 e1 e2 e3 i0 hi0 hall c107 c149
      have k1 := (nI_eq (by omega) (by omega)).mp (enz.symm.trans e1)
      have k2 := (nI_eq (by omega) (by omega)).mp (emz.symm.trans e2)
      have k3 := (nI_eq (by omega) (by omega)).mp (ewz.symm.trans e3)
      subst k1; subst k2; subst k3
      exact absurd c149 c125
    · intro _ _ _ _ _ nz2 hnz2 mz2 hmz2 wz2 hwz2 hns2 e1 e2 e3 i0 hi0 hall c107 c128
      have k1 := (nI_eq (by omega) (by omega)).mp (enz.symm.trans e1)
      have k2 := (nI_eq (by omega) (by omega)).mp (emz.symm.trans e2)
      have k3 := (nI_eq (by omega) (by omega)).mp (ewz.symm.trans e3)
      subst k1; subst k2; subst k3
      have k4 := c99 i0 c107
      rw [hgi kk hk8 i0 (by omega)] at c128
      rw [Nat.zero_add] at k4
      exact absurd k4 c128
  · intro c31 c42 c52 c64 c81 nz hnz mz hmz wz hwz hns enz emz ewz c99 c125
    have hla := (hml kk hk8).resolve_right (fun k => k.1 c64)
    have hle : n ≤ gma kk := by rw [enz, (hsn kk hk8).2]; exact (nI_leI (by omega) (by omega)).mpr hns
    refine ⟨_, rfl, ⟨_, (up_o (up_o (up_o (h_mo) (by omega)) (by omega)) (by omega))⟩, c_X12_rule_kk (tw := fun wd nz mz => sN (vW v P pl wy wd nz (Ks j) (wis j) (ags j) mz) (P + 1)) (up_o (up_o (up_o (h_mo) (by omega)) (by omega)) (by omega)) (up_o (up_o (up_o (h_rl) (by omega)) (by omega)) (by omega)) (up_o (up_o (up_o (h_li) (by omega)) (by omega)) (by omega)) (up_o (up_o (up_o (h_so) (by omega)) (by omega)) (by omega)) (up_o (up_o (up_o (h_la) (by omega)) (by omega)) (by omega)) (up_o (up_o (up_o (h_ma) (by omega)) (by omega)) (by omega)) (up_o (up_o (up_o (h_it) (by omega)) (by omega)) (by omega)) (by omega) (by omega) (by omega) (by omega) (by omega) (by omega) (by omega) hj htl r5 hk0 hk1 hk2 hK hwi hag r0 hP4 hk8 (hsn kk hk8).2 (hsn kk hk8).1 hlv hsum hs2 r1 hst c6 hpl c7 hwy (pe_tw (q2 := q2) (gso := gso) hP12 hqv hlv).2 (fun k => absurd c31 k) (fun _ k => absurd c42 k) ?_ ?_ ?_ (fun _ _ _ _ k => absurd hle k) (fun _ _ _ k => absurd hla.2.2 k) (fun _ _ k => absurd c52 k)⟩
    · intro _ _ _ _ _ nz2 hnz2 mz2 hmz2 wz2 hwz2 hns2 e1 e2 e3 i0 hi0 hall c107 c149
      have k1 := (nI_eq (by omega) (by omega)).mp (enz.symm.trans e1)
      have k2 := (nI_eq (by omega) (by omega)).mp (emz.symm.trans e2)
      have k3 := (nI_eq (by omega) (by omega)).mp (ewz.symm.trans e3)
      subst k1; subst k2; subst k3
      exact absurd c125 c149
    · intro _ _ _ _ _ nz2 hnz2 mz2 hmz2 wz2 hwz2 hns2 e1 e2 e3 i0 hi0 hall c107 c149 i2 hi2 c165
      have k1 := (nI_eq (by omega) (by omega)).mp (enz.symm.trans e1)
      have k2 := (nI_eq (by omega) (by omega)).mp (emz.symm.trans e2)
      have k3 := (nI_eq (by omega) (by omega)).mp (ewz.symm.trans e3)
      subst k1; subst k2; subst k3
      have k5 : i2 = mz - 1 := by omega
      subst k5
      refine ⟨?_, ⟨oa, ak, tn, tt, fa, nI 0, (up_o (up_o (up_o (fx_up_s _ _ _) (by omega)) (by omega)) (by omega)), ⟨_, _, _, _, _, _, _, (fx_up_s _ _ _)⟩, rRows_c hRow (fun a ha => (fx_up_n _ _ (by omega)).trans ((fx_up_n _ _ (by omega)).trans ((fx_up_n _ _ (by omega)).trans ((fx_up_n _ _ (by omega)).trans (rfl))))), rTape_c hTap (fun a ha => (fx_up_n _ _ (by omega)).trans ((fx_up_n _ _ (by omega)).trans ((fx_up_n _ _ (by omega)).trans ((fx_up_n _ _ (by omega)).trans (rfl))))), rTrace_c hTrc (fun a ha => (fx_up_n _ _ (by omega)).trans ((fx_up_n _ _ (by omega)).trans ((fx_up_n _ _ (by omega)).trans ((fx_up_n _ _ (by omega)).trans (rfl))))), rMain_c hMai (fun a ha => (fx_up_n _ _ (by omega)).trans ((fx_up_n _ _ (by omega)).trans ((fx_up_n _ _ (by omega)).trans ((fx_up_n _ _ (by omega)).trans (rfl))))), ⟨⟨_, _, _, _, _, _, _, _, (up_o (up_o (fx_up_s _ _ _) (by omega)) (by omega)), (up_o (fx_up_s _ _ _) (by omega))⟩, ⟨_, (up_o (up_o (up_o (up_o (h_so) (by omega)) (by omega)) (by omega)) (by omega))⟩, _, (up_o (up_o (up_o (up_o (h_fr) (by omega)) (by omega)) (by omega)) (by omega))⟩, rImg_c hImg (fun a ha => (fx_up_n _ _ (by omega)).trans ((fx_up_n _ _ (by omega)).trans ((fx_up_n _ _ (by omega)).trans ((fx_up_n _ _ (by omega)).trans (rfl))))), rActs_c hAct (fun a ha => (fx_up_n _ _ (by omega)).trans ((fx_up_n _ _ (by omega)).trans ((fx_up_n _ _ (by omega)).trans ((fx_up_n _ _ (by omega)).trans (rfl))))), hsz⟩⟩
      rw [pe_sec hmz.1, r2, pe_rsw (wd := fun z => (git (40 * kk + z)).toNatClampNeg) (wd' := fun z => (gis kk z).toNatClampNeg) hnz.1 (fun z hz => by rw [hgi kk hk8 z (by omega)])]
    · intro _ _ _ _ _ nz2 hnz2 mz2 hmz2 wz2 hwz2 hns2 e1 e2 e3 i0 hi0 hall c107 c128
      have k1 := (nI_eq (by omega) (by omega)).mp (enz.symm.trans e1)
      have k2 := (nI_eq (by omega) (by omega)).mp (emz.symm.trans e2)
      have k3 := (nI_eq (by omega) (by omega)).mp (ewz.symm.trans e3)
      subst k1; subst k2; subst k3
      have k4 := c99 i0 c107
      rw [hgi kk hk8 i0 (by omega)] at c128
      rw [Nat.zero_add] at k4
      exact absurd k4 c128
  · intro c31 c42 c52 c64 c81 nz hnz mz hmz wz hwz hns enz emz ewz c99
    have hla := (hml kk hk8).resolve_right (fun k => k.1 c64)
    have hle : n ≤ gma kk := by rw [enz, (hsn kk hk8).2]; exact (nI_leI (by omega) (by omega)).mpr hns
    have hnot : ∀ i0, (∀ z, z < i0 → ¬ git (40 * kk + z) < nI 0 ∧ ¬ nI 3 < git (40 * kk + z)) → nz ≤ i0 → False := fun i0 hall c107 => c99 (fun z hz => by
      have k3 := hall z (by omega)
      rw [hgi kk hk8 z (by omega)] at k3
      rw [Nat.zero_add]; exact k3)
    refine ⟨_, rfl, ⟨_, h_mo⟩, c_X12_rule_kk (tw := fun wd nz mz => sN (vW v P pl wy wd nz (Ks j) (wis j) (ags j) mz) (P + 1)) (h_mo) (h_rl) (h_li) (h_so) (h_la) (h_ma) (h_it) (by omega) (by omega) (by omega) (by omega) (by omega) (by omega) (by omega) hj htl r5 hk0 hk1 hk2 hK hwi hag r0 hP4 hk8 (hsn kk hk8).2 (hsn kk hk8).1 hlv hsum hs2 r1 hst c6 hpl c7 hwy (pe_tw (q2 := q2) (gso := gso) hP12 hqv hlv).2 (fun k => absurd c31 k) (fun _ k => absurd c42 k) ?_ ?_ (fun _ _ _ _ _ _ _ _ _ _ _ _ _ _ _ _ _ _ _ _ => ⟨rfl, REL_m hR⟩) (fun _ _ _ _ k => absurd hle k) (fun _ _ _ k => absurd hla.2.2 k) (fun _ _ k => absurd c52 k)⟩
    · intro _ _ _ _ _ nz2 hnz2 mz2 hmz2 wz2 hwz2 hns2 e1 e2 e3 i0 hi0 hall c107
      have k1 := (nI_eq (by omega) (by omega)).mp (enz.symm.trans e1)
      have k2 := (nI_eq (by omega) (by omega)).mp (emz.symm.trans e2)
      have k3 := (nI_eq (by omega) (by omega)).mp (ewz.symm.trans e3)
      subst k1; subst k2; subst k3
      exact (hnot i0 hall c107).elim
    · intro _ _ _ _ _ nz2 hnz2 mz2 hmz2 wz2 hwz2 hns2 e1 e2 e3 i0 hi0 hall c107
      have k1 := (nI_eq (by omega) (by omega)).mp (enz.symm.trans e1)
      have k2 := (nI_eq (by omega) (by omega)).mp (emz.symm.trans e2)
      have k3 := (nI_eq (by omega) (by omega)).mp (ewz.symm.trans e3)
      subst k1; subst k2; subst k3
      exact (hnot i0 hall c107).elim
  · intro c31 c42 c52 c64 c81
    have hla := (hml kk hk8).resolve_right (fun k => k.1 c64)
    have hle : ¬ n ≤ gma kk := fun k => by
      obtain ⟨nz, hz1, hz2, rfl⟩ := rng1 (M := 1) (N := 8) (by omega) (by omega) c31
      rw [(hsn kk hk8).2] at k
      have k2 := (nI_leI (by omega) (by omega)).mp k
      exact c81 (hldN (by omega) (by omega) (by omega) (by omega))
    exact ⟨_, rfl, ⟨_, (up_o (h_mo) (by omega))⟩, c_X12_rule_kk (tw := fun wd nz mz => sN (vW v P pl wy wd nz (Ks j) (wis j) (ags j) mz) (P + 1)) (up_o (h_mo) (by omega)) (up_o (h_rl) (by omega)) (up_o (h_li) (by omega)) (up_o (h_so) (by omega)) (up_o (h_la) (by omega)) (up_o (h_ma) (by omega)) (up_o (h_it) (by omega)) (by omega) (by omega) (by omega) (by omega) (by omega) (by omega) (by omega) hj htl r5 hk0 hk1 hk2 hK hwi hag r0 hP4 hk8 (hsn kk hk8).2 (hsn kk hk8).1 hlv hsum hs2 r1 hst c6 hpl c7 hwy (pe_tw (q2 := q2) (gso := gso) hP12 hqv hlv).2 (fun k => absurd c31 k) (fun _ k => absurd c42 k) (fun _ _ _ _ k => absurd k hle) (fun _ _ _ _ k => absurd k hle) (fun _ _ _ _ k => absurd k hle) (fun _ _ _ _ _ => ⟨rfl, REL_xm hR⟩) (fun _ _ _ k => absurd hla.2.2 k) (fun _ _ k => absurd c52 k)⟩
  · intro c31 c42 c52 c64
    have hla : ¬ 0 ≤ gla kk := ((hml kk hk8).resolve_left (fun k => c64 k.1)).2
    exact ⟨_, rfl, ⟨_, (up_o (h_mo) (by omega))⟩, c_X12_rule_kk (tw := fun wd nz mz => sN (vW v P pl wy wd nz (Ks j) (wis j) (ags j) mz) (P + 1)) (up_o (h_mo) (by omega)) (up_o (h_rl) (by omega)) (up_o (h_li) (by omega)) (up_o (h_so) (by omega)) (up_o (h_la) (by omega)) (up_o (h_ma) (by omega)) (up_o (h_it) (by omega)) (by omega) (by omega) (by omega) (by omega) (by omega) (by omega) (by omega) hj htl r5 hk0 hk1 hk2 hK hwi hag r0 hP4 hk8 (hsn kk hk8).2 (hsn kk hk8).1 hlv hsum hs2 r1 hst c6 hpl c7 hwy (pe_tw (q2 := q2) (gso := gso) hP12 hqv hlv).2 (fun k => absurd c31 k) (fun _ k => absurd c42 k) (fun _ _ _ k => absurd k hla) (fun _ _ _ k => absurd k hla) (fun _ _ _ k => absurd k hla) (fun _ _ _ k => absurd k hla) (fun _ _ _ _ => ⟨rfl, REL_xm hR⟩) (fun _ _ k => absurd c52 k)⟩
  · intro c31 c42 c52
    exact ⟨_, rfl, ⟨_, h_mo⟩, c_X12_rule_kk (tw := fun wd nz mz => sN (vW v P pl wy wd nz (Ks j) (wis j) (ags j) mz) (P + 1)) (h_mo) (h_rl) (h_li) (h_so) (h_la) (h_ma) (h_it) (by omega) (by omega) (by omega) (by omega) (by omega) (by omega) (by omega) hj htl r5 hk0 hk1 hk2 hK hwi hag r0 hP4 hk8 (hsn kk hk8).2 (hsn kk hk8).1 hlv hsum hs2 r1 hst c6 hpl c7 hwy (pe_tw (q2 := q2) (gso := gso) hP12 hqv hlv).2 (fun k => absurd c31 k) (fun _ k => absurd c42 k) (fun _ _ k => absurd k c52) (fun _ _ k => absurd k c52) (fun _ _ k => absurd k c52) (fun _ _ k => absurd k c52) (fun _ _ k => absurd k c52) (fun _ _ _ => ⟨rfl, REL_m hR⟩)⟩
set_option maxHeartbeats 4000000 in
set_option maxRecDepth 100000 in
theorem op_search {G : GG} {base : Nat} {l : Launch} {b : Nat} {f : Hp} {sz : Nat} (h : REL b f sz) (sx seed wh : Int32) : opI G base l yX11_search yX12_search cX11_search cX12_search 12 14 rm_X11_search rm_X12_search [.int sx, .int seed, .int wh] b f sz := by
  obtain ⟨oa, ak, tn, tt, fa, fi, hR⟩ := h
  obtain ⟨h_x, ⟨th, cu, sr, tk, va, ft, fA, h_mo⟩, hRow, hTap, hTrc, hMai, hTri, hImg, hAct, hsz⟩ := id hR
  obtain ⟨rho, lam, h_rl, h_li, w, pl, to, lf, wy, se, ta, q, P, wt, ch, sk, st, mi, ri, tl, ov, gw, gc, gs, os, Ks, wis, ags, wn, cvf, v, h_ro, h_k, hLW, hRO⟩ := id hMai
  obtain ⟨⟨h_w, h_wt, h_ch, h_sk⟩, ⟨iw, iwt, ich, isk, hwc⟩, ⟨r0, r1, r2, r3, r4, r5⟩, ⟨hPt, htl, hst, hmi⟩, hwn, hcf, hsk⟩ := id hLW
  have hP12 : P ≤ 12 := LW_P hLW
  by_cases hs : ¬ sx < nI 0 ∧ ¬ (nI tl - nI 1) < sx
  case neg => exact c_X11_search_n h_x h_ro h_w hs ⟨_, rfl, ⟨_, h_mo⟩, c_X12_search_n h_mo h_rl r5 hs ⟨rfl, REL_m hR⟩⟩
  obtain ⟨j, hj, rfl⟩ := rngS (by omega) hs
  obtain ⟨hgo, ios, h_o, hk0, hk1, hk2, hK, hwi, hag⟩ := hsk j hj
  have hP4 : 4 ≤ P ∧ P ≤ 12 := by omega
  obtain ⟨⟨hpl, hto, hlf, hwy⟩, ⟨c6, c7, c8, c9, c10, c11⟩, hta, hq, hsum⟩ := hRO (by omega)

  refine c_X11_search_s h_x h_ro h_w h_sk h_o h_wt h_ch hwc hj htl hgo hK hwi hag hP4 (fun z hz => ⟨(hwn z hz).1, (hwn z hz).2.2⟩) hmi (fun z hz => ⟨(hcf z hz).1, (hcf z hz).2.2⟩) ?_ ?_ ?_ ?_
  · intro ca
    exact ⟨_, rfl, ⟨_, h_mo⟩, c_X12_search_s h_mo h_rl hj htl r5 hk0 hk1 hk2 hK hwi hag r0 hP4 r3 hmi (fun z hz => ⟨(hwn z hz).2.1, (hwn z hz).2.2⟩) (fun z hz => ⟨(hcf z hz).2.1, (hcf z hz).2.2⟩) (fun _ => ⟨rfl, REL_m hR⟩) (fun k => absurd k ca) (fun k => absurd k ca) (fun k => absurd k ca)⟩
  · intro ca cb
    exact ⟨_, rfl, ⟨_, h_mo⟩, c_X12_search_s h_mo h_rl hj htl r5 hk0 hk1 hk2 hK hwi hag r0 hP4 r3 hmi (fun z hz => ⟨(hwn z hz).2.1, (hwn z hz).2.2⟩) (fun z hz => ⟨(hcf z hz).2.1, (hcf z hz).2.2⟩) (fun k => absurd ca k) (fun _ _ => ⟨rfl, REL_m hR⟩) (fun _ k => absurd k cb) (fun _ k => absurd k cb)⟩
  · intro ca cb sd hsd esd hall
    refine ⟨_, rfl, ⟨_, h_mo⟩, c_X12_search_s h_mo h_rl hj htl r5 hk0 hk1 hk2 hK hwi hag r0 hP4 r3 hmi (fun z hz => ⟨(hwn z hz).2.1, (hwn z hz).2.2⟩) (fun z hz => ⟨(hcf z hz).2.1, (hcf z hz).2.2⟩) (fun k => absurd ca k) (fun _ k => absurd cb k) (fun _ _ _ _ _ _ => ⟨rfl, REL_m hR⟩) (fun _ _ s2 h2 w2 hw2 e2 e3 i2 hi2 hall2 hh2 => ?_)⟩
    have k1 := (nI_eq (by omega) (by omega)).mp (esd.symm.trans e2)
    subst k1
    exact absurd hh2 (hall i2 hi2)
  · intro ca cb sd hsd wz hwz esd ewz i1 hi1 hall hh
    refine ⟨_, rfl, ⟨_, h_mo⟩, c_X12_search_s h_mo h_rl hj htl r5 hk0 hk1 hk2 hK hwi hag r0 hP4 r3 hmi (fun z hz => ⟨(hwn z hz).2.1, (hwn z hz).2.2⟩) (fun z hz => ⟨(hcf z hz).2.1, (hcf z hz).2.2⟩) (fun k => absurd ca k) (fun _ k => absurd cb k) (fun _ _ s2 h2 e2 hall2 => ?_) (fun _ _ s2 h2 w2 hw2 e2 e3 i2 hi2 hall2 hh2 => ?_)⟩
    · have k1 := (nI_eq (by omega) (by omega)).mp (esd.symm.trans e2)
      subst k1
      exact absurd hh (hall2 i1 hi1)
    · have k1 := (nI_eq (by omega) (by omega)).mp (esd.symm.trans e2)
      have k2 := (nI_eq (by omega) (by omega)).mp (ewz.symm.trans e3)
      subst k1; subst k2
      have k3 := pe_first (p := fun z => ¬ drN sd (z + 1 + 1) % 10 < (if z % P = pd wn P 0 (drN sd 1 % suN wn mi P) then feN (Ks j) (wis j) (ags j) (nI 1) else cvf (z % P))) hall (fun k => k hh) hall2 (fun k => k hh2)
      subst k3
      exact ⟨rfl, REL_m hR⟩
