/-! ===== calls that ask ===== -/
theorem pe_aM (K : Nat) : 0 + (aMB K).length ≤ 16 := by
  unfold aMB
  split <;> decide
theorem pe_aS (K : Nat) : 0 + (aSB K).length ≤ 16 := by
  unfold aSB
  split <;> decide
set_option maxHeartbeats 4000000 in
set_option maxRecDepth 100000 in
theorem op_seeker {G : GG} {base : Nat} {l : Launch} {b : Nat} {f : Hp} {sz : Nat} (h : REL b f sz) (sx wh : Int32) : opI G base l yX11_seeker yX12_seeker cX11_seeker cX12_seeker 4 3 rm_X11_seeker rm_X12_seeker [.int sx, .int wh] b f sz := by
  obtain ⟨oa, ak, tn, tt, fa, fi, hR⟩ := h
  obtain ⟨h_x, ⟨th, cu, sr, tk, va, ft, fA, h_mo⟩, hRow, hTap, hTrc, hMai, hTri, hImg, hAct, hsz⟩ := id hR
  obtain ⟨rho, lam, h_rl, h_li, w, pl, to, lf, wy, se, ta, q, P, wt, ch, sk, st, mi, ri, tl, ov, gw, gc, gs, os, Ks, wis, ags, wn, cvf, v, h_ro, h_k, hLW, hRO⟩ := id hMai
  obtain ⟨⟨h_w, h_wt, h_ch, h_sk⟩, ⟨iw, iwt, ich, isk, hwc⟩, ⟨r0, r1, r2, r3, r4, r5⟩, ⟨hPt, htl, hst, hmi⟩, hwn, hcf, hsk⟩ := id hLW
  have hP12 : P ≤ 12 := LW_P hLW
  by_cases hs : ¬ sx < nI 0 ∧ ¬ (nI tl - nI 1) < sx
  case neg => exact c_X11_seeker_n h_x h_ro h_w hs ⟨_, rfl, ⟨_, h_mo⟩, c_X12_seeker_n h_mo h_rl r5 hs ⟨rfl, REL_m hR⟩⟩
  obtain ⟨j, hj, rfl⟩ := rngS (by omega) hs
  obtain ⟨hgo, ios, h_o, hk0, hk1, hk2, hK, hwi, hag⟩ := hsk j hj
  have hP4 : 4 ≤ P ∧ P ≤ 12 := by omega
  obtain ⟨⟨hpl, hto, hlf, hwy⟩, ⟨c6, c7, c8, c9, c10, c11⟩, hta, hq, hsum⟩ := hRO (by omega)
  have hb10 : ∀ i, i ≤ P → v i ≤ 9 * 10 ^ 10 := fun i hi => Nat.le_trans (hq i hi).2.2 (Nat.mul_le_mul_left _ (Nat.pow_le_pow_right (by omega) hto))
  have hs2 : sN v (P + 1) ≤ 117 * 10 ^ 10 := by
    have h1 := sN_mul (v := v) (M := 9 * 10 ^ 10) (n := P + 1) (fun i hi => hb10 i (by omega))
    have h2 : (P + 1) * (9 * 10 ^ 10) ≤ 13 * (9 * 10 ^ 10) := Nat.mul_le_mul_right _ (by omega)
    exact Nat.le_trans h1 (Nat.le_trans h2 (Nat.le_of_ble_eq_true rfl))
  have hqv : ∀ i, i ≤ P → q i = lN (v i) := fun i hi => (hq i hi).1
  have hlv : ∀ i, i ≤ P → lam i = lN (v i) := fun i hi => (hq i hi).2.1
  have hq0 : ∀ i, i < P → 0 ≤ q i := fun i hi => by rw [hqv i (by omega)]; exact pe_l0 (by have := hb10 i (by omega); omega)
  have hql : ∀ i, i < P → q i = lam i := fun i hi => (hqv i (by omega)).trans (hlv i (by omega)).symm
  obtain ⟨⟨w2, pl2, wy2, se2, to2, lf2, ta2, q2, h_tr, h_k2⟩, ⟨gso, h_so⟩, gfr, h_fr⟩ := id hTri

  have hnx := pe_nx0 (K := Ks j) (lf := lf) hP4 hpl hwy hta hq0
  have hnr : nxI (Ks j) q pl wy lf ta P = nxR (Ks j) (fJ gso 0 lam 13) pl wy lf ta P := hnx.1.trans (nxR_c (fun i hi => (hql i hi).trans (fJ_c i (by omega)).symm))
  refine c_X11_seeker_k h_x h_ro h_w h_k h_sk h_o hj htl hgo hK hwi hag hP4 hlf ?_ ?_ ?_ ?_ ?_
  · intro s0
    refine ⟨_, rfl, ⟨_, h_mo⟩, c_X12_seeker_k h_mo h_rl h_li h_so (by omega) hj htl r5 hk0 hk1 hk2 hK hwi hag r0 hP4 c6 c10 hlf (fun _ wz hwz e k => absurd ((nI_eq (b := 0) (by omega) (by omega)).mp (e.symm.trans s0)) (by omega)) (fun _ wz hwz e k => absurd ((nI_eq (b := 0) (by omega) (by omega)).mp (e.symm.trans s0)) (by omega)) (fun _ wz hwz e k => ?_) (fun k => absurd (by rw [s0]; exact rng1' (by omega) (by omega) (by omega)) k)⟩
    have hz : wz = 0 := (nI_eq (by omega) (by omega)).mp (e.symm.trans s0)
    subst hz
    exact ⟨by rw [show 36 + 3 * j + (1 + 0) = 36 + 3 * j + 1 from rfl, hk1], REL_m hR⟩
  · intro s0
    refine ⟨_, rfl, ⟨_, h_mo⟩, c_X12_seeker_k h_mo h_rl h_li h_so (by omega) hj htl r5 hk0 hk1 hk2 hK hwi hag r0 hP4 c6 c10 hlf (fun _ wz hwz e k => absurd ((nI_eq (b := 1) (by omega) (by omega)).mp (e.symm.trans s0)) (by omega)) (fun _ wz hwz e k => absurd ((nI_eq (b := 1) (by omega) (by omega)).mp (e.symm.trans s0)) (by omega)) (fun _ wz hwz e k => ?_) (fun k => absurd (by rw [s0]; exact rng1' (by omega) (by omega) (by omega)) k)⟩
    have hz : wz = 1 := (nI_eq (by omega) (by omega)).mp (e.symm.trans s0)
    subst hz
    exact ⟨by rw [show 36 + 3 * j + (1 + 1) = 36 + 3 * j + 2 from rfl, hk2], REL_m hR⟩
  · intro s0
    refine ⟨_, rfl, ⟨_, h_mo⟩, c_X12_seeker_k h_mo h_rl h_li h_so (by omega) hj htl r5 hk0 hk1 hk2 hK hwi hag r0 hP4 c6 c10 hlf (fun _ wz hwz e _ k => absurd ((nI_eq (b := 2) (by omega) (by omega)).mp (e.symm.trans s0)) k) (fun _ wz hwz e _ k => ⟨by rw [c7], REL_m hR⟩) (fun _ wz hwz e k => absurd ((nI_eq (b := 2) (by omega) (by omega)).mp (e.symm.trans s0)) (by omega)) (fun k => absurd (by rw [s0]; exact rng1' (by omega) (by omega) (by omega)) k)⟩
  · intro s0
    refine ⟨_, rfl, ⟨_, h_mo⟩, c_X12_seeker_k h_mo h_rl h_li h_so (by omega) hj htl r5 hk0 hk1 hk2 hK hwi hag r0 hP4 c6 c10 hlf (fun _ wz hwz e _ _ => ?_) (fun _ wz hwz e _ k => absurd ((nI_eq (b := 3) (by omega) (by omega)).mp (e.symm.trans s0)) (by omega)) (fun _ wz hwz e k => absurd ((nI_eq (b := 3) (by omega) (by omega)).mp (e.symm.trans s0)) (by omega)) (fun k => absurd (by rw [s0]; exact rng1' (by omega) (by omega) (by omega)) k)⟩
    rw [c7, c11, ← hnr]
    exact ⟨rfl, ⟨oa, ak, tn, tt, fa, fi, (up_o (up_o (h_x) (by omega)) (by omega)), ⟨_, _, _, _, _, _, _, (up_o (fx_up_s _ _ _) (by omega))⟩, rRows_c hRow (fun a ha => (fx_up_n _ _ (by omega)).trans ((fx_up_n _ _ (by omega)).trans (rfl))), rTape_c hTap (fun a ha => (fx_up_n _ _ (by omega)).trans ((fx_up_n _ _ (by omega)).trans (rfl))), rTrace_c hTrc (fun a ha => (fx_up_n _ _ (by omega)).trans ((fx_up_n _ _ (by omega)).trans (rfl))), rMain_c hMai (fun a ha => (fx_up_n _ _ (by omega)).trans ((fx_up_n _ _ (by omega)).trans (rfl))), ⟨RX_c hTri.1 (fun a ha => (fx_up_n _ _ (by omega)).trans ((fx_up_n _ _ (by omega)).trans (rfl))), ⟨_, (fx_up_s _ _ _)⟩, _, (up_o (up_o (h_fr) (by omega)) (by omega))⟩, rImg_c hImg (fun a ha => (fx_up_n _ _ (by omega)).trans ((fx_up_n _ _ (by omega)).trans (rfl))), rActs_c hAct (fun a ha => (fx_up_n _ _ (by omega)).trans ((fx_up_n _ _ (by omega)).trans (rfl))), hsz⟩⟩
  · intro n0 n1 n2 n3
    have hno : ∀ wz, wz ≤ 3 → wh = nI wz → False := fun wz hwz e => by
      have h4 : wz = 0 ∨ wz = 1 ∨ wz = 2 ∨ wz = 3 := by omega
      rcases h4 with rfl | rfl | rfl | rfl <;> contradiction
    exact ⟨_, rfl, ⟨_, h_mo⟩, c_X12_seeker_k h_mo h_rl h_li h_so (by omega) hj htl r5 hk0 hk1 hk2 hK hwi hag r0 hP4 c6 c10 hlf (fun _ wz hwz e => (hno wz hwz e).elim) (fun _ wz hwz e => (hno wz hwz e).elim) (fun _ wz hwz e => (hno wz hwz e).elim) (fun _ => ⟨rfl, REL_m hR⟩)⟩
set_option maxHeartbeats 4000000 in
set_option maxRecDepth 100000 in
theorem op_likelihood {G : GG} {base : Nat} {l : Launch} {b : Nat} {f : Hp} {sz : Nat} (h : REL b f sz) (pp : Int32) : opJ G base l yX11_likelihood yX12_likelihood cX11_likelihood cX12_likelihood 2 2 rm_X11_likelihood rm_X12_likelihood [.int pp] b f sz := by
  obtain ⟨oa, ak, tn, tt, fa, fi, hR⟩ := h
  obtain ⟨h_x, ⟨th, cu, sr, tk, va, ft, fA, h_mo⟩, hRow, hTap, hTrc, hMai, hTri, hImg, hAct, hsz⟩ := id hR
  obtain ⟨rho, lam, h_rl, h_li, w, pl, to, lf, wy, se, ta, q, P, wt, ch, sk, st, mi, ri, tl, ov, gw, gc, gs, os, Ks, wis, ags, wn, cvf, v, h_ro, h_k, hLW, hRO⟩ := id hMai
  obtain ⟨⟨h_w, h_wt, h_ch, h_sk⟩, ⟨iw, iwt, ich, isk, hwc⟩, ⟨r0, r1, r2, r3, r4, r5⟩, ⟨hPt, htl, hst, hmi⟩, hwn, hcf, hsk⟩ := id hLW
  have hP12 : P ≤ 12 := LW_P hLW

  refine c_X11_likelihood h_x h_ro h_w h_k hP12 ?_ ?_
  · intro c5 px hpx hpe
    obtain ⟨-, -, -, hq, -⟩ := hRO (by omega)
    refine ⟨_, rfl, ⟨_, h_mo⟩, c_X12_likelihood h_mo h_rl h_li r0 hP12 (fun k => absurd (show 0 < P by omega) k) (fun _ k => absurd c5.2 k) (fun _ _ p2 h2 e2 => ?_)⟩
    have k1 := (nI_eq (by omega) (by omega)).mp (hpe.symm.trans e2)
    subst k1
    exact ⟨by rw [(hq px hpx).2.1, (hq px hpx).1], REL_m hR⟩
  · intro c5
    exact ⟨_, rfl, ⟨_, h_mo⟩, c_X12_likelihood h_mo h_rl h_li r0 hP12 (fun _ => ⟨rfl, REL_m hR⟩) (fun _ _ => ⟨rfl, REL_m hR⟩) (fun k1 k2 => absurd ⟨by omega, k2⟩ c5)⟩
set_option maxHeartbeats 4000000 in
set_option maxRecDepth 100000 in
theorem op_likely {G : GG} {base : Nat} {l : Launch} {b : Nat} {f : Hp} {sz : Nat} (h : REL b f sz) (pp wh : Int32) : opJ G base l yX11_likely yX12_likely cX11_likely cX12_likely 3 3 rm_X11_likely rm_X12_likely [.int pp, .int wh] b f sz := by
  obtain ⟨oa, ak, tn, tt, fa, fi, hR⟩ := h
  obtain ⟨h_x, ⟨th, cu, sr, tk, va, ft, fA, h_mo⟩, hRow, hTap, hTrc, hMai, hTri, hImg, hAct, hsz⟩ := id hR
  obtain ⟨rho, lam, h_rl, h_li, w, pl, to, lf, wy, se, ta, q, P, wt, ch, sk, st, mi, ri, tl, ov, gw, gc, gs, os, Ks, wis, ags, wn, cvf, v, h_ro, h_k, hLW, hRO⟩ := id hMai
  obtain ⟨⟨h_w, h_wt, h_ch, h_sk⟩, ⟨iw, iwt, ich, isk, hwc⟩, ⟨r0, r1, r2, r3, r4, r5⟩, ⟨hPt, htl, hst, hmi⟩, hwn, hcf, hsk⟩ := id hLW
  have hP12 : P ≤ 12 := LW_P hLW
  have hn : 0 < P → (∀ i, i ≤ P → q i = lN (v i)) ∧ (∀ i, i ≤ P → lam i = lN (v i)) ∧ 0 < sN v (P + 1) ∧ sN v (P + 1) ≤ 117 * 10 ^ 10 ∧ (∀ i, i < P → 0 ≤ q i) ∧ ∀ i, i < P → q i = lam i := fun hP0 => by
    obtain ⟨⟨hpl, hto, hlf, hwy⟩, -, -, hq, hsum⟩ := hRO hP0
    have hb10 : ∀ i, i ≤ P → v i ≤ 9 * 10 ^ 10 := fun i hi => Nat.le_trans (hq i hi).2.2 (Nat.mul_le_mul_left _ (Nat.pow_le_pow_right (by omega) hto))
    have hs2 : sN v (P + 1) ≤ 117 * 10 ^ 10 := by
      have h1 := sN_mul (v := v) (M := 9 * 10 ^ 10) (n := P + 1) (fun i hi => hb10 i (by omega))
      have h2 : (P + 1) * (9 * 10 ^ 10) ≤ 13 * (9 * 10 ^ 10) := Nat.mul_le_mul_right _ (by omega)
      exact Nat.le_trans h1 (Nat.le_trans h2 (Nat.le_of_ble_eq_true rfl))
    have hqv : ∀ i, i ≤ P → q i = lN (v i) := fun i hi => (hq i hi).1
    have hlv : ∀ i, i ≤ P → lam i = lN (v i) := fun i hi => (hq i hi).2.1
    have hq0 : ∀ i, i < P → 0 ≤ q i := fun i hi => by rw [hqv i (by omega)]; exact pe_l0 (by have := hb10 i (by omega); omega)
    have hql : ∀ i, i < P → q i = lam i := fun i hi => (hqv i (by omega)).trans (hlv i (by omega)).symm
    exact ⟨hqv, hlv, hsum, hs2, hq0, hql⟩

  have mk := fun K1 K2 K3 K4 => c_X12_likely (G := G) (base := base) (l := l) (sz := sz) (pp := pp) (wh := wh) (Po := fun v' f'' sz'' => v' = some (.long (-1000001)) ∧ REL b f'' sz'') h_mo h_rl h_li r0 hP12 (fun k => (hn k).2.1) (fun k => (hn k).2.2.1) (fun k => (hn k).2.2.2.1) K1 K2 K3 K4
  refine c_X11_likely h_x h_ro h_w h_k hP12 (fun k => (hn k).1) (fun k => (hn k).2.2.1) (fun k => (hn k).2.2.2.1) ?_ ?_ ?_
  · intro c5
    exact ⟨_, rfl, ⟨_, h_mo⟩, mk (fun _ => ⟨rfl, REL_m hR⟩) (fun _ _ => ⟨rfl, REL_m hR⟩) (fun k1 k2 => absurd ⟨by omega, k2⟩ c5) (fun k1 k2 => absurd ⟨by omega, k2⟩ c5)⟩
  · intro c5 c14 px hpx hpe wz hwz ewz
    refine ⟨_, rfl, ⟨_, h_mo⟩, c_X12_likely h_mo h_rl h_li r0 hP12 (fun k => (hn k).2.1) (fun k => (hn k).2.2.1) (fun k => (hn k).2.2.2.1) (fun k => absurd (show 0 < P by omega) k) (fun _ k => absurd c5.2 k) (fun _ _ k => absurd c14 k) (fun _ _ _ p2 h2 e2 w2 hw2 e3 => ?_)⟩
    have k1 := (nI_eq (by omega) (by omega)).mp (hpe.symm.trans e2)
    have k2 := (nI_eq (by omega) (by omega)).mp (ewz.symm.trans e3)
    subst k1; subst k2
    exact ⟨rfl, REL_m hR⟩
  · intro c5 c14
    exact ⟨_, rfl, ⟨_, h_mo⟩, mk (fun _ => ⟨rfl, REL_m hR⟩) (fun _ _ => ⟨rfl, REL_m hR⟩) (fun _ _ _ => ⟨rfl, REL_m hR⟩) (fun _ _ k => absurd k c14)⟩
set_option maxHeartbeats 4000000 in
set_option maxRecDepth 100000 in
theorem op_felt {G : GG} {base : Nat} {l : Launch} {b : Nat} {f : Hp} {sz : Nat} (h : REL b f sz) (sx wh : Int32) : opJ G base l yX11_felt yX12_felt cX11_felt cX12_felt 10 6 rm_X11_felt rm_X12_felt [.int sx, .int wh] b f sz := by
  obtain ⟨oa, ak, tn, tt, fa, fi, hR⟩ := h
  obtain ⟨h_x, ⟨th, cu, sr, tk, va, ft, fA, h_mo⟩, hRow, hTap, hTrc, hMai, hTri, hImg, hAct, hsz⟩ := id hR
  obtain ⟨rho, lam, h_rl, h_li, w, pl, to, lf, wy, se, ta, q, P, wt, ch, sk, st, mi, ri, tl, ov, gw, gc, gs, os, Ks, wis, ags, wn, cvf, v, h_ro, h_k, hLW, hRO⟩ := id hMai
  obtain ⟨⟨h_w, h_wt, h_ch, h_sk⟩, ⟨iw, iwt, ich, isk, hwc⟩, ⟨r0, r1, r2, r3, r4, r5⟩, ⟨hPt, htl, hst, hmi⟩, hwn, hcf, hsk⟩ := id hLW
  have hP12 : P ≤ 12 := LW_P hLW
  by_cases hs : ¬ sx < nI 0 ∧ ¬ (nI tl - nI 1) < sx
  case neg => exact c_X11_felt_n h_x h_ro h_w hs ⟨_, rfl, ⟨_, h_mo⟩, c_X12_felt_n h_mo h_rl r5 hs ⟨rfl, REL_m hR⟩⟩
  obtain ⟨j, hj, rfl⟩ := rngS (by omega) hs
  obtain ⟨hgo, ios, h_o, hk0, hk1, hk2, hK, hwi, hag⟩ := hsk j hj
  have hP4 : 4 ≤ P ∧ P ≤ 12 := by omega
  obtain ⟨⟨hpl, hto, hlf, hwy⟩, ⟨c6, c7, c8, c9, c10, c11⟩, hta, hq, hsum⟩ := hRO (by omega)
  have hb10 : ∀ i, i ≤ P → v i ≤ 9 * 10 ^ 10 := fun i hi => Nat.le_trans (hq i hi).2.2 (Nat.mul_le_mul_left _ (Nat.pow_le_pow_right (by omega) hto))
  have hs2 : sN v (P + 1) ≤ 117 * 10 ^ 10 := by
    have h1 := sN_mul (v := v) (M := 9 * 10 ^ 10) (n := P + 1) (fun i hi => hb10 i (by omega))
    have h2 : (P + 1) * (9 * 10 ^ 10) ≤ 13 * (9 * 10 ^ 10) := Nat.mul_le_mul_right _ (by omega)
    exact Nat.le_trans h1 (Nat.le_trans h2 (Nat.le_of_ble_eq_true rfl))
  have hqv : ∀ i, i ≤ P → q i = lN (v i) := fun i hi => (hq i hi).1
  have hlv : ∀ i, i ≤ P → lam i = lN (v i) := fun i hi => (hq i hi).2.1
  have hq0 : ∀ i, i < P → 0 ≤ q i := fun i hi => by rw [hqv i (by omega)]; exact pe_l0 (by have := hb10 i (by omega); omega)
  have hql : ∀ i, i < P → q i = lam i := fun i hi => (hqv i (by omega)).trans (hlv i (by omega)).symm

  refine c_X11_felt_k h_x h_ro h_k h_w h_ch h_sk h_o hj htl hgo hK hwi hag hP4 hpl hqv hsum hs2 (hcf pl hpl).1 (hcf pl hpl).2.2 ?_ ?_
  · intro c16 wz hwz ewz
    refine ⟨_, rfl, ⟨_, h_mo⟩, c_X12_felt_k h_mo h_rl h_li hj htl r5 hk0 hk1 hk2 hK hwi hag r0 hP4 c6 hpl c7 (hcf pl hpl).2.1 (hcf pl hpl).2.2 hlv hsum hs2 (fun _ w2 hw2 e3 i1 hi1 c40 hi1P => ?_) (fun k => absurd c16 k)⟩
    have k2 := (nI_eq (by omega) (by omega)).mp (ewz.symm.trans e3)
    subst k2
    rw [hi1P, pe_felt hpl]
    exact ⟨rfl, REL_m hR⟩
  · intro c16
    exact ⟨_, rfl, ⟨_, h_mo⟩, c_X12_felt_k h_mo h_rl h_li hj htl r5 hk0 hk1 hk2 hK hwi hag r0 hP4 c6 hpl c7 (hcf pl hpl).2.1 (hcf pl hpl).2.2 hlv hsum hs2 (fun k => absurd k c16) (fun _ => ⟨rfl, REL_m hR⟩)⟩
set_option maxHeartbeats 4000000 in
set_option maxRecDepth 100000 in
theorem op_surest {G : GG} {base : Nat} {l : Launch} {b : Nat} {f : Hp} {sz : Nat} (h : REL b f sz)  : opI G base l yX11_surest yX12_surest cX11_surest cX12_surest 1 3 rm_X11_surest rm_X12_surest [] b f sz := by
  obtain ⟨oa, ak, tn, tt, fa, fi, hR⟩ := h
  obtain ⟨h_x, ⟨th, cu, sr, tk, va, ft, fA, h_mo⟩, hRow, hTap, hTrc, hMai, hTri, hImg, hAct, hsz⟩ := id hR
  obtain ⟨rho, lam, h_rl, h_li, w, pl, to, lf, wy, se, ta, q, P, wt, ch, sk, st, mi, ri, tl, ov, gw, gc, gs, os, Ks, wis, ags, wn, cvf, v, h_ro, h_k, hLW, hRO⟩ := id hMai
  obtain ⟨⟨h_w, h_wt, h_ch, h_sk⟩, ⟨iw, iwt, ich, isk, hwc⟩, ⟨r0, r1, r2, r3, r4, r5⟩, ⟨hPt, htl, hst, hmi⟩, hwn, hcf, hsk⟩ := id hLW
  have hP12 : P ≤ 12 := LW_P hLW
  have hn : 0 < P → (∀ i, i ≤ P → q i = lN (v i)) ∧ (∀ i, i ≤ P → lam i = lN (v i)) ∧ 0 < sN v (P + 1) ∧ sN v (P + 1) ≤ 117 * 10 ^ 10 ∧ (∀ i, i < P → 0 ≤ q i) ∧ ∀ i, i < P → q i = lam i := fun hP0 => by
    obtain ⟨⟨hpl, hto, hlf, hwy⟩, -, -, hq, hsum⟩ := hRO hP0
    have hb10 : ∀ i, i ≤ P → v i ≤ 9 * 10 ^ 10 := fun i hi => Nat.le_trans (hq i hi).2.2 (Nat.mul_le_mul_left _ (Nat.pow_le_pow_right (by omega) hto))
    have hs2 : sN v (P + 1) ≤ 117 * 10 ^ 10 := by
      have h1 := sN_mul (v := v) (M := 9 * 10 ^ 10) (n := P + 1) (fun i hi => hb10 i (by omega))
      have h2 : (P + 1) * (9 * 10 ^ 10) ≤ 13 * (9 * 10 ^ 10) := Nat.mul_le_mul_right _ (by omega)
      exact Nat.le_trans h1 (Nat.le_trans h2 (Nat.le_of_ble_eq_true rfl))
    have hqv : ∀ i, i ≤ P → q i = lN (v i) := fun i hi => (hq i hi).1
    have hlv : ∀ i, i ≤ P → lam i = lN (v i) := fun i hi => (hq i hi).2.1
    have hq0 : ∀ i, i < P → 0 ≤ q i := fun i hi => by rw [hqv i (by omega)]; exact pe_l0 (by have := hb10 i (by omega); omega)
    have hql : ∀ i, i < P → q i = lam i := fun i hi => (hqv i (by omega)).trans (hlv i (by omega)).symm
    exact ⟨hqv, hlv, hsum, hs2, hq0, hql⟩

  refine c_X11_surest h_x h_ro h_k h_w hP12 ?_ ?_
  · intro c4
    have hn := hn (by omega)
    refine ⟨_, rfl, ⟨_, h_mo⟩, c_X12_surest h_mo h_rl h_li r0 hP12 (fun _ i1 h1 h2 c26 => ?_) (fun k => absurd (show 0 < P by omega) k)⟩
    have k1 : i1 = P := by omega
    subst k1
    rw [pe_surest (q' := lam) (by omega) hn.2.2.2.2.1 hn.2.2.2.2.2]
    exact ⟨rfl, REL_m hR⟩
  · intro c4
    exact ⟨_, rfl, ⟨_, h_mo⟩, c_X12_surest h_mo h_rl h_li r0 hP12 (fun k => absurd k (by omega)) (fun _ => ⟨rfl, REL_m hR⟩)⟩
set_option maxHeartbeats 4000000 in
set_option maxRecDepth 100000 in
theorem op_mean {G : GG} {base : Nat} {l : Launch} {b : Nat} {f : Hp} {sz : Nat} (h : REL b f sz) (sx pp wr n wh : Int32) : opJ G base l yX11_mean yX12_mean cX11_mean cX12_mean 7 6 rm_X11_mean rm_X12_mean [.int sx, .int pp, .int wr, .int n, .int wh] b f sz := by
  obtain ⟨oa, ak, tn, tt, fa, fi, hR⟩ := h
  obtain ⟨h_x, ⟨th, cu, sr, tk, va, ft, fA, h_mo⟩, hRow, hTap, hTrc, hMai, hTri, hImg, hAct, hsz⟩ := id hR
  obtain ⟨rho, lam, h_rl, h_li, w, pl, to, lf, wy, se, ta, q, P, wt, ch, sk, st, mi, ri, tl, ov, gw, gc, gs, os, Ks, wis, ags, wn, cvf, v, h_ro, h_k, hLW, hRO⟩ := id hMai
  obtain ⟨⟨h_w, h_wt, h_ch, h_sk⟩, ⟨iw, iwt, ich, isk, hwc⟩, ⟨r0, r1, r2, r3, r4, r5⟩, ⟨hPt, htl, hst, hmi⟩, hwn, hcf, hsk⟩ := id hLW
  have hP12 : P ≤ 12 := LW_P hLW
  by_cases hs : ¬ sx < nI 0 ∧ ¬ (nI tl - nI 1) < sx
  case neg => exact c_X11_mean_n h_x h_ro h_w hs ⟨_, rfl, ⟨_, h_mo⟩, c_X12_mean_n h_mo h_rl r5 hs ⟨rfl, REL_m hR⟩⟩
  obtain ⟨j, hj, rfl⟩ := rngS (by omega) hs
  obtain ⟨hgo, ios, h_o, hk0, hk1, hk2, hK, hwi, hag⟩ := hsk j hj
  have hP4 : 4 ≤ P ∧ P ≤ 12 := by omega
  obtain ⟨⟨hpl, hto, hlf, hwy⟩, ⟨c6, c7, c8, c9, c10, c11⟩, hta, hq, hsum⟩ := hRO (by omega)
  have hb10 : ∀ i, i ≤ P → v i ≤ 9 * 10 ^ 10 := fun i hi => Nat.le_trans (hq i hi).2.2 (Nat.mul_le_mul_left _ (Nat.pow_le_pow_right (by omega) hto))
  have hs2 : sN v (P + 1) ≤ 117 * 10 ^ 10 := by
    have h1 := sN_mul (v := v) (M := 9 * 10 ^ 10) (n := P + 1) (fun i hi => hb10 i (by omega))
    have h2 : (P + 1) * (9 * 10 ^ 10) ≤ 13 * (9 * 10 ^ 10) := Nat.mul_le_mul_right _ (by omega)
    exact Nat.le_trans h1 (Nat.le_trans h2 (Nat.le_of_ble_eq_true rfl))
  have hqv : ∀ i, i ≤ P → q i = lN (v i) := fun i hi => (hq i hi).1
  have hlv : ∀ i, i ≤ P → lam i = lN (v i) := fun i hi => (hq i hi).2.1
  have hq0 : ∀ i, i < P → 0 ≤ q i := fun i hi => by rw [hqv i (by omega)]; exact pe_l0 (by have := hb10 i (by omega); omega)
  have hql : ∀ i, i < P → q i = lam i := fun i hi => (hqv i (by omega)).trans (hlv i (by omega)).symm
  have hme : ∀ n fr wr, fr < P → soA q P st (feN (Ks j) (wis j) (ags j) wr) n fr wr P = lN (soN v P st (feN (Ks j) (wis j) (ags j) wr) n fr wr P) ∧ moA lam P st (feN (Ks j) (wis j) (ags j) wr) n fr wr P = lN (soN v P st (feN (Ks j) (wis j) (ags j) wr) n fr wr P) := fun n fr wr hf => pe_mean ⟨by omega, by omega⟩ hf hqv hlv

  refine c_X11_mean_k (ss := fun n fr wr => soN v P st (feN (Ks j) (wis j) (ags j) wr) n fr wr P) h_x h_ro h_k h_w h_sk h_o hj htl hgo hK hwi hag hP4 hqv hsum hs2 hst (fun n fr wr h1 h2 h3 _ => ⟨(hme n fr wr h3).1, pe_soL hst (feN_le hwi hag) ⟨by omega, by omega⟩ ⟨h1, h2⟩ hb10⟩) ?_ ?_ ?_ ?_ ?_
  · intro c17
    exact ⟨_, rfl, ⟨_, h_mo⟩, c_X12_mean_k (ss := fun n fr wr => soN v P st (feN (Ks j) (wis j) (ags j) wr) n fr wr P) h_mo h_rl h_li hj htl r5 hk0 hk1 hk2 hK hwi hag r0 hP4 hlv hsum hs2 r1 hst (fun n fr wr h1 h2 h3 _ => ⟨(hme n fr wr h3).2, pe_soL hst (feN_le hwi hag) ⟨by omega, by omega⟩ ⟨h1, h2⟩ hb10⟩) (fun _ => ⟨rfl, REL_m hR⟩) (fun k => absurd k c17) (fun k => absurd k c17) (fun k => absurd k c17) (fun k => absurd k c17)⟩
  · intro c17 c24
    exact ⟨_, rfl, ⟨_, h_mo⟩, c_X12_mean_k (ss := fun n fr wr => soN v P st (feN (Ks j) (wis j) (ags j) wr) n fr wr P) h_mo h_rl h_li hj htl r5 hk0 hk1 hk2 hK hwi hag r0 hP4 hlv hsum hs2 r1 hst (fun n fr wr h1 h2 h3 _ => ⟨(hme n fr wr h3).2, pe_soL hst (feN_le hwi hag) ⟨by omega, by omega⟩ ⟨h1, h2⟩ hb10⟩) (fun k => absurd c17 k) (fun _ _ => ⟨rfl, REL_m hR⟩) (fun _ k => absurd k c24) (fun _ k => absurd k c24) (fun _ k => absurd k c24)⟩
  · intro c17 c24 c34
    exact ⟨_, rfl, ⟨_, h_mo⟩, c_X12_mean_k (ss := fun n fr wr => soN v P st (feN (Ks j) (wis j) (ags j) wr) n fr wr P) h_mo h_rl h_li hj htl r5 hk0 hk1 hk2 hK hwi hag r0 hP4 hlv hsum hs2 r1 hst (fun n fr wr h1 h2 h3 _ => ⟨(hme n fr wr h3).2, pe_soL hst (feN_le hwi hag) ⟨by omega, by omega⟩ ⟨h1, h2⟩ hb10⟩) (fun k => absurd c17 k) (fun _ k => absurd c24 k) (fun _ _ _ => ⟨rfl, REL_m hR⟩) (fun _ _ k => absurd k c34) (fun _ _ k => absurd k c34)⟩
  · intro c17 c24 c34 c44 px hpx hpe nz hnz hnz2 hne wz hwz ewz
    refine ⟨_, rfl, ⟨_, h_mo⟩, c_X12_mean_k (ss := fun n fr wr => soN v P st (feN (Ks j) (wis j) (ags j) wr) n fr wr P) h_mo h_rl h_li hj htl r5 hk0 hk1 hk2 hK hwi hag r0 hP4 hlv hsum hs2 r1 hst (fun n fr wr h1 h2 h3 _ => ⟨(hme n fr wr h3).2, pe_soL hst (feN_le hwi hag) ⟨by omega, by omega⟩ ⟨h1, h2⟩ hb10⟩) (fun k => absurd c17 k) (fun _ k => absurd c24 k) (fun _ _ k => absurd c34 k) (fun _ _ _ _ p2 h2 e2 n2 h3 h4 e3 w2 h5 e4 => ?_) (fun _ _ _ k => absurd c44 k)⟩
    have k1 := (nI_eq (by omega) (by omega)).mp (hpe.symm.trans e2)
    have k2 := (nI_eq (by omega) (by omega)).mp (hne.symm.trans e3)
    have k3 := (nI_eq (by omega) (by omega)).mp (ewz.symm.trans e4)
    subst k1; subst k2; subst k3
    rw [Nat.mul_comm (10 ^ nz)]
    exact ⟨rfl, REL_m hR⟩
  · intro c17 c24 c34 c44
    exact ⟨_, rfl, ⟨_, h_mo⟩, c_X12_mean_k (ss := fun n fr wr => soN v P st (feN (Ks j) (wis j) (ags j) wr) n fr wr P) h_mo h_rl h_li hj htl r5 hk0 hk1 hk2 hK hwi hag r0 hP4 hlv hsum hs2 r1 hst (fun n fr wr h1 h2 h3 _ => ⟨(hme n fr wr h3).2, pe_soL hst (feN_le hwi hag) ⟨by omega, by omega⟩ ⟨h1, h2⟩ hb10⟩) (fun k => absurd c17 k) (fun _ k => absurd c24 k) (fun _ _ k => absurd c34 k) (fun _ _ _ k => absurd k c44) (fun _ _ _ _ => ⟨rfl, REL_m hR⟩)⟩
set_option maxHeartbeats 4000000 in
set_option maxRecDepth 100000 in
theorem op_begin {G : GG} {base : Nat} {l : Launch} {b : Nat} {f : Hp} {sz : Nat} (h : REL b f sz) (sx n : Int32) : opI G base l yX11_begin yX12_begin cX11_begin cX12_begin 10 9 rm_X11_begin rm_X12_begin [.int sx, .int n] b f sz := by
  obtain ⟨oa, ak, tn, tt, fa, fi, hR⟩ := h
  obtain ⟨h_x, ⟨th, cu, sr, tk, va, ft, fA, h_mo⟩, hRow, hTap, hTrc, hMai, hTri, hImg, hAct, hsz⟩ := id hR
  obtain ⟨rho, lam, h_rl, h_li, w, pl, to, lf, wy, se, ta, q, P, wt, ch, sk, st, mi, ri, tl, ov, gw, gc, gs, os, Ks, wis, ags, wn, cvf, v, h_ro, h_k, hLW, hRO⟩ := id hMai
  obtain ⟨⟨h_w, h_wt, h_ch, h_sk⟩, ⟨iw, iwt, ich, isk, hwc⟩, ⟨r0, r1, r2, r3, r4, r5⟩, ⟨hPt, htl, hst, hmi⟩, hwn, hcf, hsk⟩ := id hLW
  have hP12 : P ≤ 12 := LW_P hLW
  by_cases hs : ¬ sx < nI 0 ∧ ¬ (nI tl - nI 1) < sx
  case neg => exact c_X11_begin_n h_x h_ro h_w hs ⟨_, rfl, ⟨_, h_mo⟩, c_X12_begin_n h_mo h_rl r5 hs ⟨rfl, REL_m hR⟩⟩
  obtain ⟨j, hj, rfl⟩ := rngS (by omega) hs
  obtain ⟨hgo, ios, h_o, hk0, hk1, hk2, hK, hwi, hag⟩ := hsk j hj
  have hP4 : 4 ≤ P ∧ P ≤ 12 := by omega
  obtain ⟨⟨hpl, hto, hlf, hwy⟩, ⟨c6, c7, c8, c9, c10, c11⟩, hta, hq, hsum⟩ := hRO (by omega)
  have hb10 : ∀ i, i ≤ P → v i ≤ 9 * 10 ^ 10 := fun i hi => Nat.le_trans (hq i hi).2.2 (Nat.mul_le_mul_left _ (Nat.pow_le_pow_right (by omega) hto))
  have hs2 : sN v (P + 1) ≤ 117 * 10 ^ 10 := by
    have h1 := sN_mul (v := v) (M := 9 * 10 ^ 10) (n := P + 1) (fun i hi => hb10 i (by omega))
    have h2 : (P + 1) * (9 * 10 ^ 10) ≤ 13 * (9 * 10 ^ 10) := Nat.mul_le_mul_right _ (by omega)
    exact Nat.le_trans h1 (Nat.le_trans h2 (Nat.le_of_ble_eq_true rfl))
  have hqv : ∀ i, i ≤ P → q i = lN (v i) := fun i hi => (hq i hi).1
  have hlv : ∀ i, i ≤ P → lam i = lN (v i) := fun i hi => (hq i hi).2.1
  have hq0 : ∀ i, i < P → 0 ≤ q i := fun i hi => by rw [hqv i (by omega)]; exact pe_l0 (by have := hb10 i (by omega); omega)
  have hql : ∀ i, i < P → q i = lam i := fun i hi => (hqv i (by omega)).trans (hlv i (by omega)).symm
  have hme : ∀ n fr wr, fr < P → soA q P st (feN (Ks j) (wis j) (ags j) wr) n fr wr P = lN (soN v P st (feN (Ks j) (wis j) (ags j) wr) n fr wr P) ∧ moA lam P st (feN (Ks j) (wis j) (ags j) wr) n fr wr P = lN (soN v P st (feN (Ks j) (wis j) (ags j) wr) n fr wr P) := fun n fr wr hf => pe_mean ⟨by omega, by omega⟩ hf hqv hlv

  refine c_X11_begin_k h_x h_ro h_k h_w h_sk h_o hj htl hgo hK hwi hag hP4 hst ?_ ?_
  · intro c16 nz hnz hnz2 enz i1 hi1 hi2 c55
    refine ⟨_, rfl, ⟨_, h_mo⟩, c_X12_begin_k h_mo h_rl h_li hj htl r5 hk0 hk1 hk2 hK hwi hag r0 hP4 r1 hst (fun _ n2 h3 h4 e3 i2 h5 c47 => ?_) (fun k => absurd c16 k)⟩
    have k2 := (nI_eq (by omega) (by omega)).mp (enz.symm.trans e3)
    subst k2
    have k3 : i1 = 2 * P := by omega
    obtain ⟨m, hm⟩ : ∃ m, i2 = m + 1 := ⟨i2 - 1, by omega⟩
    subst k3
    rw [hm, show 2 * P - 1 = m from (by omega)]
    refine ⟨?_, REL_m hR⟩
    show some (Value.int (nI (bgS _ m).1)) = _
    rw [pe_bg (m' := fun k_ => soA q P st (feN (Ks j) (wis j) (ags j) (if k_ % 2 = 0 then nI 1 else -1)) nz (k_ / 2) (if k_ % 2 = 0 then nI 1 else -1) P) (fun i hi => by
      have hf : i / 2 < P := by omega
      show moA lam P st _ nz (i / 2) _ P = soA q P st _ nz (i / 2) _ P
      rw [(hme nz (i / 2) _ hf).1, (hme nz (i / 2) _ hf).2])]
  · intro c16
    exact ⟨_, rfl, ⟨_, h_mo⟩, c_X12_begin_k h_mo h_rl h_li hj htl r5 hk0 hk1 hk2 hK hwi hag r0 hP4 r1 hst (fun k => absurd k c16) (fun _ => ⟨rfl, REL_m hR⟩)⟩
set_option maxHeartbeats 4000000 in
set_option maxRecDepth 100000 in
theorem op_noEnd {G : GG} {base : Nat} {l : Launch} {b : Nat} {f : Hp} {sz : Nat} (h : REL b f sz) (sx wr aq : Int32) : opI G base l yX11_noEnd yX12_noEnd cX11_noEnd cX12_noEnd 11 9 rm_X11_noEnd rm_X12_noEnd [.int sx, .int wr, .int aq] b f sz := by
  obtain ⟨oa, ak, tn, tt, fa, fi, hR⟩ := h
  obtain ⟨h_x, ⟨th, cu, sr, tk, va, ft, fA, h_mo⟩, hRow, hTap, hTrc, hMai, hTri, hImg, hAct, hsz⟩ := id hR
  obtain ⟨rho, lam, h_rl, h_li, w, pl, to, lf, wy, se, ta, q, P, wt, ch, sk, st, mi, ri, tl, ov, gw, gc, gs, os, Ks, wis, ags, wn, cvf, v, h_ro, h_k, hLW, hRO⟩ := id hMai
  obtain ⟨⟨h_w, h_wt, h_ch, h_sk⟩, ⟨iw, iwt, ich, isk, hwc⟩, ⟨r0, r1, r2, r3, r4, r5⟩, ⟨hPt, htl, hst, hmi⟩, hwn, hcf, hsk⟩ := id hLW
  have hP12 : P ≤ 12 := LW_P hLW
  by_cases hs : ¬ sx < nI 0 ∧ ¬ (nI tl - nI 1) < sx
  case neg => exact c_X11_noEnd_n h_x h_ro h_w hs ⟨_, rfl, ⟨_, h_mo⟩, c_X12_noEnd_n h_mo h_rl r5 hs ⟨rfl, REL_m hR⟩⟩
  obtain ⟨j, hj, rfl⟩ := rngS (by omega) hs
  obtain ⟨hgo, ios, h_o, hk0, hk1, hk2, hK, hwi, hag⟩ := hsk j hj
  have hP4 : 4 ≤ P ∧ P ≤ 12 := by omega
  obtain ⟨⟨hpl, hto, hlf, hwy⟩, ⟨c6, c7, c8, c9, c10, c11⟩, hta, hq, hsum⟩ := hRO (by omega)
  have hb10 : ∀ i, i ≤ P → v i ≤ 9 * 10 ^ 10 := fun i hi => Nat.le_trans (hq i hi).2.2 (Nat.mul_le_mul_left _ (Nat.pow_le_pow_right (by omega) hto))
  have hs2 : sN v (P + 1) ≤ 117 * 10 ^ 10 := by
    have h1 := sN_mul (v := v) (M := 9 * 10 ^ 10) (n := P + 1) (fun i hi => hb10 i (by omega))
    have h2 : (P + 1) * (9 * 10 ^ 10) ≤ 13 * (9 * 10 ^ 10) := Nat.mul_le_mul_right _ (by omega)
    exact Nat.le_trans h1 (Nat.le_trans h2 (Nat.le_of_ble_eq_true rfl))
  have hqv : ∀ i, i ≤ P → q i = lN (v i) := fun i hi => (hq i hi).1
  have hlv : ∀ i, i ≤ P → lam i = lN (v i) := fun i hi => (hq i hi).2.1
  have hq0 : ∀ i, i < P → 0 ≤ q i := fun i hi => by rw [hqv i (by omega)]; exact pe_l0 (by have := hb10 i (by omega); omega)
  have hql : ∀ i, i < P → q i = lam i := fun i hi => (hqv i (by omega)).trans (hlv i (by omega)).symm

  have eS : sJ q (P + 1) = sJ lam (P + 1) := pe_sJ (fun i hi => (hqv i (by omega)).trans (hlv i (by omega)).symm)
  have eP : q P = lam P := (hqv P (Nat.le_refl _)).trans (hlv P (Nat.le_refl _)).symm
  refine c_X11_noEnd_k h_x h_ro h_k h_w h_sk h_o hj htl hgo hK hwi hag hP4 ?_ ?_ ?_ ?_
  · intro c16
    exact ⟨_, rfl, ⟨_, h_mo⟩, c_X12_noEnd_k h_mo h_rl h_li hj htl r5 hk0 hk1 hk2 hK hwi hag r0 hP4 (fun _ => ⟨rfl, REL_m hR⟩) (fun k => absurd k c16) (fun k => absurd k c16) (fun k => absurd k c16)⟩
  · intro c16 c26 az haz eaz i1 hi1 hall c81
    rw [eS, eP] at hall
    refine ⟨_, rfl, ⟨_, h_mo⟩, c_X12_noEnd_k h_mo h_rl h_li hj htl r5 hk0 hk1 hk2 hK hwi hag r0 hP4 (fun k => absurd c16 k) (fun _ _ _ _ _ _ _ _ _ => ⟨rfl, REL_m hR⟩) (fun _ _ a2 h2 e2 i2 h3 hall2 c72 c90 => ?_) (fun _ k => absurd c26 k)⟩
    have k2 := (nI_eq (by omega) (by omega)).mp (eaz.symm.trans e2)
    subst k2
    have k := hall i2 (by omega)
    rw [Int64.mul_comm (lN az), Int64.mul_comm (lN 100)] at k
    exact absurd k c90
  · intro c16 c26 az haz eaz i1 hi1 hall c81 c99
    rw [eS, eP] at hall c99
    rw [Int64.mul_comm (lN az), Int64.mul_comm (lN 100)] at c99
    refine ⟨_, rfl, ⟨_, h_mo⟩, c_X12_noEnd_k h_mo h_rl h_li hj htl r5 hk0 hk1 hk2 hK hwi hag r0 hP4 (fun k => absurd c16 k) (fun _ _ a2 h2 e2 i2 h3 hall2 c72 => ?_) (fun _ _ a2 h2 e2 i2 h3 hall2 c72 c90 => ?_) (fun _ k => absurd c26 k)⟩
    · have k2 := (nI_eq (by omega) (by omega)).mp (eaz.symm.trans e2)
      subst k2
      exact absurd (hall2 i1 (by omega)) c99
    · have k2 := (nI_eq (by omega) (by omega)).mp (eaz.symm.trans e2)
      subst k2
      have k3 := pe_first (p := fun z => ((neS (sJ lam (P + 1) - lam P) (lam P) (10 - feN (Ks j) (wis j) (ags j) wr) z).1 + (neS (sJ lam (P + 1) - lam P) (lam P) (10 - feN (Ks j) (wis j) (ags j) wr) z).2) * lN az < (neS (sJ lam (P + 1) - lam P) (lam P) (10 - feN (Ks j) (wis j) (ags j) wr) z).1 * lN 100) (fun z hz => by have k := hall z hz; rw [Int64.mul_comm (lN az), Int64.mul_comm (lN 100)] at k; exact k) c99 hall2 c90
      rw [k3]
      exact ⟨rfl, REL_m hR⟩
  · intro c16 c26
    exact ⟨_, rfl, ⟨_, h_mo⟩, c_X12_noEnd_k h_mo h_rl h_li hj htl r5 hk0 hk1 hk2 hK hwi hag r0 hP4 (fun k => absurd c16 k) (fun _ k => absurd k c26) (fun _ k => absurd k c26) (fun _ _ => ⟨rfl, REL_m hR⟩)⟩
set_option maxHeartbeats 4000000 in
set_option maxRecDepth 100000 in
theorem op_pays {G : GG} {base : Nat} {l : Launch} {b : Nat} {f : Hp} {sz : Nat} (h : REL b f sz) (sx ff : Int32) : opI G base l yX11_pays yX12_pays cX11_pays cX12_pays 9 8 rm_X11_pays rm_X12_pays [.int sx, .int ff] b f sz := by
  obtain ⟨oa, ak, tn, tt, fa, fi, hR⟩ := h
  obtain ⟨h_x, ⟨th, cu, sr, tk, va, ft, fA, h_mo⟩, hRow, hTap, hTrc, hMai, hTri, hImg, hAct, hsz⟩ := id hR
  obtain ⟨rho, lam, h_rl, h_li, w, pl, to, lf, wy, se, ta, q, P, wt, ch, sk, st, mi, ri, tl, ov, gw, gc, gs, os, Ks, wis, ags, wn, cvf, v, h_ro, h_k, hLW, hRO⟩ := id hMai
  obtain ⟨⟨h_w, h_wt, h_ch, h_sk⟩, ⟨iw, iwt, ich, isk, hwc⟩, ⟨r0, r1, r2, r3, r4, r5⟩, ⟨hPt, htl, hst, hmi⟩, hwn, hcf, hsk⟩ := id hLW
  have hP12 : P ≤ 12 := LW_P hLW
  by_cases hs : ¬ sx < nI 0 ∧ ¬ (nI tl - nI 1) < sx
  case neg => exact c_X11_pays_n h_x h_ro h_w hs ⟨_, rfl, ⟨_, h_mo⟩, c_X12_pays_n h_mo h_rl r5 hs ⟨rfl, REL_m hR⟩⟩
  obtain ⟨j, hj, rfl⟩ := rngS (by omega) hs
  obtain ⟨hgo, ios, h_o, hk0, hk1, hk2, hK, hwi, hag⟩ := hsk j hj
  have hP4 : 4 ≤ P ∧ P ≤ 12 := by omega
  obtain ⟨⟨hpl, hto, hlf, hwy⟩, ⟨c6, c7, c8, c9, c10, c11⟩, hta, hq, hsum⟩ := hRO (by omega)
  have hb10 : ∀ i, i ≤ P → v i ≤ 9 * 10 ^ 10 := fun i hi => Nat.le_trans (hq i hi).2.2 (Nat.mul_le_mul_left _ (Nat.pow_le_pow_right (by omega) hto))
  have hs2 : sN v (P + 1) ≤ 117 * 10 ^ 10 := by
    have h1 := sN_mul (v := v) (M := 9 * 10 ^ 10) (n := P + 1) (fun i hi => hb10 i (by omega))
    have h2 : (P + 1) * (9 * 10 ^ 10) ≤ 13 * (9 * 10 ^ 10) := Nat.mul_le_mul_right _ (by omega)
    exact Nat.le_trans h1 (Nat.le_trans h2 (Nat.le_of_ble_eq_true rfl))
  have hqv : ∀ i, i ≤ P → q i = lN (v i) := fun i hi => (hq i hi).1
  have hlv : ∀ i, i ≤ P → lam i = lN (v i) := fun i hi => (hq i hi).2.1
  have hq0 : ∀ i, i < P → 0 ≤ q i := fun i hi => by rw [hqv i (by omega)]; exact pe_l0 (by have := hb10 i (by omega); omega)
  have hql : ∀ i, i < P → q i = lam i := fun i hi => (hqv i (by omega)).trans (hlv i (by omega)).symm
  have hme : ∀ n fr wr, fr < P → soA q P st (feN (Ks j) (wis j) (ags j) wr) n fr wr P = lN (soN v P st (feN (Ks j) (wis j) (ags j) wr) n fr wr P) ∧ moA lam P st (feN (Ks j) (wis j) (ags j) wr) n fr wr P = lN (soN v P st (feN (Ks j) (wis j) (ags j) wr) n fr wr P) := fun n fr wr hf => pe_mean ⟨by omega, by omega⟩ hf hqv hlv

  have eS : sJ q (P + 1) = sJ lam (P + 1) := pe_sJ (fun i hi => (hqv i (by omega)).trans (hlv i (by omega)).symm)
  have eM : soA q P st (feN (Ks j) (wis j) (ags j) (nI 1)) 1 0 (nI 1) P = moA lam P st (feN (Ks j) (wis j) (ags j) (nI 1)) 1 0 (nI 1) P := (hme 1 0 (nI 1) (by omega)).1.trans (hme 1 0 (nI 1) (by omega)).2.symm
  refine c_X11_pays_k h_x h_ro h_k h_w h_sk h_o hj htl hgo hK hwi hag hP4 hst ?_ ?_ ?_
  · intro c17 fz hfz efz i1 hi1 hall c59
    rw [eS, eM] at hall
    refine ⟨_, rfl, ⟨_, h_mo⟩, c_X12_pays_k h_mo h_rl h_li hj htl r5 hk0 hk1 hk2 hK hwi hag r0 hP4 r1 hst (fun _ _ _ _ _ _ _ _ => ⟨rfl, REL_m hR⟩) (fun _ a2 h2 e2 i2 h3 hall2 c72 c90 => ?_) (fun k => absurd c17 k)⟩
    have k2 := (nI_eq (by omega) (by omega)).mp (efz.symm.trans e2)
    subst k2
    exact absurd (hall i2 (by omega)) c90
  · intro c17 fz hfz efz i1 hi1 hall c59 c74
    rw [eS, eM] at hall c74
    refine ⟨_, rfl, ⟨_, h_mo⟩, c_X12_pays_k h_mo h_rl h_li hj htl r5 hk0 hk1 hk2 hK hwi hag r0 hP4 r1 hst (fun _ a2 h2 e2 i2 h3 hall2 c72 => ?_) (fun _ a2 h2 e2 i2 h3 hall2 c72 c90 => ?_) (fun k => absurd c17 k)⟩
    · have k2 := (nI_eq (by omega) (by omega)).mp (efz.symm.trans e2)
      subst k2
      exact absurd (hall2 i1 (by omega)) c74
    · have k2 := (nI_eq (by omega) (by omega)).mp (efz.symm.trans e2)
      subst k2
      have k3 := pe_first (p := fun z => lN z * (moA lam P st (feN (Ks j) (wis j) (ags j) (nI 1)) 1 0 (nI 1) P - lN 10 * sJ lam (P + 1)) < lN fz * (lN 10 * sJ lam (P + 1))) hall c74 hall2 c90
      rw [k3]
      exact ⟨rfl, REL_m hR⟩
  · intro c17
    exact ⟨_, rfl, ⟨_, h_mo⟩, c_X12_pays_k h_mo h_rl h_li hj htl r5 hk0 hk1 hk2 hK hwi hag r0 hP4 r1 hst (fun k => absurd k c17) (fun k => absurd k c17) (fun _ => ⟨rfl, REL_m hR⟩)⟩
set_option maxHeartbeats 4000000 in
set_option maxRecDepth 100000 in
theorem op_kind {G : GG} {base : Nat} {l : Launch} {b : Nat} {f : Hp} {sz : Nat} (h : REL b f sz) (sx : Int32) : opI G base l yX11_kind yX12_kind cX11_kind cX12_kind 3 2 rm_X11_kind rm_X12_kind [.int sx] b f sz := by
  obtain ⟨oa, ak, tn, tt, fa, fi, hR⟩ := h
  obtain ⟨h_x, ⟨th, cu, sr, tk, va, ft, fA, h_mo⟩, hRow, hTap, hTrc, hMai, hTri, hImg, hAct, hsz⟩ := id hR
  obtain ⟨rho, lam, h_rl, h_li, w, pl, to, lf, wy, se, ta, q, P, wt, ch, sk, st, mi, ri, tl, ov, gw, gc, gs, os, Ks, wis, ags, wn, cvf, v, h_ro, h_k, hLW, hRO⟩ := id hMai
  obtain ⟨⟨h_w, h_wt, h_ch, h_sk⟩, ⟨iw, iwt, ich, isk, hwc⟩, ⟨r0, r1, r2, r3, r4, r5⟩, ⟨hPt, htl, hst, hmi⟩, hwn, hcf, hsk⟩ := id hLW
  have hP12 : P ≤ 12 := LW_P hLW
  by_cases hs : ¬ sx < nI 0 ∧ ¬ (nI tl - nI 1) < sx
  case neg => exact c_X11_kind_n h_x h_ro h_w hs ⟨_, rfl, ⟨_, h_mo⟩, c_X12_kind_n h_mo h_rl r5 hs ⟨rfl, REL_m hR⟩⟩
  obtain ⟨j, hj, rfl⟩ := rngS (by omega) hs
  obtain ⟨hgo, ios, h_o, hk0, hk1, hk2, hK, hwi, hag⟩ := hsk j hj
  have hP4 : 4 ≤ P ∧ P ≤ 12 := by omega
  obtain ⟨⟨hpl, hto, hlf, hwy⟩, ⟨c6, c7, c8, c9, c10, c11⟩, hta, hq, hsum⟩ := hRO (by omega)

  exact c_X11_kind_k h_x h_ro h_w h_sk h_o hj htl hgo hK hwi hag hP4 ⟨_, rfl, ⟨_, h_mo⟩, c_X12_kind_k h_mo h_rl hj htl r5 ⟨by rw [hk0], REL_m hR⟩⟩
set_option maxHeartbeats 4000000 in
set_option maxRecDepth 100000 in
theorem op_as {G : GG} {base : Nat} {l : Launch} {b : Nat} {f : Hp} {sz : Nat} (h : REL b f sz) (sx kz : Int32) : opI G base l yX11_as yX12_as cX11_as cX12_as 4 3 rm_X11_as rm_X12_as [.int sx, .int kz] b f sz := by
  obtain ⟨oa, ak, tn, tt, fa, fi, hR⟩ := h
  obtain ⟨h_x, ⟨th, cu, sr, tk, va, ft, fA, h_mo⟩, hRow, hTap, hTrc, hMai, hTri, hImg, hAct, hsz⟩ := id hR
  obtain ⟨rho, lam, h_rl, h_li, w, pl, to, lf, wy, se, ta, q, P, wt, ch, sk, st, mi, ri, tl, ov, gw, gc, gs, os, Ks, wis, ags, wn, cvf, v, h_ro, h_k, hLW, hRO⟩ := id hMai
  obtain ⟨⟨h_w, h_wt, h_ch, h_sk⟩, ⟨iw, iwt, ich, isk, hwc⟩, ⟨r0, r1, r2, r3, r4, r5⟩, ⟨hPt, htl, hst, hmi⟩, hwn, hcf, hsk⟩ := id hLW
  have hP12 : P ≤ 12 := LW_P hLW
  by_cases hs : ¬ sx < nI 0 ∧ ¬ (nI tl - nI 1) < sx
  case neg => exact c_X11_as_n h_x h_ro h_w hs ⟨_, rfl, ⟨_, h_mo⟩, c_X12_as_n h_mo h_rl r5 hs ⟨rfl, REL_m hR⟩⟩
  obtain ⟨j, hj, rfl⟩ := rngS (by omega) hs
  obtain ⟨hgo, ios, h_o, hk0, hk1, hk2, hK, hwi, hag⟩ := hsk j hj
  have hP4 : 4 ≤ P ∧ P ≤ 12 := by omega
  obtain ⟨⟨hpl, hto, hlf, hwy⟩, ⟨c6, c7, c8, c9, c10, c11⟩, hta, hq, hsum⟩ := hRO (by omega)

  refine c_X11_as_k h_x h_ro h_w h_sk h_o hj htl hgo hK hwi hag hP4 ?_ ?_ ?_
  · intro c16 kd hkd ekd c27
    refine ⟨_, rfl, ⟨_, (up_o (h_mo) (by omega))⟩, c_X12_as_k (up_o (h_mo) (by omega)) (up_o (h_rl) (by omega)) hj htl r5 hk0 hK (fun _ k2 h2 e2 c43 => ?_) (fun _ _ _ _ _ => ⟨rfl, REL_xm hR⟩) (fun k => absurd c16 k)⟩
    have k := (nI_eq (by omega) (by omega)).mp (ekd.symm.trans e2)
    subst k
    exact absurd c27 c43
  · intro c16 kd hkd ekd c27
    refine ⟨_, rfl, ⟨_, (up_o (h_mo) (by omega))⟩, c_X12_as_k (up_o (h_mo) (by omega)) (up_o (h_rl) (by omega)) hj htl r5 hk0 hK (fun _ _ _ _ _ => ⟨rfl, REL_xm hR⟩) (fun _ k2 h2 e2 c43 => ?_) (fun k => absurd c16 k)⟩
    have k := (nI_eq (by omega) (by omega)).mp (ekd.symm.trans e2)
    subst k
    exact absurd c43 c27
  · intro c16
    exact ⟨_, rfl, ⟨_, h_mo⟩, c_X12_as_k h_mo h_rl hj htl r5 hk0 hK (fun k => absurd k c16) (fun k => absurd k c16) (fun _ => ⟨rfl, REL_m hR⟩)⟩
set_option maxHeartbeats 4000000 in
set_option maxRecDepth 100000 in
theorem op_ask {G : GG} {base : Nat} {l : Launch} {b : Nat} {f : Hp} {sz : Nat} (h : REL b f sz) (sx wh : Int32) : opI G base l yX11_ask yX12_ask cX11_ask cX12_ask 4 3 rm_X11_ask rm_X12_ask [.int sx, .int wh] b f sz := by
  obtain ⟨oa, ak, tn, tt, fa, fi, hR⟩ := h
  obtain ⟨h_x, ⟨th, cu, sr, tk, va, ft, fA, h_mo⟩, hRow, hTap, hTrc, hMai, hTri, hImg, hAct, hsz⟩ := id hR
  obtain ⟨rho, lam, h_rl, h_li, w, pl, to, lf, wy, se, ta, q, P, wt, ch, sk, st, mi, ri, tl, ov, gw, gc, gs, os, Ks, wis, ags, wn, cvf, v, h_ro, h_k, hLW, hRO⟩ := id hMai
  obtain ⟨⟨h_w, h_wt, h_ch, h_sk⟩, ⟨iw, iwt, ich, isk, hwc⟩, ⟨r0, r1, r2, r3, r4, r5⟩, ⟨hPt, htl, hst, hmi⟩, hwn, hcf, hsk⟩ := id hLW
  have hP12 : P ≤ 12 := LW_P hLW
  by_cases hs : ¬ sx < nI 0 ∧ ¬ (nI tl - nI 1) < sx
  case neg => exact c_X11_ask_n h_x h_ro h_w hs ⟨_, rfl, ⟨_, h_mo⟩, c_X12_ask_n h_mo h_rl r5 hs ⟨rfl, REL_m hR⟩⟩
  obtain ⟨j, hj, rfl⟩ := rngS (by omega) hs
  obtain ⟨hgo, ios, h_o, hk0, hk1, hk2, hK, hwi, hag⟩ := hsk j hj
  have hP4 : 4 ≤ P ∧ P ≤ 12 := by omega
  obtain ⟨⟨hpl, hto, hlf, hwy⟩, ⟨c6, c7, c8, c9, c10, c11⟩, hta, hq, hsum⟩ := hRO (by omega)

  obtain ⟨g, h_tc, h_u, h_tm, htt⟩ := id hTrc
  refine c_X11_ask_k h_x h_ro h_w h_sk h_o h_tc h_u hj htl hgo hK hwi hag hP4 ?_ ?_ ?_
  · intro c16 wz hwz ewz c31
    refine ⟨_, rfl, ⟨_, (up_o (up_o (h_mo) (by omega)) (by omega))⟩, c_X12_ask_k (up_o (up_o (h_mo) (by omega)) (by omega)) (up_o (up_o (h_rl) (by omega)) (by omega)) (up_o (up_o (h_tm) (by omega)) (by omega)) (by omega) hj htl r5 hk0 hK (fun _ w2 h2 e2 c32 => ⟨by rw [hk1, hk2], ⟨oa, ak, tn, 0 + (aMB (Ks j)).length, fa, fi, (up_o (up_o (up_o (up_o (h_x) (by omega)) (by omega)) (by omega)) (by omega)), ⟨_, _, _, _, _, _, _, (up_o (fx_up_s _ _ _) (by omega))⟩, rRows_c hRow (fun a ha => (fx_up_n _ _ (by omega)).trans ((fx_up_n _ _ (by omega)).trans ((fx_up_n _ _ (by omega)).trans ((fx_up_n _ _ (by omega)).trans (rfl))))), rTape_c hTap (fun a ha => (fx_up_n _ _ (by omega)).trans ((fx_up_n _ _ (by omega)).trans ((fx_up_n _ _ (by omega)).trans ((fx_up_n _ _ (by omega)).trans (rfl))))), ⟨_, (up_o (up_o (up_o (fx_up_s _ _ _) (by omega)) (by omega)) (by omega)), (up_o (up_o (fx_up_s _ _ _) (by omega)) (by omega)), (fx_up_s _ _ _), pe_aM (Ks j)⟩, rMain_c hMai (fun a ha => (fx_up_n _ _ (by omega)).trans ((fx_up_n _ _ (by omega)).trans ((fx_up_n _ _ (by omega)).trans ((fx_up_n _ _ (by omega)).trans (rfl))))), rTrial_c hTri (fun a ha => (fx_up_n _ _ (by omega)).trans ((fx_up_n _ _ (by omega)).trans ((fx_up_n _ _ (by omega)).trans ((fx_up_n _ _ (by omega)).trans (rfl))))), rImg_c hImg (fun a ha => (fx_up_n _ _ (by omega)).trans ((fx_up_n _ _ (by omega)).trans ((fx_up_n _ _ (by omega)).trans ((fx_up_n _ _ (by omega)).trans (rfl))))), rActs_c hAct (fun a ha => (fx_up_n _ _ (by omega)).trans ((fx_up_n _ _ (by omega)).trans ((fx_up_n _ _ (by omega)).trans ((fx_up_n _ _ (by omega)).trans (rfl))))), hsz⟩⟩) (fun _ w2 h2 e2 c32 => ?_) (fun k => absurd c16 k)⟩
    exact absurd ((nI_eq (by omega) (by omega)).mp (ewz.symm.trans e2)) (by omega)
  · intro c16 wz hwz ewz c31
    refine ⟨_, rfl, ⟨_, (up_o (up_o (h_mo) (by omega)) (by omega))⟩, c_X12_ask_k (up_o (up_o (h_mo) (by omega)) (by omega)) (up_o (up_o (h_rl) (by omega)) (by omega)) (up_o (up_o (h_tm) (by omega)) (by omega)) (by omega) hj htl r5 hk0 hK (fun _ w2 h2 e2 c32 => ?_) (fun _ w2 h2 e2 c32 => ⟨by rw [hk1, hk2], ⟨oa, ak, tn, 0 + (aSB (Ks j)).length, fa, fi, (up_o (up_o (up_o (up_o (h_x) (by omega)) (by omega)) (by omega)) (by omega)), ⟨_, _, _, _, _, _, _, (up_o (fx_up_s _ _ _) (by omega))⟩, rRows_c hRow (fun a ha => (fx_up_n _ _ (by omega)).trans ((fx_up_n _ _ (by omega)).trans ((fx_up_n _ _ (by omega)).trans ((fx_up_n _ _ (by omega)).trans (rfl))))), rTape_c hTap (fun a ha => (fx_up_n _ _ (by omega)).trans ((fx_up_n _ _ (by omega)).trans ((fx_up_n _ _ (by omega)).trans ((fx_up_n _ _ (by omega)).trans (rfl))))), ⟨_, (up_o (up_o (up_o (fx_up_s _ _ _) (by omega)) (by omega)) (by omega)), (up_o (up_o (fx_up_s _ _ _) (by omega)) (by omega)), (fx_up_s _ _ _), pe_aS (Ks j)⟩, rMain_c hMai (fun a ha => (fx_up_n _ _ (by omega)).trans ((fx_up_n _ _ (by omega)).trans ((fx_up_n _ _ (by omega)).trans ((fx_up_n _ _ (by omega)).trans (rfl))))), rTrial_c hTri (fun a ha => (fx_up_n _ _ (by omega)).trans ((fx_up_n _ _ (by omega)).trans ((fx_up_n _ _ (by omega)).trans ((fx_up_n _ _ (by omega)).trans (rfl))))), rImg_c hImg (fun a ha => (fx_up_n _ _ (by omega)).trans ((fx_up_n _ _ (by omega)).trans ((fx_up_n _ _ (by omega)).trans ((fx_up_n _ _ (by omega)).trans (rfl))))), rActs_c hAct (fun a ha => (fx_up_n _ _ (by omega)).trans ((fx_up_n _ _ (by omega)).trans ((fx_up_n _ _ (by omega)).trans ((fx_up_n _ _ (by omega)).trans (rfl))))), hsz⟩⟩) (fun k => absurd c16 k)⟩
    exact absurd ((nI_eq (by omega) (by omega)).mp (ewz.symm.trans e2)) (by omega)
  · intro c16
    exact ⟨_, rfl, ⟨_, h_mo⟩, c_X12_ask_k h_mo h_rl h_tm (by omega) hj htl r5 hk0 hK (fun k => absurd k c16) (fun k => absurd k c16) (fun _ => ⟨rfl, REL_m hR⟩)⟩
