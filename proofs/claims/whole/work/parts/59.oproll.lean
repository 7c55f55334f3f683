/-! ===== roll ===== -/
theorem fx_mono {G : GG} {base : Nat} {l : Launch} {y : MethodName} {cc : ByteArray} {nL : Nat} {ret : Option FieldType} {rm : Room} {av : List Value} {f : Hp} {sz : Nat} {Po Po' : Option Value → Hp → Nat → Prop} (h : fx_MP G base l y cc nL ret rm av f sz Po) (hp : ∀ v f' sz', Po v f' sz' → Po' v f' sz') : fx_MP G base l y cc nL ret rm av f sz Po' := by
  intro p e ha hc hk s m args below hf happ hP hK
  obtain ⟨k, o, h1, h2, h3, ⟨v, f', sz', g1, g2, g3⟩, h5⟩ := h p e ha hc hk s m args below hf happ hP hK
  exact ⟨k, o, h1, h2, h3, ⟨v, f', sz', g1, hp _ _ _ g2, g3⟩, h5⟩
theorem LW_p {b : Nat} {f f' : Hp} {w : Nat} {r r' : Nat → Int32} {P wt ch sk st mi ri tl : Nat} {ov : Int32} {gw gc : Nat → Int32} {gs : Nat → Option Nat} {os Ks wis ags wn cvf : Nat → Nat} (h : LW b f w r P wt ch sk st mi ri tl ov gw gc gs os Ks wis ags wn cvf) (e : ∀ a x, inL b a → f a = some x → f' a = some x) (er : ∀ x, x < 48 → x < 6 ∨ 12 ≤ x → r' x = r x) : LW b f' w r' P wt ch sk st mi ri tl ov gw gc gs os Ks wis ags wn cvf := by
  have h0 := h
  obtain ⟨⟨a1, a2, a3, a4⟩, ⟨b1, b2, b3, b4, b5⟩, -, -, -, -, e3⟩ := h
  have h1 := LW_c (f' := f) (r' := r') h0 (fun _ _ => rfl) er
  obtain ⟨-, -, c1, c2, c3, c4, c5⟩ := h1
  refine ⟨⟨e _ _ b1 a1, e _ _ b2 a2, e _ _ b3 a3, e _ _ b4 a4⟩, ⟨b1, b2, b3, b4, b5⟩, c1, c2, c3, c4, fun j hj => ?_⟩
  obtain ⟨g1, g2, g3, g4⟩ := c5 j hj
  exact ⟨g1, g2, e _ _ g2 g3, g4⟩
theorem RR_p {b : Nat} {f f' : Hp} {ad : Nat} {r : Nat → Int32} {lm : Nat → Int64} (h : RR b f ad r lm) (e : ∀ a x, a = b + ad ∨ a = b + ad + 1 ∨ inL b a → f a = some x → f' a = some x) : RR b f' ad r lm := by
  obtain ⟨w, pl, to, lf, wy, se, ta, q, P, wt, ch, sk, st, mi, ri, tl, ov, gw, gc, gs, os, Ks, wis, ags, wn, cvf, v, h1, h2, h3, h4⟩ := h
  exact ⟨w, pl, to, lf, wy, se, ta, q, P, wt, ch, sk, st, mi, ri, tl, ov, gw, gc, gs, os, Ks, wis, ags, wn, cvf, v, e _ _ (Or.inl rfl) h1, e _ _ (Or.inr (Or.inl rfl)) h2, LW_p h3 (fun a x ha => e a x (Or.inr (Or.inr ha))) (fun _ _ _ => rfl), h4⟩
theorem rMain_p {b : Nat} {f f' : Hp} (h : rMain b f) (e : ∀ a x, a = b + 12 ∨ a = b + 13 ∨ a = b + 88 ∨ a = b + 90 ∨ b + 8 ≤ a ∧ a < b + 12 ∨ b + 99 ≤ a → f a = some x → f' a = some x) : rMain b f' := by
  obtain ⟨r, lm, h1, h2, h3⟩ := h
  exact ⟨r, lm, e _ _ (by omega) h1, e _ _ (by omega) h2, RR_p h3 (fun a x ha => e a x (by unfold inL at ha; omega))⟩
theorem rImg_p {b : Nat} {f f' : Hp} (h : rImg b f) (e : ∀ a x, a = b + 6 ∨ b + 32 ≤ a ∧ a < b + 36 ∨ b + 95 ≤ a ∧ a < b + 98 ∨ b + 8 ≤ a ∧ a < b + 12 ∨ b + 99 ≤ a → f a = some x → f' a = some x) : rImg b f' := by
  obtain ⟨gi, gik, gkp, gkl, h1, h2, h3, h4, h5, h6⟩ := h
  refine ⟨gi, gik, gkp, gkl, e _ _ (by omega) h1, h2, e _ _ (by omega) h3, e _ _ (by omega) h4, e _ _ (by omega) h5, fun k hk => ?_⟩
  obtain ⟨r, lm, g1, g2⟩ := h6 k hk
  exact ⟨r, lm, RR_p g1 (fun a x ha => e a x (by unfold inL at ha; omega)), g2⟩
theorem rActs_p {b : Nat} {f f' : Hp} {oa ak : Nat} (h : rActs b f oa ak) (e : ∀ a x, a = b + 7 ∨ b + 36 ≤ a ∧ a < b + 84 ∨ a = b + 91 ∨ a = b + 92 ∨ b + 8 ≤ a ∧ a < b + 12 ∨ b + 99 ≤ a → f a = some x → f' a = some x) : rActs b f' oa ak := by
  obtain ⟨h1, h2, ga, gwa, gld, h3, h4, h5, h6, h7, h8⟩ := h
  refine ⟨h1, h2, ga, gwa, gld, e _ _ (by omega) h3, h4, e _ _ (by omega) h5, e _ _ (by omega) h6, fun i hi => ?_, fun j hj => ?_⟩
  · obtain ⟨w, pl, wy, se, to, lf, ta, q, g1, g2⟩ := h7 i hi
    exact ⟨w, pl, wy, se, to, lf, ta, q, e _ _ (by omega) g1, e _ _ (by omega) g2⟩
  · have h24 : (oa + j) % 24 < 24 := Nat.mod_lt _ (by omega)
    exact RR_p (h8 j hj) (fun a x ha => e a x (by unfold inL at ha; omega))
/-- no acts are left -/
theorem rActs_0 {b : Nat} {f : Hp} {oa ak : Nat} (h : rActs b f oa ak) : rActs b f 0 0 := by
  obtain ⟨h1, h2, ga, gwa, gld, h3, h4, h5, h6, h7, h8⟩ := h
  exact ⟨by omega, by omega, ga, gwa, gld, h3, h4, h5, h6, h7, fun j hj => absurd hj (Nat.not_lt_zero _)⟩
theorem pS_hi {g : Nat → Int32} {n : Nat} : (pS g n).2 ≤ 9 := (tN_hi (by omega) (by omega)).1
theorem rpZ_m {g : Nat → Int32} {n : Nat} {z : Nat × Nat} : ∀ {k i : Nat}, (rpZ g n z (i + k)).2 = 0 → (rpZ g n z i).2 = 0
  | 0, i, h => h
  | k + 1, i, h => rpZ_m (k := k) (i := i) (rpB_0 (tN_0 h))
theorem rpV_1 {g : Nat → Int32} {n i P : Nat} {z : Nat × Nat} (h : (rpZ g n z P).2 = 0) (hi : i < P) : 1 ≤ rpV g n z i := by
  have h1 : (rpZ g n z (i + 1)).2 = 0 := rpZ_m (k := P - (i + 1)) (by rw [show i + 1 + (P - (i + 1)) = P by omega]; exact h)
  exact (tN_hi (by omega) (by omega)).2 h1
theorem rgL_le {g : Nat → Int32} {n P : Nat} : ∀ (k : Nat) (s : RgS), (∀ i, s.2.2 i ≤ 10) → ∀ i, (rgL g n P k s).2.2 i ≤ 10
  | 0, s, h => h
  | k + 1, s, h => by
    rw [rgL]
    split
    · exact rgL_le k _ (rgC_le h)
    · exact h
theorem rdR_le {g : Nat → Int32} {n : Nat} : ∀ i, (rdR g n).2.2 i ≤ 10 := by
  rw [rdR]
  exact rgL_le 5 _ (fun i => Nat.zero_le _)
theorem skL_le {g : Nat → Int32} {n : Nat} : ∀ (k : Nat) (s : SkS), (∀ j, j < s.2.1 → (1 ≤ (s.2.2 j).1 ∧ (s.2.2 j).1 ≤ 5) ∧ (s.2.2 j).2.1 ≤ 10 ∧ (s.2.2 j).2.2 ≤ 10) → ∀ j, j < (skL g n k s).2.1 → (1 ≤ ((skL g n k s).2.2 j).1 ∧ ((skL g n k s).2.2 j).1 ≤ 5) ∧ ((skL g n k s).2.2 j).2.1 ≤ 10 ∧ ((skL g n k s).2.2 j).2.2 ≤ 10
  | 0, s, h => h
  | k + 1, s, h => by
    rw [skL]
    split
    · refine skL_le k _ (fun j hj => ?_)
      have hj : j < skR g n s.2.1 s.1 := hj
      show (1 ≤ (skD g n s.2.1 s.2.2 s.1 j).1 ∧ (skD g n s.2.1 s.2.2 s.1 j).1 ≤ 5) ∧ (skD g n s.2.1 s.2.2 s.1 j).2.1 ≤ 10 ∧ (skD g n s.2.1 s.2.2 s.1 j).2.2 ≤ 10
      unfold skR at hj
      unfold skD
      by_cases hE : (skE g n s.2.1 s.1).2 = 0
      · rw [if_pos hE] at hj ⊢
        by_cases hq : j = s.2.1
        · simp only [if_pos hq]
          exact ⟨kdS_ok _, (tN_hi (by omega) (by omega)).1, (tN_hi (by omega) (by omega)).1⟩
        · simp only [if_neg hq]
          exact h j (by omega)
      · rw [if_neg hE] at hj ⊢
        exact h j hj
    · exact h
theorem rdS_k {g : Nat → Int32} {n : Nat} : ∀ j, j < (rdS g n).2.1 → (1 ≤ ((rdS g n).2.2 j).1 ∧ ((rdS g n).2.2 j).1 ≤ 5) ∧ ((rdS g n).2.2 j).2.1 ≤ 10 ∧ ((rdS g n).2.2 j).2.2 ≤ 10 := by
  rw [rdS]
  exact skL_le 5 _ (fun j hj => absurd hj (Nat.not_lt_zero _))
set_option maxHeartbeats 4000000 in
set_option maxRecDepth 100000 in
theorem op_roll {G : GG} {base : Nat} {l : Launch} {b : Nat} {f : Hp} {sz : Nat} (h : REL b f sz)  (hd : ∀ a x, f a = some x → a < sz) : opI G base l yX11_roll yX12_roll cX11_roll cX12_roll 2 2 rm_X11_roll rm_X12_roll [] b f sz := by
  obtain ⟨oa, ak, tn, tt, fa, fi, hR⟩ := h
  obtain ⟨h_x, ⟨th, cu, sr, tk, va, ft, fA, h_mo⟩, hRow, hTap, hTrc, hMai, hTri, hImg, hAct, hsz⟩ := id hR
  obtain ⟨rho, lam, h_rl, h_li, w, pl, to, lf, wy, se, ta, q, P, wt, ch, sk, st, mi, ri, tl, ov, gw, gc, gs, os, Ks, wis, ags, wn, cvf, v, h_ro, h_k, hLW, hRO⟩ := id hMai
  obtain ⟨⟨h_w, h_wt, h_ch, h_sk⟩, ⟨iw, iwt, ich, isk, hwc⟩, ⟨r0, r1, r2, r3, r4, r5⟩, ⟨hPt, htl, hst, hmi⟩, hwn, hcf, hsk⟩ := id hLW
  have hP12 : P ≤ 12 := LW_P hLW

  obtain ⟨at_, wr, g, h_tp, h_by, h_tq, htn⟩ := id hTap
  obtain ⟨-, ⟨gso, h_so⟩, gfr, h_fr⟩ := id hTri
  by_cases hE : (rdZ g tn).2 = 0
  · refine c_X11_roll_ok h_x h_tp h_by h_ro h_k htn hE ?_
    intro fe ze gs q_t q_w q_1 q_2 q_3 q_gs q_ag q_sz
    refine ⟨_, rfl, ⟨_, (up_o (up_o (up_o (up_o ((q_ag _ (by omega) (by omega)).trans (h_mo)) (by omega)) (by omega)) (by omega)) (by omega))⟩, fx_mono (c_X12_roll_ok (up_o (up_o (up_o (up_o ((q_ag _ (by omega) (by omega)).trans (h_mo)) (by omega)) (by omega)) (by omega)) (by omega)) (up_o (up_o (up_o (up_o ((q_ag _ (by omega) (by omega)).trans (h_tq)) (by omega)) (by omega)) (by omega)) (by omega)) (up_o (up_o (up_o (up_o ((q_ag _ (by omega) (by omega)).trans (h_fr)) (by omega)) (by omega)) (by omega)) (by omega)) (up_o (up_o (up_o (up_o ((q_ag _ (by omega) (by omega)).trans (h_rl)) (by omega)) (by omega)) (by omega)) (by omega)) (up_o (up_o (up_o (up_o ((q_ag _ (by omega) (by omega)).trans (h_li)) (by omega)) (by omega)) (by omega)) (by omega)) (by omega) (by omega) (by omega) htn hE) ?_⟩
    rintro v_ f_ s_ ⟨cu_, sr_, tk_, va_, ft_, fA_, gf_, gr_, gl_, hRF, hl1, hl2, rfl, rfl, rfl⟩
    have h0 := rdZ_0 hE
    have h1 := pZ_00 h0.2.2.2.2
    have hp4 : 4 ≤ (pL g tn).2 := pL_hi.2 h1.1
    have hp12 : (pL g tn).2 ≤ 12 := pL_hi.1
    have hz0 : (rpZ g tn (tS g tn (nI 112) (pZ g tn)) (pL g tn).2).2 = 0 := tS_0 h0.2.2.2.1
    obtain ⟨vN, hvN⟩ : ∃ vN : Nat → Nat, vN = fun i => if i < (pL g tn).2 then rpV g tn (tS g tn (nI 112) (pZ g tn)) i else (pM g tn).2 := ⟨_, rfl⟩
    have hrv : ∀ i, rpV g tn (tS g tn (nI 112) (pZ g tn)) i ≤ 9 := fun i => rpV_le
    have hpm : (pM g tn).2 ≤ 9 := pM_hi
    have hvb : ∀ i, i ≤ (pL g tn).2 → vN i ≤ 9 * 10 ^ 0 := fun i hi => by
      rw [hvN, Nat.pow_zero, Nat.mul_one]
      show (if _ then _ else _) ≤ 9
      split
      · exact hrv i
      · exact hpm
    have hqn : ∀ i, i ≤ (pL g tn).2 → (vp_updL (fJ q 0 (fun z => ((fI (fun _ => 0) 0 (fun i_ => nI (rpV g tn (tS g tn (nI 112) (pZ g tn)) i_)) (pL g tn).2) z).toInt64) ((pL g tn).2)) ((pL g tn).2) (nI ((pM g tn).2)).toInt64) i = lN (vN i) := fun i hi => by
      rw [hvN]
      by_cases hq : i = (pL g tn).2
      · subst hq
        rw [pk_uLs]
        show _ = lN (if _ then _ else _)
        rw [if_neg (by omega), nI_l (by omega)]
      · have hr := hrv i
        rw [pk_uLn hq, fJ_at, if_pos (by omega), Nat.sub_zero, fI_at, if_pos (by omega), Nat.sub_zero]
        show _ = lN (if _ then _ else _)
        rw [if_pos (by omega), nI_l (by omega)]
    have hln : ∀ i, i ≤ (pL g tn).2 → gl_ i = lN (vN i) := fun i hi => by
      rw [hvN]
      show _ = lN (if _ then _ else _)
      by_cases hq : i = (pL g tn).2
      · subst hq; rw [if_neg (by omega)]; exact hl2
      · rw [if_pos (by omega)]; exact hl1 i (by omega)
    exact ⟨rfl, ⟨0, 0, 0, tt, fa, fi, (up_o (up_o (up_o (up_o (fx_up_s _ _ _) (by omega)) (by omega)) (by omega)) (by omega)), ⟨_, _, _, _, _, _, _, (up_o (up_o (up_o (fx_up_s _ _ _) (by omega)) (by omega)) (by omega))⟩, rRows_c hRow (fun a ha => (fx_up_n _ _ (by omega)).trans ((fx_up_n _ _ (by omega)).trans ((fx_up_n _ _ (by omega)).trans ((fx_up_n _ _ (by omega)).trans ((fx_up_n _ _ (by omega)).trans ((fx_up_n _ _ (by omega)).trans ((fx_up_n _ _ (by omega)).trans ((fx_up_n _ _ (by omega)).trans (q_ag a (by omega) (by omega)))))))))), ⟨_, _, g, (up_o (up_o (up_o (up_o (up_o (up_o (up_o (fx_up_s _ _ _) (by omega)) (by omega)) (by omega)) (by omega)) (by omega)) (by omega)) (by omega)), (up_o (up_o (up_o (up_o (up_o (up_o (up_o (up_o ((q_ag _ (by omega) (by omega)).trans (h_by)) (by omega)) (by omega)) (by omega)) (by omega)) (by omega)) (by omega)) (by omega)) (by omega)), (up_o (up_o (up_o (up_o (up_o (up_o (up_o (up_o ((q_ag _ (by omega) (by omega)).trans (h_tq)) (by omega)) (by omega)) (by omega)) (by omega)) (by omega)) (by omega)) (by omega)) (by omega)), by omega⟩, rTrace_c hTrc (fun a ha => (fx_up_n _ _ (by omega)).trans ((fx_up_n _ _ (by omega)).trans ((fx_up_n _ _ (by omega)).trans ((fx_up_n _ _ (by omega)).trans ((fx_up_n _ _ (by omega)).trans ((fx_up_n _ _ (by omega)).trans ((fx_up_n _ _ (by omega)).trans ((fx_up_n _ _ (by omega)).trans (q_ag a (by omega) (by omega)))))))))), ⟨gr_, gl_, (up_o (fx_up_s _ _ _) (by omega)), (fx_up_s _ _ _), sz, 0, 0, 0, nI 1, nI 0, -1000000, _, (pL g tn).2, sz + 1, sz + 1 + 1, sz + 1 + 2, (pS g tn).2, (pM g tn).2, (rdR g tn).2.1, (rdS g tn).2.1, nI (pO g tn).2, _, _, gs, fun j => sz + 4 + j, fun j => ((rdS g tn).2.2 j).1, fun j => ((rdS g tn).2.2 j).2.1, fun j => ((rdS g tn).2.2 j).2.2, rpV g tn (tS g tn (nI 112) (pZ g tn)), (rdR g tn).2.2, vN, (up_o (up_o (up_o (up_o (up_o (up_o (fx_up_s _ _ _) (by omega)) (by omega)) (by omega)) (by omega)) (by omega)) (by omega)), (up_o (up_o (up_o (up_o (up_o (fx_up_s _ _ _) (by omega)) (by omega)) (by omega)) (by omega)) (by omega)), ⟨⟨(up_o (up_o (up_o (up_o (up_o (up_o (up_o (up_o (q_w) (by omega)) (by omega)) (by omega)) (by omega)) (by omega)) (by omega)) (by omega)) (by omega)), (up_o (up_o (up_o (up_o (up_o (up_o (up_o (up_o (q_1) (by omega)) (by omega)) (by omega)) (by omega)) (by omega)) (by omega)) (by omega)) (by omega)), (up_o (up_o (up_o (up_o (up_o (up_o (up_o (up_o (q_2) (by omega)) (by omega)) (by omega)) (by omega)) (by omega)) (by omega)) (by omega)) (by omega)), (up_o (up_o (up_o (up_o (up_o (up_o (up_o (up_o (q_3) (by omega)) (by omega)) (by omega)) (by omega)) (by omega)) (by omega)) (by omega)) (by omega))⟩, ⟨Or.inr (by omega), Or.inr (by omega), Or.inr (by omega), Or.inr (by omega), by omega⟩, hRF.1, ⟨Or.inr ⟨hp4, pL_hi.1⟩, rdS_le, pS_hi, pM_hi⟩, fun z hz => ⟨by rw [fI_at, if_pos (by omega), Nat.sub_zero], hRF.2.2.1 z hz, rpV_1 hz0 hz, rpV_le⟩, fun z hz => ⟨rfl, hRF.2.2.2.1 z (by have := (pL_hi (g := g) (n := tn)).1; omega), rdR_le z⟩, fun j hj => ⟨(q_gs j hj).1, Or.inr (show b + 99 ≤ sz + 4 + j by omega), (up_o (c := sz + 4 + j) (up_o (c := sz + 4 + j) (up_o (c := sz + 4 + j) (up_o (c := sz + 4 + j) (up_o (c := sz + 4 + j) (up_o (c := sz + 4 + j) (up_o (c := sz + 4 + j) (up_o (c := sz + 4 + j) ((q_gs j hj).2) (by omega)) (by omega)) (by omega)) (by omega)) (by omega)) (by omega)) (by omega)) (by omega)), (hRF.2.2.2.2 j hj).1, (hRF.2.2.2.2 j hj).2.1, (hRF.2.2.2.2 j hj).2.2, rdS_k j hj⟩⟩, fun _ => ⟨⟨by omega, by omega, by omega, Or.inl rfl⟩, hRF.2.1, Or.inl rfl, fun i hi => ⟨hqn i hi, hln i hi, hvb i hi⟩, sN_pos (i := 0) (by omega) (by rw [hvN]; show 0 < (if 0 < (pL g tn).2 then _ else _); rw [if_pos (by omega)]; exact rpV_1 hz0 (by omega))⟩⟩, ⟨RX_c hTri.1 (fun a ha => (fx_up_n _ _ (by omega)).trans ((fx_up_n _ _ (by omega)).trans ((fx_up_n _ _ (by omega)).trans ((fx_up_n _ _ (by omega)).trans ((fx_up_n _ _ (by omega)).trans ((fx_up_n _ _ (by omega)).trans ((fx_up_n _ _ (by omega)).trans ((fx_up_n _ _ (by omega)).trans (q_ag a (by omega) (by omega)))))))))), ⟨_, (up_o (up_o (up_o (up_o (up_o (up_o (up_o (up_o ((q_ag _ (by omega) (by omega)).trans (h_so)) (by omega)) (by omega)) (by omega)) (by omega)) (by omega)) (by omega)) (by omega)) (by omega))⟩, _, (up_o (up_o (fx_up_s _ _ _) (by omega)) (by omega))⟩, rImg_p hImg (fun a x ha hx => (fx_up_n _ _ (by omega)).trans ((fx_up_n _ _ (by omega)).trans ((fx_up_n _ _ (by omega)).trans ((fx_up_n _ _ (by omega)).trans ((fx_up_n _ _ (by omega)).trans ((fx_up_n _ _ (by omega)).trans ((fx_up_n _ _ (by omega)).trans ((fx_up_n _ _ (by omega)).trans ((q_ag a (hd a x hx) (by omega)).trans hx))))))))), rActs_0 (rActs_p hAct (fun a x ha hx => (fx_up_n _ _ (by omega)).trans ((fx_up_n _ _ (by omega)).trans ((fx_up_n _ _ (by omega)).trans ((fx_up_n _ _ (by omega)).trans ((fx_up_n _ _ (by omega)).trans ((fx_up_n _ _ (by omega)).trans ((fx_up_n _ _ (by omega)).trans ((fx_up_n _ _ (by omega)).trans ((q_ag a (hd a x hx) (by omega)).trans hx)))))))))), by omega⟩⟩
  · refine c_X11_roll_no h_x h_tp h_by h_ro h_k htn hE ?_
    intro fe ze q_t q_ag q_sz
    refine ⟨_, rfl, ⟨_, (up_o (up_o ((q_ag _ (by omega) (by omega)).trans (h_mo)) (by omega)) (by omega))⟩, fx_mono (c_X12_roll_no (up_o (up_o ((q_ag _ (by omega) (by omega)).trans (h_mo)) (by omega)) (by omega)) (up_o (up_o ((q_ag _ (by omega) (by omega)).trans (h_tq)) (by omega)) (by omega)) (up_o (up_o ((q_ag _ (by omega) (by omega)).trans (h_fr)) (by omega)) (by omega)) (up_o (up_o ((q_ag _ (by omega) (by omega)).trans (h_rl)) (by omega)) (by omega)) (up_o (up_o ((q_ag _ (by omega) (by omega)).trans (h_li)) (by omega)) (by omega)) (by omega) (by omega) (by omega) htn hE) ?_⟩
    rintro v_ f_ s_ ⟨cu_, sr_, tk_, va_, ft_, fA_, gf_, rfl, rfl, rfl⟩
    exact ⟨rfl, ⟨oa, ak, 0, tt, nI (rdZ g tn).2, fi, (up_o (up_o (fx_up_s _ _ _) (by omega)) (by omega)), ⟨_, _, _, _, _, _, _, (up_o (fx_up_s _ _ _) (by omega))⟩, rRows_c hRow (fun a ha => (fx_up_n _ _ (by omega)).trans ((fx_up_n _ _ (by omega)).trans ((fx_up_n _ _ (by omega)).trans ((fx_up_n _ _ (by omega)).trans (q_ag a (by omega) (by omega)))))), ⟨_, _, g, (up_o (up_o (up_o (fx_up_s _ _ _) (by omega)) (by omega)) (by omega)), (up_o (up_o (up_o (up_o ((q_ag _ (by omega) (by omega)).trans (h_by)) (by omega)) (by omega)) (by omega)) (by omega)), (up_o (up_o (up_o (up_o ((q_ag _ (by omega) (by omega)).trans (h_tq)) (by omega)) (by omega)) (by omega)) (by omega)), by omega⟩, rTrace_c hTrc (fun a ha => (fx_up_n _ _ (by omega)).trans ((fx_up_n _ _ (by omega)).trans ((fx_up_n _ _ (by omega)).trans ((fx_up_n _ _ (by omega)).trans (q_ag a (by omega) (by omega)))))), rMain_p hMai (fun a x ha hx => (fx_up_n _ _ (by omega)).trans ((fx_up_n _ _ (by omega)).trans ((fx_up_n _ _ (by omega)).trans ((fx_up_n _ _ (by omega)).trans ((q_ag a (hd a x hx) (by omega)).trans hx))))), ⟨RX_c hTri.1 (fun a ha => (fx_up_n _ _ (by omega)).trans ((fx_up_n _ _ (by omega)).trans ((fx_up_n _ _ (by omega)).trans ((fx_up_n _ _ (by omega)).trans (q_ag a (by omega) (by omega)))))), ⟨_, (up_o (up_o (up_o (up_o ((q_ag _ (by omega) (by omega)).trans (h_so)) (by omega)) (by omega)) (by omega)) (by omega))⟩, _, (fx_up_s _ _ _)⟩, rImg_p hImg (fun a x ha hx => (fx_up_n _ _ (by omega)).trans ((fx_up_n _ _ (by omega)).trans ((fx_up_n _ _ (by omega)).trans ((fx_up_n _ _ (by omega)).trans ((q_ag a (hd a x hx) (by omega)).trans hx))))), rActs_p hAct (fun a x ha hx => (fx_up_n _ _ (by omega)).trans ((fx_up_n _ _ (by omega)).trans ((fx_up_n _ _ (by omega)).trans ((fx_up_n _ _ (by omega)).trans ((q_ag a (hd a x hx) (by omega)).trans hx))))), by omega⟩⟩
