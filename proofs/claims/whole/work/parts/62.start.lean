/-! ===== the start ===== -/
set_option maxHeartbeats 4000000 in
set_option maxRecDepth 100000 in
theorem rel_start {b : Nat} {f : Hp} {gr gi ga : Nat → Option Nat} (h_x : f b = some (xC b 0 0 0 0))
    (h_mo : f (b + 84) = some (mC b 0 0 0 0 0 0 0 0 0 0 0 0))
    (h_la : f (b + 85) = some (oI 8 (upd (upd (upd (upd (upd (upd (upd (upd (fun _ => 0) 0 (-1)) 1 (-1)) 2 (-1)) 3 (-1)) 4 (-1)) 5 (-1)) 6 (-1)) 7 (-1))))
    (h_ma : f (b + 86) = some (oI 8 (fun _ => 0)))
    (h_it : f (b + 87) = some (oI 320 (fun _ => 0)))
    (h_rl : f (b + 88) = some (oI 48 (fun _ => 0)))
    (h_fr : f (b + 89) = some (oI 48 (fun _ => 0)))
    (h_li : f (b + 90) = some (oJ 13 (fun _ => 0)))
    (h_wa : f (b + 91) = some (oI 1152 (fun _ => 0)))
    (h_ld : f (b + 92) = some (oJ 312 (fun _ => 0)))
    (h_tq : f (b + 93) = some (oI 120 (fun _ => 0)))
    (h_so : f (b + 94) = some (oJ 13 (fun _ => 0)))
    (h_ik : f (b + 95) = some (oZ 2 (fun _ => 0)))
    (h_kp : f (b + 96) = some (oI 96 (fun _ => 0)))
    (h_kl : f (b + 97) = some (oJ 26 (fun _ => 0)))
    (h_tm : f (b + 98) = some (oI 16 (fun _ => 0)))
    (h_ra : f (b + 1) = some (oR 4 8 gr))
    (h_tp : f (b + 2) = some (oO 8 [.ref (b + 3), .int 0, .int 0, .int 0]))
    (h_by : f (b + 3) = some (oI 120 (fun _ => 0)))
    (h_tc : f (b + 4) = some (oO 9 [.ref (b + 5), .int 0]))
    (h_u : f (b + 5) = some (oI 16 (fun _ => 0)))
    (h_ia : f (b + 6) = some (oR 3 2 gi))
    (h_aa : f (b + 7) = some (oR 3 24 ga))
    (h_w : f (b + 8) = some (oO 2 [.ref (b + 9), .ref (b + 10), .ref (b + 11), .int 0, .int 0, .int 0, .int 0, .int 0, .int 0]))
    (h_wt : f (b + 9) = some (oI 12 (fun _ => 0)))
    (h_ch : f (b + 10) = some (oI 12 (fun _ => 0)))
    (h_sk : f (b + 11) = some (oR 5 4 (fun _ => none)))
    (h_ro : f (b + 12) = some (rC (b + 13) (b + 8) 0 (nI 1) 0 0 0 (-1000000)))
    (h_k : f (b + 13) = some (oJ 13 (fun _ => 0)))
    (h_tr : f (b + 14) = some (rC (b + 15) (b + 8) 0 (nI 1) 0 0 0 (-1000000)))
    (h_k2 : f (b + 15) = some (oJ 13 (fun _ => 0)))
    (hrw : ∀ j, j < 8 → gr j = some (b + (16 + 2 * j)) ∧ f (b + (16 + 2 * j)) = some (oO 6 [.ref (b + (16 + 2 * j) + 1), .int (nI 1), .int 0, .int 0]) ∧ f (b + (16 + 2 * j) + 1) = some (oI 40 (fun _ => 0)))
    (him : ∀ j, j < 2 → gi j = some (b + (32 + 2 * j)) ∧ f (b + (32 + 2 * j)) = some (rC (b + (32 + 2 * j) + 1) (b + 8) 0 (nI 1) 0 0 0 (-1000000)) ∧ f (b + (32 + 2 * j) + 1) = some (oJ 13 (fun _ => 0)))
    (hac : ∀ j, j < 24 → ga j = some (b + (36 + 2 * j)) ∧ f (b + (36 + 2 * j)) = some (rC (b + (36 + 2 * j) + 1) (b + 8) 0 (nI 1) 0 0 0 (-1000000)) ∧ f (b + (36 + 2 * j) + 1) = some (oJ 13 (fun _ => 0))) : REL b f (b + 99) := by
  have hRR : ∀ ad, f (b + ad) = some (rC (b + ad + 1) (b + 8) 0 (nI 1) 0 0 0 (-1000000)) → f (b + ad + 1) = some (oJ 13 (fun _ => 0)) → RR b f ad (fun _ => 0) (fun _ => 0) := by
    intro ad h1 h2
    exact ⟨b + 8, 0, 0, 0, nI 1, 0, -1000000, fun _ => 0, 0, b + 9, b + 10, b + 11, 0, 0, 0, 0, 0, fun _ => 0, fun _ => 0, fun _ => none, fun _ => 0, fun _ => 0, fun _ => 0, fun _ => 0, fun _ => 0, fun _ => 0, fun _ => 0, h1, h2, ⟨⟨h_w, h_wt, h_ch, h_sk⟩, ⟨Or.inl (by omega), Or.inl (by omega), Or.inl (by omega), Or.inl (by omega), by omega⟩, ⟨rfl, rfl, rfl, rfl, rfl, rfl⟩, ⟨Or.inl ⟨rfl, rfl⟩, by omega, by omega, by omega⟩, fun z hz => absurd hz (Nat.not_lt_zero _), fun z hz => absurd hz (Nat.not_lt_zero _), fun z hz => absurd hz (Nat.not_lt_zero _)⟩, fun h => absurd h (Nat.lt_irrefl _)⟩
  refine ⟨0, 0, 0, 0, 0, 0, h_x, ⟨0, 0, 0, 0, 0, 0, 0, h_mo⟩, ?_, ⟨0, 0, fun _ => 0, h_tp, h_by, h_tq, by omega⟩, ⟨fun _ => 0, h_tc, h_u, h_tm, by omega⟩, ⟨fun _ => 0, fun _ => 0, h_rl, h_li, hRR 12 h_ro h_k⟩, ⟨⟨_, _, _, _, _, _, _, _, h_tr, h_k2⟩, ⟨_, h_so⟩, _, h_fr⟩, ?_, ?_, Nat.le_refl _⟩
  · refine ⟨fun _ => nI 1, fun _ => 0, fun _ => 0, fun _ _ => 0, gr, _, _, _, h_ra, fun i hi => (hrw i hi).1, fun i hi => (hrw i hi).2.1, fun i hi => (hrw i hi).2.2, h_la, h_ma, h_it, fun i hi => Or.inr ⟨show ¬ nI 1 = 0 by decide, ?_⟩, fun i hi => ⟨Nat.zero_le _, rfl⟩, fun i hi z hz => rfl⟩
    have h8 : ∀ i, i < 8 → ¬ (0 : Int32) ≤ (upd (upd (upd (upd (upd (upd (upd (upd (fun _ => 0) 0 (-1)) 1 (-1)) 2 (-1)) 3 (-1)) 4 (-1)) 5 (-1)) 6 (-1)) 7 (-1)) i := by decide +kernel
    exact h8 i hi
  · exact ⟨gi, fun _ => 0, fun _ => 0, fun _ => 0, h_ia, fun k hk => (him k hk).1, h_ik, h_kp, h_kl, fun k hk => ⟨fun _ => 0, fun _ => 0, hRR _ (him k hk).2.1 (him k hk).2.2, ⟨fun _ => rfl, fun _ => rfl⟩, fun q => absurd rfl q⟩⟩
  · exact ⟨by omega, by omega, ga, _, _, h_aa, fun i hi => (hac i hi).1, h_wa, h_ld, fun i hi => ⟨_, _, _, _, _, _, _, _, (hac i hi).2.1, (hac i hi).2.2⟩, fun j hj => absurd hj (Nat.not_lt_zero _)⟩
set_option maxHeartbeats 4000000 in
set_option maxRecDepth 100000 in
theorem whole_start {p : Program} {e : Env} {s : State} {m : MethodId} {below : List Frame} {meth : Method} {c : Code} (l : Launch) (hflags : l.flags = flags0) {b L : Nat} {xs : Nat → Int32} (hL : L ≤ 384) (C0 : lw_At p s m meth c b L xs) : W p l e room_1 s m #[Value.ref b] below meth c s.heap [] 0 0 (lw_Z below #[Value.ref b] s) (entryFrame m ([Value.ref b] : List Value).toArray 4) := by
  obtain ⟨hx, hb, hr, hml, hown, hts, hX, hbl, hlocks, hgv⟩ := id C0
  obtain ⟨G, hE⟩ := lw_E hts hgv
  have C : fx_C G p s m c cL_law 4 RL := ⟨hx, hb, hml, hown, hE⟩
  have hb : c.code = cL_law := hb
  have hl := lv_entry ([.ref b]) (n := 4) (Nat.le_of_ble_eq_true rfl)
  rw [lg_entry_eq]
  generalize (lg_sl ([.ref b]) ++ List.replicate (4 - (lg_sl ([.ref b])).length) Slot.unset).toArray = ls at hl ⊢
  have hl : lv_has ls 4 [(0, .ref b)] := hl
  have hH : fx_H G s.heap.size s (fun _ => none) s.heap.size s.heap [] := ⟨fun a e h => (by
    have h : (none : Option CE) = some e := h
    exact absurd h (by simp)), rfl, Nat.le_refl _, va_S.rf⟩
  refine fx_new C hH (ci := 10) (fs := [.null, .null, .null, .null, .null, .null, .null, .int 0, .int 0, .int 0, .int 0]) (ty := tyX11) rfl inX11 gd_X11 tyX11_ok cl_L_7 ib_X11 ni_X11 dfX11 (Nat.le_of_ble_eq_true rfl) (Nat.le_of_ble_eq_true rfl) dL_law_0 (fun H hH => ?_)
  refine lv_dup hx hb dL_law_3 rfl ?_
  refine fx_afterP hH (fx_runIP C hH hl.1 (As := []) (rest := [.ref s.heap.size]) (c_X11_init (G := G) (base := s.heap.size) (l := l) (f := fx_up (fun _ => none) s.heap.size (oO 10 [.null, .null, .null, .null, .null, .null, .null, .int 0, .int 0, .int 0, .int 0])) (sz := s.heap.size + 1) (x := s.heap.size) (fx_up_s _ _ _)) mY_X11_init ml_L_9 im_X11_init rfl rfl ⟨(Nat.le_of_ble_eq_true rfl), (Nat.le_of_ble_eq_true rfl)⟩ rfl (Nat.le_of_ble_eq_true rfl) ⟨(Nat.le_of_ble_eq_true rfl), (Nat.le_of_ble_eq_true rfl)⟩ dL_law_4) (fun v f1 z1 H locs hPo hH => ?_)
  obtain ⟨fe, ze, gr, gi, ga, q_x, q_ra, q_tp, q_by, q_tc, q_u, q_ia, q_aa, q_w, q_wt, q_ch, q_sk, q_ro, q_k, q_tr, q_k2, q_r, q_i, q_a, q_z, hv, hf, hz⟩ := hPo
  subst v; subst f1; subst z1; subst ze
  show W _ _ _ _ _ _ _ _ _ _ _ _ _ _ _ (F0 m 7 ls [.ref s.heap.size])
  refine lv_astore_n (lv' := [(1, .ref s.heap.size), (0, .ref b)]) hx hb dL_law_7 rfl hl (by decide) rfl (fun ls hl => ?_)
  have hH : fx_H G s.heap.size s fe (s.heap.size + 84) H locs := hH
  refine fx_new C hH (ci := 11) (fs := [.int 0, .int 0, .null, .null, .null, .null, .null, .null, .null, .null, .int 0, .null, .int 0, .int 0, .int 0, .int 0, .int 0, .int 0, .int 0, .int 0, .null, .null, .null, .null, .null, .int 0]) (ty := tyX12) rfl inX12 gd_X12 tyX12_ok cl_L_10 ib_X12 ni_X12 dfX12 (Nat.le_of_ble_eq_true rfl) (Nat.le_of_ble_eq_true rfl) dL_law_8 (fun H hH => ?_)
  refine lv_dup hx hb dL_law_11 rfl ?_
  refine fx_go0 hH (fx_runI C hH hl.1 (As := []) (rest := [.ref (s.heap.size + 84)]) (c_X12_init (G := G) (base := s.heap.size) (l := l) (f := fx_up fe (s.heap.size + 84) (oO 11 [.int 0, .int 0, .null, .null, .null, .null, .null, .null, .null, .null, .int 0, .null, .int 0, .int 0, .int 0, .int 0, .int 0, .int 0, .int 0, .int 0, .null, .null, .null, .null, .null, .int 0])) (sz := s.heap.size + 85) (mo := s.heap.size + 84) (fx_up_s _ _ _)) mY_X12_init ml_L_12 im_X12_init rfl rfl ⟨(Nat.le_of_ble_eq_true rfl), (Nat.le_of_ble_eq_true rfl)⟩ rfl (Nat.le_of_ble_eq_true rfl) ⟨(Nat.le_of_ble_eq_true rfl), (Nat.le_of_ble_eq_true rfl)⟩ dL_law_12) (fun H locs hH => ?_)
  show W _ _ _ _ _ _ _ _ _ _ _ _ _ _ _ (F0 m 15 ls [.ref (s.heap.size + 84)])
  refine lv_astore_n (lv' := [(2, .ref (s.heap.size + 84)), (1, .ref s.heap.size), (0, .ref b)]) hx hb dL_law_15 rfl hl (by decide) rfl (fun ls hl => ?_)
  refine lv_iconst (v := nI 0) hx hb dL_law_16 (by decide) ?_
  refine lv_istore_n (lv' := [(3, .int (nI 0)), (2, .ref (s.heap.size + 84)), (1, .ref s.heap.size), (0, .ref b)]) hx hb dL_law_17 rfl hl (by decide) rfl (fun ls hl => ?_)
  have r1 : ∀ j, j < 8 → gr j = some (s.heap.size + (16 + 2 * j)) ∧ fe (s.heap.size + (16 + 2 * j)) = some (oO 6 [.ref (s.heap.size + (16 + 2 * j) + 1), .int (nI 1), .int 0, .int 0]) ∧ fe (s.heap.size + (16 + 2 * j) + 1) = some (oI 40 (fun _ => 0)) := fun j hj => by
    have h9 := q_r j hj
    rw [show s.heap.size + 1 + 15 + 2 * j = s.heap.size + (16 + 2 * j) by omega, show s.heap.size + 1 + 16 + 2 * j = s.heap.size + (16 + 2 * j) + 1 by omega] at h9
    exact h9
  have r2 : ∀ j, j < 2 → gi j = some (s.heap.size + (32 + 2 * j)) ∧ fe (s.heap.size + (32 + 2 * j)) = some (rC (s.heap.size + (32 + 2 * j) + 1) (s.heap.size + 8) 0 (nI 1) 0 0 0 (-1000000)) ∧ fe (s.heap.size + (32 + 2 * j) + 1) = some (oJ 13 (fun _ => 0)) := fun j hj => by
    have h9 := q_i j hj
    rw [show s.heap.size + 1 + 31 + 2 * j = s.heap.size + (32 + 2 * j) by omega, show s.heap.size + 1 + 32 + 2 * j = s.heap.size + (32 + 2 * j) + 1 by omega] at h9
    exact h9
  have r3 : ∀ j, j < 24 → ga j = some (s.heap.size + (36 + 2 * j)) ∧ fe (s.heap.size + (36 + 2 * j)) = some (rC (s.heap.size + (36 + 2 * j) + 1) (s.heap.size + 8) 0 (nI 1) 0 0 0 (-1000000)) ∧ fe (s.heap.size + (36 + 2 * j) + 1) = some (oJ 13 (fun _ => 0)) := fun j hj => by
    have h9 := q_a j hj
    rw [show s.heap.size + 1 + 35 + 2 * j = s.heap.size + (36 + 2 * j) by omega, show s.heap.size + 1 + 36 + 2 * j = s.heap.size + (36 + 2 * j) + 1 by omega] at h9
    exact h9
  exact W.widen (k := 99 + 9 * 0) (n := 3372 + 52 * 0) (Nat.le_of_ble_eq_true rfl) (Nat.le_of_ble_eq_true rfl) (law_loop C hr hlocks hX hbl hL (L + 1) 0 (by omega) (by omega) _ _ _ _ _ (rel_start (b := s.heap.size) (up_o (up_o (up_o (up_o (up_o (up_o (up_o (up_o (up_o (up_o (up_o (up_o (up_o (up_o (up_o (up_o (q_x) (by omega)) (by omega)) (by omega)) (by omega)) (by omega)) (by omega)) (by omega)) (by omega)) (by omega)) (by omega)) (by omega)) (by omega)) (by omega)) (by omega)) (by omega)) (by omega)) (up_o (up_o (up_o (up_o (up_o (up_o (up_o (up_o (up_o (up_o (up_o (up_o (up_o (fx_up_s _ _ _) (by omega)) (by omega)) (by omega)) (by omega)) (by omega)) (by omega)) (by omega)) (by omega)) (by omega)) (by omega)) (by omega)) (by omega)) (by omega)) (up_o (up_o (up_o (up_o (up_o (up_o (up_o (up_o (up_o (up_o (up_o (up_o (up_o (up_o (fx_up_s _ _ _) (by omega)) (by omega)) (by omega)) (by omega)) (by omega)) (by omega)) (by omega)) (by omega)) (by omega)) (by omega)) (by omega)) (by omega)) (by omega)) (by omega)) (up_o (up_o (up_o (up_o (up_o (up_o (up_o (up_o (up_o (up_o (up_o (up_o (fx_up_s _ _ _) (by omega)) (by omega)) (by omega)) (by omega)) (by omega)) (by omega)) (by omega)) (by omega)) (by omega)) (by omega)) (by omega)) (by omega)) (up_o (up_o (up_o (up_o (up_o (up_o (up_o (up_o (up_o (up_o (up_o (fx_up_s _ _ _) (by omega)) (by omega)) (by omega)) (by omega)) (by omega)) (by omega)) (by omega)) (by omega)) (by omega)) (by omega)) (by omega)) (up_o (up_o (up_o (up_o (up_o (up_o (up_o (up_o (up_o (up_o (fx_up_s _ _ _) (by omega)) (by omega)) (by omega)) (by omega)) (by omega)) (by omega)) (by omega)) (by omega)) (by omega)) (by omega)) (up_o (up_o (up_o (up_o (up_o (up_o (up_o (up_o (up_o (fx_up_s _ _ _) (by omega)) (by omega)) (by omega)) (by omega)) (by omega)) (by omega)) (by omega)) (by omega)) (by omega)) (up_o (up_o (up_o (up_o (up_o (up_o (up_o (up_o (fx_up_s _ _ _) (by omega)) (by omega)) (by omega)) (by omega)) (by omega)) (by omega)) (by omega)) (by omega)) (up_o (up_o (up_o (up_o (up_o (up_o (up_o (fx_up_s _ _ _) (by omega)) (by omega)) (by omega)) (by omega)) (by omega)) (by omega)) (by omega)) (up_o (up_o (up_o (up_o (up_o (up_o (fx_up_s _ _ _) (by omega)) (by omega)) (by omega)) (by omega)) (by omega)) (by omega)) (up_o (up_o (up_o (up_o (up_o (fx_up_s _ _ _) (by omega)) (by omega)) (by omega)) (by omega)) (by omega)) (up_o (up_o (up_o (up_o (fx_up_s _ _ _) (by omega)) (by omega)) (by omega)) (by omega)) (up_o (up_o (up_o (fx_up_s _ _ _) (by omega)) (by omega)) (by omega)) (up_o (up_o (fx_up_s _ _ _) (by omega)) (by omega)) (up_o (fx_up_s _ _ _) (by omega)) (fx_up_s _ _ _) (up_o (up_o (up_o (up_o (up_o (up_o (up_o (up_o (up_o (up_o (up_o (up_o (up_o (up_o (up_o (up_o (q_ra) (by omega)) (by omega)) (by omega)) (by omega)) (by omega)) (by omega)) (by omega)) (by omega)) (by omega)) (by omega)) (by omega)) (by omega)) (by omega)) (by omega)) (by omega)) (by omega)) (up_o (up_o (up_o (up_o (up_o (up_o (up_o (up_o (up_o (up_o (up_o (up_o (up_o (up_o (up_o (up_o (q_tp) (by omega)) (by omega)) (by omega)) (by omega)) (by omega)) (by omega)) (by omega)) (by omega)) (by omega)) (by omega)) (by omega)) (by omega)) (by omega)) (by omega)) (by omega)) (by omega)) (up_o (up_o (up_o (up_o (up_o (up_o (up_o (up_o (up_o (up_o (up_o (up_o (up_o (up_o (up_o (up_o (q_by) (by omega)) (by omega)) (by omega)) (by omega)) (by omega)) (by omega)) (by omega)) (by omega)) (by omega)) (by omega)) (by omega)) (by omega)) (by omega)) (by omega)) (by omega)) (by omega)) (up_o (up_o (up_o (up_o (up_o (up_o (up_o (up_o (up_o (up_o (up_o (up_o (up_o (up_o (up_o (up_o (q_tc) (by omega)) (by omega)) (by omega)) (by omega)) (by omega)) (by omega)) (by omega)) (by omega)) (by omega)) (by omega)) (by omega)) (by omega)) (by omega)) (by omega)) (by omega)) (by omega)) (up_o (up_o (up_o (up_o (up_o (up_o (up_o (up_o (up_o (up_o (up_o (up_o (up_o (up_o (up_o (up_o (q_u) (by omega)) (by omega)) (by omega)) (by omega)) (by omega)) (by omega)) (by omega)) (by omega)) (by omega)) (by omega)) (by omega)) (by omega)) (by omega)) (by omega)) (by omega)) (by omega)) (up_o (up_o (up_o (up_o (up_o (up_o (up_o (up_o (up_o (up_o (up_o (up_o (up_o (up_o (up_o (up_o (q_ia) (by omega)) (by omega)) (by omega)) (by omega)) (by omega)) (by omega)) (by omega)) (by omega)) (by omega)) (by omega)) (by omega)) (by omega)) (by omega)) (by omega)) (by omega)) (by omega)) (up_o (up_o (up_o (up_o (up_o (up_o (up_o (up_o (up_o (up_o (up_o (up_o (up_o (up_o (up_o (up_o (q_aa) (by omega)) (by omega)) (by omega)) (by omega)) (by omega)) (by omega)) (by omega)) (by omega)) (by omega)) (by omega)) (by omega)) (by omega)) (by omega)) (by omega)) (by omega)) (by omega)) (up_o (up_o (up_o (up_o (up_o (up_o (up_o (up_o (up_o (up_o (up_o (up_o (up_o (up_o (up_o (up_o (q_w) (by omega)) (by omega)) (by omega)) (by omega)) (by omega)) (by omega)) (by omega)) (by omega)) (by omega)) (by omega)) (by omega)) (by omega)) (by omega)) (by omega)) (by omega)) (by omega)) (up_o (up_o (up_o (up_o (up_o (up_o (up_o (up_o (up_o (up_o (up_o (up_o (up_o (up_o (up_o (up_o (q_wt) (by omega)) (by omega)) (by omega)) (by omega)) (by omega)) (by omega)) (by omega)) (by omega)) (by omega)) (by omega)) (by omega)) (by omega)) (by omega)) (by omega)) (by omega)) (by omega)) (up_o (up_o (up_o (up_o (up_o (up_o (up_o (up_o (up_o (up_o (up_o (up_o (up_o (up_o (up_o (up_o (q_ch) (by omega)) (by omega)) (by omega)) (by omega)) (by omega)) (by omega)) (by omega)) (by omega)) (by omega)) (by omega)) (by omega)) (by omega)) (by omega)) (by omega)) (by omega)) (by omega)) (up_o (up_o (up_o (up_o (up_o (up_o (up_o (up_o (up_o (up_o (up_o (up_o (up_o (up_o (up_o (up_o (q_sk) (by omega)) (by omega)) (by omega)) (by omega)) (by omega)) (by omega)) (by omega)) (by omega)) (by omega)) (by omega)) (by omega)) (by omega)) (by omega)) (by omega)) (by omega)) (by omega)) (up_o (up_o (up_o (up_o (up_o (up_o (up_o (up_o (up_o (up_o (up_o (up_o (up_o (up_o (up_o (up_o (q_ro) (by omega)) (by omega)) (by omega)) (by omega)) (by omega)) (by omega)) (by omega)) (by omega)) (by omega)) (by omega)) (by omega)) (by omega)) (by omega)) (by omega)) (by omega)) (by omega)) (up_o (up_o (up_o (up_o (up_o (up_o (up_o (up_o (up_o (up_o (up_o (up_o (up_o (up_o (up_o (up_o (q_k) (by omega)) (by omega)) (by omega)) (by omega)) (by omega)) (by omega)) (by omega)) (by omega)) (by omega)) (by omega)) (by omega)) (by omega)) (by omega)) (by omega)) (by omega)) (by omega)) (up_o (up_o (up_o (up_o (up_o (up_o (up_o (up_o (up_o (up_o (up_o (up_o (up_o (up_o (up_o (up_o (q_tr) (by omega)) (by omega)) (by omega)) (by omega)) (by omega)) (by omega)) (by omega)) (by omega)) (by omega)) (by omega)) (by omega)) (by omega)) (by omega)) (by omega)) (by omega)) (by omega)) (up_o (up_o (up_o (up_o (up_o (up_o (up_o (up_o (up_o (up_o (up_o (up_o (up_o (up_o (up_o (up_o (q_k2) (by omega)) (by omega)) (by omega)) (by omega)) (by omega)) (by omega)) (by omega)) (by omega)) (by omega)) (by omega)) (by omega)) (by omega)) (by omega)) (by omega)) (by omega)) (by omega)) (fun j hj => ⟨(r1 j hj).1, up_o (up_o (up_o (up_o (up_o (up_o (up_o (up_o (up_o (up_o (up_o (up_o (up_o (up_o (up_o (up_o ((r1 j hj).2.1) (by omega)) (by omega)) (by omega)) (by omega)) (by omega)) (by omega)) (by omega)) (by omega)) (by omega)) (by omega)) (by omega)) (by omega)) (by omega)) (by omega)) (by omega)) (by omega), up_o (up_o (up_o (up_o (up_o (up_o (up_o (up_o (up_o (up_o (up_o (up_o (up_o (up_o (up_o (up_o ((r1 j hj).2.2) (by omega)) (by omega)) (by omega)) (by omega)) (by omega)) (by omega)) (by omega)) (by omega)) (by omega)) (by omega)) (by omega)) (by omega)) (by omega)) (by omega)) (by omega)) (by omega)⟩) (fun j hj => ⟨(r2 j hj).1, up_o (up_o (up_o (up_o (up_o (up_o (up_o (up_o (up_o (up_o (up_o (up_o (up_o (up_o (up_o (up_o ((r2 j hj).2.1) (by omega)) (by omega)) (by omega)) (by omega)) (by omega)) (by omega)) (by omega)) (by omega)) (by omega)) (by omega)) (by omega)) (by omega)) (by omega)) (by omega)) (by omega)) (by omega), up_o (up_o (up_o (up_o (up_o (up_o (up_o (up_o (up_o (up_o (up_o (up_o (up_o (up_o (up_o (up_o ((r2 j hj).2.2) (by omega)) (by omega)) (by omega)) (by omega)) (by omega)) (by omega)) (by omega)) (by omega)) (by omega)) (by omega)) (by omega)) (by omega)) (by omega)) (by omega)) (by omega)) (by omega)⟩) (fun j hj => ⟨(r3 j hj).1, up_o (up_o (up_o (up_o (up_o (up_o (up_o (up_o (up_o (up_o (up_o (up_o (up_o (up_o (up_o (up_o ((r3 j hj).2.1) (by omega)) (by omega)) (by omega)) (by omega)) (by omega)) (by omega)) (by omega)) (by omega)) (by omega)) (by omega)) (by omega)) (by omega)) (by omega)) (by omega)) (by omega)) (by omega), up_o (up_o (up_o (up_o (up_o (up_o (up_o (up_o (up_o (up_o (up_o (up_o (up_o (up_o (up_o (up_o ((r3 j hj).2.2) (by omega)) (by omega)) (by omega)) (by omega)) (by omega)) (by omega)) (by omega)) (by omega)) (by omega)) (by omega)) (by omega)) (by omega)) (by omega)) (by omega)) (by omega)) (by omega)⟩)) hH (lv_sub hl [3, 2, 1, 0] rfl))
set_option maxHeartbeats 4000000 in
theorem lw_walk (l : Launch) (hflags : l.flags = flags0) (b : Addr) (xs : List Int32) : MetFree l x (headSpec (Jvm.Cond.code x code maxLocals ret :: tables_1) room_1) (lw_P b xs) (fun _ _ _ _ _ => True) lw_Q := by
  refine MetFree.of_bodyS (code := code) (maxLocals := maxLocals) (ret := ret) (by decide) ?_ ?_
  · intro args s m h hn
    obtain ⟨meth, c, h1, h2, h3, h4, h5, h6, -, -⟩ := Cond.code_spec hn (atoms_spec (ws := Jvm.Cond.code x code maxLocals ret :: tables_1) h _ List.mem_cons_self)
    exact ⟨meth, c, h1, h2, h3, h4, h5, h6⟩
  · intro p e s m args below meth c s₁ B hml0 hP _
    obtain ⟨rfl, hx, hbd, hgv⟩ := hP
    obtain ⟨scr, harrAt, hlist, hof, hsmall⟩ := hx
    obtain ⟨hcb, hkn, -, -⟩ := State.arrayAt?_spec harrAt
    have hown : s.vm.findClass R_law = some m.cls := findClass_of_methodNamed B.named
    have hts0 : ∀ c ∈ (Jvm.Cond.code x code maxLocals ret :: tables_1), c.before #[Value.ref b] s = true := atoms_spec (ws := Jvm.Cond.code x code maxLocals ret :: tables_1) B.pre
    have hts : ∀ w ∈ lw_tbl, w.before #[Value.ref b] s = true := k2_hts_sels lw_privs (fun w hw => hts0 w (List.mem_cons_of_mem _ hw)) lw_privs_ok
    have hml : c.maxLocals = 4 := B.maxLocals_eq (hts0 _ List.mem_cons_self)
    have X₀ : Stand p l e room_1 s m #[Value.ref b] below meth c s₁ [] 0 0 := Stand.of_body B
    have hh0 : s₁.heap = s.heap := by rw [B.state]; rfl
    have hsz : scr.slots.size = xs.length := by rw [← Array.length_toList, hlist, List.length_map]
    have hval : ∀ j : Nat, j < xs.length → scr.slots[j]? = some (.int (xs.getD j 0)) := fun j hj => by
      rw [← Array.getElem?_toList, hlist]
      simp [hj]
    have hbl : b < s.heap.size := (Array.getElem?_eq_some_iff.mp hcb).1
    have hX : va_X b xs.length (fun j => xs.getD j 0) s s.heap := ⟨scr, hcb, hof, hkn, hsz, hval⟩
    have K : W p l e room_1 s m #[Value.ref b] below meth c s₁.heap [] 0 0 (lw_Z below #[Value.ref b] s) (entryFrame m ([Value.ref b] : List Value).toArray 4) := by
      rw [hh0]
      exact whole_start l hflags hbd ⟨B.exec, B.bytes, B.returns, hml, hown, hts, hX, hbl, B.notSynchronized, hgv⟩
    obtain ⟨t, a1, o, b1, b2, b3⟩ := K s₁ rfl X₀
    exact ⟨t, o, a1, b1, b2, b3⟩
theorem lw_pre_spec {args : Array Value} {s : State} (h : (Jvm.Cond.and given_1 narrow_1).before args s = true) (hr : rest_1_c.before args s = true) : ∃ (b : Addr) (xs : List Int32), lw_P b xs args s := by
  have hs := flat_of_before _ h
  have hq := flat_of_before _ hr
  have hc : (Cond.count 1).before args s = true := hs _ (by decide +kernel)
  have harr : (Cond.arrayOf (.arg 0) .int).before args s = true := hs _ (by decide +kernel)
  have hle : (Cond.le (.length (.arg 0)) (.int 384)).before args s = true := hs _ (by decide +kernel)
  have hlen : (Cond.isInt (.length (.arg 0))).before args s = true := hq _ (by decide +kernel)
  have hall : (Cond.all (.arg 0) (.isInt (.elem (.arg 0) (.index 0)))).before args s = true := hq _ (by decide +kernel)
  obtain ⟨b, xs, hb, hx⟩ := State.ints_of_pre rfl harr hlen hall
  have hsm : xs.length < 2 ^ 31 := hx.choose_spec.2.2.2
  have hev : (Term.length (.arg 0)).eval args s none [] s = some (.int xs.length.toInt32) := hx.length_eval hb
  have hv := Cond.le_ints hev (show (Term.int 384).eval args s none [] s = some (.int 384) from rfl)
  have hd : xs.length.toInt32 ≤ 384 := by
    simpa [Cond.before, Cond.holds, hv] using hle
  have hN : xs.length ≤ 384 := (Int32.ofNat_le_ofNat hsm (by decide)).mp (show Int32.ofNat xs.length ≤ Int32.ofNat 384 from hd)
  exact ⟨b, xs, Cond.one_arg hc (show args[0]? = some (.ref b) from hb), hx, hN, h⟩
theorem lw_comes (l : Launch) (hflags : l.flags = flags0) : Comes l x (Jvm.Cond.code x code maxLocals ret :: tables_1) room_1 (fun tb e args s => Calls_1 tb e args s ∧ rest_1 tb e args s ∧ Pre_1 tb e args s)
    (fun _ _ args s o t => lw_Q args s o t) := by
  intro p e ha hc hk s m args below hf hfit hheap happ hpre
  obtain ⟨b, xs, hP⟩ := lw_pre_spec hpre.2.2 hpre.2.1
  obtain ⟨k, o, h1, h2, h3, hQ⟩ := lw_walk l hflags b xs p e ha hc hk s m args below hf ((Spec.applies_iff_loose hf).mp happ).1 hP trivial
  exact ⟨k, o, h1, h2, h3, hQ⟩
theorem lw_frame {s t : State} {o : Outcome} {args : Array Value} (h : Framed s o t [] 600000 7302250) :
    Framed s o t (fieldLocs frame_1_writes args s ++ arrayLocs frame_1_arrays args s ++ staticLocs frame_1_statics s) 600000 7302250 := h
theorem lw_limb (L : Cond) (hL : ∀ (args : Array Value) (s t : State), L.after args s (.returned (some (.int 1))) t = true) :
    ArmFor flags0 classFile x code maxLocals ret World_1 tables_1 room_1 Calls_1 rest_1 Pre_1
      (fun tb e a s o t => postC L tb e a s o t ∧ Framed s o t (fieldLocs frame_1_writes a s ++ arrayLocs frame_1_arrays a s ++ staticLocs frame_1_statics s) 600000 7302250) := by
  intro l hflags _ _ p e ha hc hk s m args below hf hfit hheap happ hpre
  obtain ⟨k, o, h1, h2, h3, rfl, hF⟩ := lw_comes l hflags p e ha hc hk s m args below hf hfit hheap happ hpre
  exact ⟨k, _, h1, h2, h3, hL args s _, lw_frame hF⟩
theorem i_vc : Claimed_1_1 ∧ Claimed_1_2 := ⟨lw_limb limb_1_1 (fun args s t => by simp [limb_1_1, Cond.after, Cond.holds, Cond.value]), lw_limb limb_1_2 (fun args s t => Cond.after_iff.mpr (by
  first | (rw [show limb_1_2 = Cond.eq .result (.int 1) from rfl, Cond.eq_ints (x := 1) (y := 1) rfl rfl]; simp; done) | (simp [limb_1_2, Cond.value, Term.eval]; done)))⟩
