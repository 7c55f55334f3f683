abbrev rm_X12_notBy : Room := { frames := 2, cells := 0, slots := 0, locals := 47 }
set_option maxHeartbeats 4000000 in
set_option maxRecDepth 100000 in
theorem c_X12_notBy {G : GG} {base : Nat} {l : Launch} {f : Hp} {sz : Nat} {K : Nat} {wi : Nat} {ag : Nat} {P : Nat} {pl : Nat} {wy : Int32} {wd : Nat → Nat} {mo : Nat} {j : Nat} {at_ : Nat} {n : Nat} {mm : Nat} {th : Int32} {sa : Int32} {la : Nat} {ma : Nat} {it : Nat} {rl : Nat} {fr : Nat} {li : Nat} {wa : Nat} {ld : Nat} {ac : Int32} {tp : Nat} {tn : Int32} {cu : Int32} {sr : Int32} {tk : Int32} {va : Int32} {ft : Int32} {fA : Int32} {lt : Int32} {so : Nat} {ik : Nat} {kp : Nat} {kl : Nat} {tc : Nat} {tt : Int32} {rho : Nat → Int32} {lam : Nat → Int64} {gso : Nat → Int64} {git : Nat → Int32} (h_mo : f mo = some (oO 11 [.int th, .int sa, .ref la, .ref ma, .ref it, .ref rl, .ref fr, .ref li, .ref wa, .ref ld, .int ac, .ref tp, .int tn, .int cu, .int sr, .int tk, .int va, .int ft, .int fA, .int lt, .ref so, .ref ik, .ref kp, .ref kl, .ref tc, .int tt])) (h_rl : f rl = some (oI 48 rho)) (h_li : f li = some (oJ 13 lam)) (h_so : f so = some (oJ 13 gso)) (h_it : f it = some (oI 320 git)) (hne_0 : rl ≠ it) (hne_1 : li ≠ so) (hj : j < 4) (hk0 : rho (36 + (3 * j) + 0) = nI K) (hk1 : rho (36 + (3 * j) + 1) = nI wi) (hk2 : rho (36 + (3 * j) + 2) = nI ag) (hK : 1 ≤ K ∧ K ≤ 5) (hwi : wi ≤ 10) (hag : ag ≤ 10) (hP : rho 0 = nI P) (hP2 : 1 ≤ P ∧ P ≤ 12) (hP4 : 4 ≤ P) (hpl : rho 6 = nI pl) (hpl2 : pl < P) (hwy : rho 7 = wy) (hwy2 : wy = nI 1 ∨ wy = -1) (hn : 1 ≤ n ∧ n ≤ 8) (hm : 1 ≤ mm ∧ mm ≤ 6) (hat : at_ + n ≤ 320) (hwd : ∀ z, z < n → git (at_ + z) = nI (wd z) ∧ wd z ≤ 3) : fx_M G base l yX12_notBy cX12_notBy 10 (some .long) rm_X12_notBy [.ref mo, .int (nI j), .int (nI at_), .int (nI n), .int (nI mm)] f sz (some (.long (sJ (qS (fJ gso 0 lam 13) P pl wy wd n K wi ag mm) (P + 1)))) (fx_up f so (oJ 13 (qS (fJ gso 0 lam 13) P pl wy wd n K wi ag mm))) sz := by
  refine fx_of (by decide +kernel) (Nat.le_of_ble_eq_true rfl) ?_
  intro p e s m args below meth c C hr hk hnm hH ls hl
  obtain ⟨locs, hlocs⟩ : ∃ L : List Loc, L = [] := ⟨_, rfl⟩
  rw [← hlocs] at hH ⊢
  generalize s.heap = H at hH ⊢
  have hx := C.1
  have hb := C.2.1
  have hl : lv_has ls 10 [(0, .ref mo), (1, .int (nI j)), (2, .int (nI at_)), (3, .int (nI n)), (4, .int (nI mm))] := hl
  refine lv_iconst (v := nI 0) hx hb dX12_notBy_0 (by decide) ?_
  refine lv_istore (lv' := [(5, .int (nI 0)), (0, .ref mo), (1, .int (nI j)), (2, .int (nI at_)), (3, .int (nI n)), (4, .int (nI mm))]) hx hb dX12_notBy_1 hl (by decide) rfl (fun ls hl => ?_)
  have loop_3 : ∀ (N_3 : Nat) (i : Nat) (hi : i ≤ 13) (hm_3 : 13 - i < N_3) (H : Heap) (locs : List Loc) (hH : fx_H G base s (fx_up f so (oJ 13 (fJ gso 0 lam i))) sz H locs) (ls : Array Slot) (hl : lv_has ls 10 [(0, .ref mo), (1, .int (nI j)), (2, .int (nI at_)), (3, .int (nI n)), (4, .int (nI mm)), (5, .int (nI i))]), W p l e rm_X12_notBy s m args below meth c H locs 0 0 (MQ below (fx_Q G base (some (.long (sJ (qS (fJ gso 0 lam 13) P pl wy wd n K wi ag mm) (P + 1)))) (fx_up f so (oJ 13 (qS (fJ gso 0 lam 13) P pl wy wd n K wi ag mm))) sz) args s rm_X12_notBy.cells rm_X12_notBy.slots (fun q => base ≤ q)) (F0 m 3 ls []) := by
    intro N_3
    induction N_3 with
    | zero => intro i hi hm_3; exact absurd hm_3 (Nat.not_lt_zero _)
    | succ N_3 ih_3 =>
      intro i hi hm_3 H locs hH ls hl
      have h1_mo : (fx_up f so (oJ 13 (fJ gso 0 lam i))) mo = some (oO 11 [.int th, .int sa, .ref la, .ref ma, .ref it, .ref rl, .ref fr, .ref li, .ref wa, .ref ld, .int ac, .ref tp, .int tn, .int cu, .int sr, .int tk, .int va, .int ft, .int fA, .int lt, .ref so, .ref ik, .ref kp, .ref kl, .ref tc, .int tt]) := (fx_up_n _ _ (fx_ne h_mo h_so rfl)).trans (h_mo)
      have h1_rl : (fx_up f so (oJ 13 (fJ gso 0 lam i))) rl = some (oI 48 rho) := (fx_up_n _ _ (fx_ne h_rl h_so rfl)).trans (h_rl)
      have h1_li : (fx_up f so (oJ 13 (fJ gso 0 lam i))) li = some (oJ 13 lam) := (fx_up_n _ _ hne_1).trans (h_li)
      have h1_so : (fx_up f so (oJ 13 (fJ gso 0 lam i))) so = some (oJ 13 (fJ gso 0 lam i)) := fx_up_s _ _ _
      have h1_it : (fx_up f so (oJ 13 (fJ gso 0 lam i))) it = some (oI 320 git) := (fx_up_n _ _ (fx_ne h_it h_so rfl)).trans (h_it)
      refine lv_iload hx hb dX12_notBy_3 (lv_at hl 5 rfl) ?_
      refine lv_bipush (v := nI 13) hx hb dX12_notBy_5 (by decide) ?_
      refine fx_N_ge (a := i) (b := 13) hx hb (by omega) (by omega) (tgt := 30) dX12_notBy_7 (by decide) (fun c7 => ?_) (fun c7 => ?_)
      · refine lv_aload_n hx hb dX12_notBy_30 rfl (lv_at hl 0 rfl) ?_
        refine fx_get C hH (k := 5) (v := .ref rl) h1_mo ff_X12_19_11 rfl dX12_notBy_31 ?_
        refine lv_bipush (v := nI 6) hx hb dX12_notBy_34 (by decide) ?_
        refine fx_ialdN C hH h1_rl (by omega) (by omega) dX12_notBy_36 ?_
        refine fx_ti (y := nI pl) hpl ?_
        refine lv_istore (lv' := [(5, .int (nI pl)), (0, .ref mo), (1, .int (nI j)), (2, .int (nI at_)), (3, .int (nI n)), (4, .int (nI mm))]) hx hb dX12_notBy_37 hl (by decide) rfl (fun ls hl => ?_)
        refine lv_aload_n hx hb dX12_notBy_39 rfl (lv_at hl 1 rfl) ?_
        refine fx_get C hH (k := 5) (v := .ref rl) h1_mo ff_X12_19_11 rfl dX12_notBy_40 ?_
        refine lv_bipush (v := nI 7) hx hb dX12_notBy_43 (by decide) ?_
        refine fx_ialdN C hH h1_rl (by omega) (by omega) dX12_notBy_45 ?_
        refine fx_ti (y := wy) hwy ?_
        refine lv_istore (lv' := [(6, .int wy), (5, .int (nI pl)), (0, .ref mo), (1, .int (nI j)), (2, .int (nI at_)), (3, .int (nI n)), (4, .int (nI mm))]) hx hb dX12_notBy_46 hl (by decide) rfl (fun ls hl => ?_)
        refine lv_iconst (v := nI 0) hx hb dX12_notBy_48 (by decide) ?_
        refine lv_istore (lv' := [(7, .int (nI 0)), (6, .int wy), (5, .int (nI pl)), (0, .ref mo), (1, .int (nI j)), (2, .int (nI at_)), (3, .int (nI n)), (4, .int (nI mm))]) hx hb dX12_notBy_49 hl (by decide) rfl (fun ls hl => ?_)
        have loop_51 : ∀ (N_51 : Nat) (k_ : Nat) (hk_ : k_ ≤ mm) (hm_51 : mm - k_ < N_51) (H : Heap) (locs : List Loc) (hH : fx_H G base s (fx_up f so (oJ 13 (qS (fJ gso 0 lam 13) P pl wy wd n K wi ag k_))) sz H locs) (ls : Array Slot) (hl : lv_has ls 10 [(0, .ref mo), (1, .int (nI j)), (2, .int (nI at_)), (3, .int (nI n)), (4, .int (nI mm)), (5, .int (nI ((nwS P pl wy wd n k_).1))), (6, .int ((nwS P pl wy wd n k_).2)), (7, .int (nI k_))]), W p l e rm_X12_notBy s m args below meth c H locs 0 0 (MQ below (fx_Q G base (some (.long (sJ (qS (fJ gso 0 lam 13) P pl wy wd n K wi ag mm) (P + 1)))) (fx_up f so (oJ 13 (qS (fJ gso 0 lam 13) P pl wy wd n K wi ag mm))) sz) args s rm_X12_notBy.cells rm_X12_notBy.slots (fun q => base ≤ q)) (F0 m 51 ls []) := by
          intro N_51
          induction N_51 with
          | zero => intro k_ hk_ hm_51; exact absurd hm_51 (Nat.not_lt_zero _)
          | succ N_51 ih_51 =>
            intro k_ hk_ hm_51 H locs hH ls hl
            have h2_mo : (fx_up f so (oJ 13 (qS (fJ gso 0 lam 13) P pl wy wd n K wi ag k_))) mo = some (oO 11 [.int th, .int sa, .ref la, .ref ma, .ref it, .ref rl, .ref fr, .ref li, .ref wa, .ref ld, .int ac, .ref tp, .int tn, .int cu, .int sr, .int tk, .int va, .int ft, .int fA, .int lt, .ref so, .ref ik, .ref kp, .ref kl, .ref tc, .int tt]) := (fx_up_n _ _ (fx_ne h1_mo h1_so rfl)).trans (h_mo)
            have h2_rl : (fx_up f so (oJ 13 (qS (fJ gso 0 lam 13) P pl wy wd n K wi ag k_))) rl = some (oI 48 rho) := (fx_up_n _ _ (fx_ne h1_rl h1_so rfl)).trans (h_rl)
            have h2_li : (fx_up f so (oJ 13 (qS (fJ gso 0 lam 13) P pl wy wd n K wi ag k_))) li = some (oJ 13 lam) := (fx_up_n _ _ hne_1).trans (h_li)
            have h2_so : (fx_up f so (oJ 13 (qS (fJ gso 0 lam 13) P pl wy wd n K wi ag k_))) so = some (oJ 13 (qS (fJ gso 0 lam 13) P pl wy wd n K wi ag k_)) := fx_up_s _ _ _
            have h2_it : (fx_up f so (oJ 13 (qS (fJ gso 0 lam 13) P pl wy wd n K wi ag k_))) it = some (oI 320 git) := (fx_up_n _ _ (fx_ne h1_it h1_so rfl)).trans (h_it)
            have hns := nwS_ok (wd := wd) (n := n) hP2.1 hpl2 hwy2 k_
            have hmod : k_ % n < n := Nat.mod_lt _ (by omega)
            have hwk := hwd (k_ % n) hmod
            have hfl : feN K wi ag (nwS P pl wy wd n k_).2 ≤ 10 := feN_le hwi hag
            refine lv_iload hx hb dX12_notBy_51 (lv_at hl 7 rfl) ?_
            refine lv_iload hx hb dX12_notBy_53 (lv_at hl 4 rfl) ?_
            refine fx_N_ge (a := k_) (b := mm) hx hb (by omega) (by omega) (tgt := 183) dX12_notBy_55 (by decide) (fun c55 => ?_) (fun c55 => ?_)
            · refine lv_lconst (v := lN 0) hx hb dX12_notBy_183 (by decide) ?_
              refine lv_lstore (lv' := [(7, .long (lN 0)), (0, .ref mo), (1, .int (nI j)), (2, .int (nI at_)), (3, .int (nI n)), (4, .int (nI mm)), (5, .int (nI ((nwS P pl wy wd n k_).1))), (6, .int ((nwS P pl wy wd n k_).2))]) hx hb dX12_notBy_184 hl (by decide) rfl (fun ls hl => ?_)
              refine lv_iconst (v := nI 0) hx hb dX12_notBy_186 (by decide) ?_
              refine lv_istore (lv' := [(9, .int (nI 0)), (7, .long (lN 0)), (0, .ref mo), (1, .int (nI j)), (2, .int (nI at_)), (3, .int (nI n)), (4, .int (nI mm)), (5, .int (nI ((nwS P pl wy wd n k_).1))), (6, .int ((nwS P pl wy wd n k_).2))]) hx hb dX12_notBy_187 hl (by decide) rfl (fun ls hl => ?_)
              have loop_189 : ∀ (N_189 : Nat) (p2 : Nat) (hp2 : p2 ≤ P + 1) (hm_189 : P + 1 - p2 < N_189) (H : Heap) (locs : List Loc) (hH : fx_H G base s (fx_up f so (oJ 13 (qS (fJ gso 0 lam 13) P pl wy wd n K wi ag k_))) sz H locs) (ls : Array Slot) (hl : lv_has ls 10 [(0, .ref mo), (7, .long (sJ (qS (fJ gso 0 lam 13) P pl wy wd n K wi ag k_) p2)), (9, .int (nI p2))]), W p l e rm_X12_notBy s m args below meth c H locs 0 0 (MQ below (fx_Q G base (some (.long (sJ (qS (fJ gso 0 lam 13) P pl wy wd n K wi ag mm) (P + 1)))) (fx_up f so (oJ 13 (qS (fJ gso 0 lam 13) P pl wy wd n K wi ag mm))) sz) args s rm_X12_notBy.cells rm_X12_notBy.slots (fun q => base ≤ q)) (F0 m 189 ls []) := by
                intro N_189
                induction N_189 with
                | zero => intro p2 hp2 hm_189; exact absurd hm_189 (Nat.not_lt_zero _)
                | succ N_189 ih_189 =>
                  intro p2 hp2 hm_189 H locs hH ls hl
                  refine lv_iload hx hb dX12_notBy_189 (lv_at hl 2 rfl) ?_
                  refine lv_aload_n hx hb dX12_notBy_191 rfl (lv_at hl 0 rfl) ?_
                  refine fx_get C hH (k := 5) (v := .ref rl) h2_mo ff_X12_19_11 rfl dX12_notBy_192 ?_
                  refine lv_iconst (v := nI 0) hx hb dX12_notBy_195 (by decide) ?_
                  refine fx_ialdN C hH h2_rl (by omega) (by omega) dX12_notBy_196 ?_
                  refine fx_ti (y := nI P) hP ?_
                  refine fx_N_gt (a := p2) (b := P) hx hb (by omega) (by omega) (tgt := 218) dX12_notBy_197 (by decide) (fun c197 => ?_) (fun c197 => ?_)
                  · refine lv_lload hx hb dX12_notBy_218 (lv_at hl 1 rfl) ?_
                    exact fx_lret C hr hk hH (by rw [show k_ = mm from by omega, show p2 = P + 1 from by omega]) (by rw [show k_ = mm from by omega]) rfl (Nat.zero_le _) (Nat.zero_le _) dX12_notBy_220
                  · refine lv_lload hx hb dX12_notBy_200 (lv_at hl 1 rfl) ?_
                    refine lv_aload_n hx hb dX12_notBy_202 rfl (lv_at hl 0 rfl) ?_
                    refine fx_get C hH (k := 20) (v := .ref so) h2_mo ff_X12_38_11 rfl dX12_notBy_203 ?_
                    refine lv_iload hx hb dX12_notBy_206 (lv_at hl 2 rfl) ?_
                    refine fx_laldN C hH h2_so (by omega) (by omega) dX12_notBy_208 ?_
                    refine lv_ladd hx hb dX12_notBy_209 ?_
                    refine lv_lstore (lv' := [(7, .long ((sJ (qS (fJ gso 0 lam 13) P pl wy wd n K wi ag k_) p2) + ((qS (fJ gso 0 lam 13) P pl wy wd n K wi ag k_) p2))), (0, .ref mo), (9, .int (nI p2))]) hx hb dX12_notBy_210 hl (by decide) rfl (fun ls hl => ?_)
                    refine lv_iinc (v := nI (p2 + 1)) (lv' := [(9, .int (nI (p2 + 1))), (7, .long ((sJ (qS (fJ gso 0 lam 13) P pl wy wd n K wi ag k_) p2) + ((qS (fJ gso 0 lam 13) P pl wy wd n K wi ag k_) p2))), (0, .ref mo)]) hx hb dX12_notBy_212 hl (k := 2) rfl (nI_1 _) (by decide) rfl (fun ls hl => ?_)
                    refine lv_goto (tgt := 189) hx hb dX12_notBy_215 (by decide) ?_
                    have hl : lv_has ls 10 [(0, .ref mo), (7, .long ((sJ (qS (fJ gso 0 lam 13) P pl wy wd n K wi ag k_) p2) + ((qS (fJ gso 0 lam 13) P pl wy wd n K wi ag k_) p2))), (9, .int (nI (p2 + 1)))] := lv_sub hl [2, 1, 0] rfl
                    have hl : lv_has ls 10 [(0, .ref mo), (7, .long (sJ (qS (fJ gso 0 lam 13) P pl wy wd n K wi ag k_) (p2 + 1))), (9, .int (nI (p2 + 1)))] := hl
                    exact ih_189 (p2 + 1) (by omega) (by omega) _ _ hH _ hl
              have hl : lv_has ls 10 [(0, .ref mo), (7, .long (lN 0)), (9, .int (nI 0))] := lv_sub hl [2, 1, 0] rfl
              have hl : lv_has ls 10 [(0, .ref mo), (7, .long (sJ (qS (fJ gso 0 lam 13) P pl wy wd n K wi ag k_) 0)), (9, .int (nI 0))] := hl
              exact loop_189 _ 0 (by omega) (Nat.lt_succ_self _) _ _ hH _ hl
            · refine lv_iconst (v := nI 0) hx hb dX12_notBy_58 (by decide) ?_
              refine lv_istore (lv' := [(8, .int (nI 0)), (0, .ref mo), (1, .int (nI j)), (2, .int (nI at_)), (3, .int (nI n)), (4, .int (nI mm)), (5, .int (nI ((nwS P pl wy wd n k_).1))), (6, .int ((nwS P pl wy wd n k_).2)), (7, .int (nI k_))]) hx hb dX12_notBy_59 hl (by decide) rfl (fun ls hl => ?_)
              have loop_61 : ∀ (N_61 : Nat) (p1 : Nat) (hp1 : p1 ≤ P + 1) (hm_61 : P + 1 - p1 < N_61) (H : Heap) (locs : List Loc) (hH : fx_H G base s (fx_up f so (oJ 13 (wgR (qS (fJ gso 0 lam 13) P pl wy wd n K wi ag k_) (fun z => if z = (nwS P pl wy wd n k_).1 then 10 - feN K wi ag (nwS P pl wy wd n k_).2 else 10) p1))) sz H locs) (ls : Array Slot) (hl : lv_has ls 10 [(0, .ref mo), (1, .int (nI j)), (2, .int (nI at_)), (3, .int (nI n)), (4, .int (nI mm)), (5, .int (nI ((nwS P pl wy wd n k_).1))), (6, .int ((nwS P pl wy wd n k_).2)), (7, .int (nI k_)), (8, .int (nI p1))]), W p l e rm_X12_notBy s m args below meth c H locs 0 0 (MQ below (fx_Q G base (some (.long (sJ (qS (fJ gso 0 lam 13) P pl wy wd n K wi ag mm) (P + 1)))) (fx_up f so (oJ 13 (qS (fJ gso 0 lam 13) P pl wy wd n K wi ag mm))) sz) args s rm_X12_notBy.cells rm_X12_notBy.slots (fun q => base ≤ q)) (F0 m 61 ls []) := by
                intro N_61
                induction N_61 with
                | zero => intro p1 hp1 hm_61; exact absurd hm_61 (Nat.not_lt_zero _)
                | succ N_61 ih_61 =>
                  intro p1 hp1 hm_61 H locs hH ls hl
                  have h3_mo : (fx_up f so (oJ 13 (wgR (qS (fJ gso 0 lam 13) P pl wy wd n K wi ag k_) (fun z => if z = (nwS P pl wy wd n k_).1 then 10 - feN K wi ag (nwS P pl wy wd n k_).2 else 10) p1))) mo = some (oO 11 [.int th, .int sa, .ref la, .ref ma, .ref it, .ref rl, .ref fr, .ref li, .ref wa, .ref ld, .int ac, .ref tp, .int tn, .int cu, .int sr, .int tk, .int va, .int ft, .int fA, .int lt, .ref so, .ref ik, .ref kp, .ref kl, .ref tc, .int tt]) := (fx_up_n _ _ (fx_ne h2_mo h2_so rfl)).trans (h_mo)
                  have h3_rl : (fx_up f so (oJ 13 (wgR (qS (fJ gso 0 lam 13) P pl wy wd n K wi ag k_) (fun z => if z = (nwS P pl wy wd n k_).1 then 10 - feN K wi ag (nwS P pl wy wd n k_).2 else 10) p1))) rl = some (oI 48 rho) := (fx_up_n _ _ (fx_ne h2_rl h2_so rfl)).trans (h_rl)
                  have h3_li : (fx_up f so (oJ 13 (wgR (qS (fJ gso 0 lam 13) P pl wy wd n K wi ag k_) (fun z => if z = (nwS P pl wy wd n k_).1 then 10 - feN K wi ag (nwS P pl wy wd n k_).2 else 10) p1))) li = some (oJ 13 lam) := (fx_up_n _ _ hne_1).trans (h_li)
                  have h3_so : (fx_up f so (oJ 13 (wgR (qS (fJ gso 0 lam 13) P pl wy wd n K wi ag k_) (fun z => if z = (nwS P pl wy wd n k_).1 then 10 - feN K wi ag (nwS P pl wy wd n k_).2 else 10) p1))) so = some (oJ 13 (wgR (qS (fJ gso 0 lam 13) P pl wy wd n K wi ag k_) (fun z => if z = (nwS P pl wy wd n k_).1 then 10 - feN K wi ag (nwS P pl wy wd n k_).2 else 10) p1)) := fx_up_s _ _ _
                  have h3_it : (fx_up f so (oJ 13 (wgR (qS (fJ gso 0 lam 13) P pl wy wd n K wi ag k_) (fun z => if z = (nwS P pl wy wd n k_).1 then 10 - feN K wi ag (nwS P pl wy wd n k_).2 else 10) p1))) it = some (oI 320 git) := (fx_up_n _ _ (fx_ne h2_it h2_so rfl)).trans (h_it)
                  refine lv_iload hx hb dX12_notBy_61 (lv_at hl 8 rfl) ?_
                  refine lv_aload_n hx hb dX12_notBy_63 rfl (lv_at hl 0 rfl) ?_
                  refine fx_get C hH (k := 5) (v := .ref rl) h3_mo ff_X12_19_11 rfl dX12_notBy_64 ?_
                  refine lv_iconst (v := nI 0) hx hb dX12_notBy_67 (by decide) ?_
                  refine fx_ialdN C hH h3_rl (by omega) (by omega) dX12_notBy_68 ?_
                  refine fx_ti (y := nI P) hP ?_
                  refine fx_N_gt (a := p1) (b := P) hx hb (by omega) (by omega) (tgt := 112) dX12_notBy_69 (by decide) (fun c69 => ?_) (fun c69 => ?_)
                  · refine lv_aload_n hx hb dX12_notBy_112 rfl (lv_at hl 0 rfl) ?_
                    refine fx_get C hH (k := 4) (v := .ref it) h3_mo ff_X12_16_11 rfl dX12_notBy_113 ?_
                    refine lv_iload_n hx hb dX12_notBy_116 rfl (lv_at hl 2 rfl) ?_
                    refine lv_iload hx hb dX12_notBy_117 (lv_at hl 7 rfl) ?_
                    refine lv_iload_n hx hb dX12_notBy_119 rfl (lv_at hl 3 rfl) ?_
                    refine lv_irem hx hb dX12_notBy_120 (fun q => absurd ((nI_eq (b := 0) (by omega) (by omega)).mp q) (by omega)) ?_
                    refine fx_ti (y := nI (k_ % n)) (pk_rem (by omega) (by omega) (by omega)) ?_
                    refine lv_iadd hx hb dX12_notBy_121 ?_
                    refine fx_ti (y := nI (at_ + (k_ % n))) (nI_add _ _) ?_
                    refine fx_ialdN C hH h3_it (by omega) (by omega) dX12_notBy_122 ?_
                    refine fx_ti (y := nI (wd (k_ % n))) hwk.1 ?_
                    refine lv_istore (lv' := [(8, .int (nI (wd (k_ % n)))), (0, .ref mo), (1, .int (nI j)), (2, .int (nI at_)), (3, .int (nI n)), (4, .int (nI mm)), (5, .int (nI ((nwS P pl wy wd n k_).1))), (6, .int ((nwS P pl wy wd n k_).2)), (7, .int (nI k_))]) hx hb dX12_notBy_123 hl (by decide) rfl (fun ls hl => ?_)
                    refine lv_iload hx hb dX12_notBy_125 (lv_at hl 0 rfl) ?_
                    refine fx_O_ne (a := wd (k_ % n)) hx hb (by omega) (tgt := 134) dX12_notBy_127 (by decide) (fun c127 => ?_) (fun c127 => ?_)
                    · refine lv_iload hx hb dX12_notBy_134 (lv_at hl 0 rfl) ?_
                      refine lv_iconst (v := nI 2) hx hb dX12_notBy_136 (by decide) ?_
                      refine fx_N_ne (a := wd (k_ % n)) (b := 2) hx hb (by omega) (by omega) (tgt := 144) dX12_notBy_137 (by decide) (fun c137 => ?_) (fun c137 => ?_)
                      · refine lv_iconst (v := nI 0) hx hb dX12_notBy_144 (by decide) ?_
                        refine lv_istore (lv' := [(9, .int (nI 0)), (8, .int (nI (wd (k_ % n)))), (0, .ref mo), (1, .int (nI j)), (2, .int (nI at_)), (3, .int (nI n)), (4, .int (nI mm)), (5, .int (nI ((nwS P pl wy wd n k_).1))), (6, .int ((nwS P pl wy wd n k_).2)), (7, .int (nI k_))]) hx hb dX12_notBy_145 hl (by decide) rfl (fun ls hl => ?_)
                        refine lv_aload_n hx hb dX12_notBy_147 rfl (lv_at hl 2 rfl) ?_
                        refine lv_iload hx hb dX12_notBy_148 (lv_at hl 7 rfl) ?_
                        refine lv_iload hx hb dX12_notBy_150 (lv_at hl 0 rfl) ?_
                        refine lv_iload hx hb dX12_notBy_152 (lv_at hl 8 rfl) ?_
                        refine lv_imul hx hb dX12_notBy_154 ?_
                        refine lv_iadd hx hb dX12_notBy_155 ?_
                        refine fx_go1 hH (fx_runV C hH hl.1 (As := [.int ((nI ((nwS P pl wy wd n k_).1)) + ((nI 0) * ((nwS P pl wy wd n k_).2)))]) (rest := []) (c_X12_around (G := G) (base := base) (l := l) (f := fx_up f so (oJ 13 (wgR (qS (fJ gso 0 lam 13) P pl wy wd n K wi ag k_) (fun z => if z = (nwS P pl wy wd n k_).1 then 10 - feN K wi ag (nwS P pl wy wd n k_).2 else 10) p1))) (sz := sz) (P := P) (mo := mo) (pp := (nI ((nwS P pl wy wd n k_).1)) + ((nI 0) * ((nwS P pl wy wd n k_).2))) (th := th) (sa := sa) (la := la) (ma := ma) (it := it) (rl := rl) (fr := fr) (li := li) (wa := wa) (ld := ld) (ac := ac) (tp := tp) (tn := tn) (cu := cu) (sr := sr) (tk := tk) (va := va) (ft := ft) (fA := fA) (lt := lt) (so := so) (ik := ik) (kp := kp) (kl := kl) (tc := tc) (tt := tt) (rho := rho) h3_mo h3_rl hP (by omega)) mY_X12_around ml_X12_181 im_X12_around se_X12_X12_around h3_mo rfl rfl ⟨(Nat.le_of_ble_eq_true rfl), (Nat.le_of_ble_eq_true rfl)⟩ rfl (Nat.le_of_ble_eq_true rfl) ⟨(Nat.le_of_ble_eq_true rfl), (Nat.le_of_ble_eq_true rfl)⟩ dX12_notBy_156) (fun H locs hH => ?_)
                        refine fx_ti (y := nI (arN P (nwS P pl wy wd n k_).1 (nwS P pl wy wd n k_).2 0)) (arR_eq hns.2 (by omega) hP4 hns.1 (by omega)) ?_
                        refine lv_istore (lv' := [(5, .int (nI (arN P (nwS P pl wy wd n k_).1 (nwS P pl wy wd n k_).2 0))), (9, .int (nI 0)), (8, .int (nI (wd (k_ % n)))), (0, .ref mo), (1, .int (nI j)), (2, .int (nI at_)), (3, .int (nI n)), (4, .int (nI mm)), (6, .int ((nwS P pl wy wd n k_).2)), (7, .int (nI k_))]) hx hb dX12_notBy_159 hl (by decide) rfl (fun ls hl => ?_)
                        refine lv_iload hx hb dX12_notBy_161 (lv_at hl 2 rfl) ?_
                        refine lv_iconst (v := nI 1) hx hb dX12_notBy_163 (by decide) ?_
                        refine fx_N_ne (a := wd (k_ % n)) (b := 1) hx hb (by omega) (by omega) (tgt := 173) dX12_notBy_164 (by decide) (fun c164 => ?_) (fun c164 => ?_)
                        · refine lv_iload hx hb dX12_notBy_173 (lv_at hl 8 rfl) ?_
                          refine lv_istore (lv' := [(6, .int ((nwS P pl wy wd n k_).2)), (5, .int (nI (arN P (nwS P pl wy wd n k_).1 (nwS P pl wy wd n k_).2 0))), (9, .int (nI 0)), (8, .int (nI (wd (k_ % n)))), (0, .ref mo), (1, .int (nI j)), (2, .int (nI at_)), (3, .int (nI n)), (4, .int (nI mm)), (7, .int (nI k_))]) hx hb dX12_notBy_175 hl (by decide) rfl (fun ls hl => ?_)
                          refine lv_iinc (v := nI (k_ + 1)) (lv' := [(7, .int (nI (k_ + 1))), (6, .int ((nwS P pl wy wd n k_).2)), (5, .int (nI (arN P (nwS P pl wy wd n k_).1 (nwS P pl wy wd n k_).2 0))), (9, .int (nI 0)), (8, .int (nI (wd (k_ % n)))), (0, .ref mo), (1, .int (nI j)), (2, .int (nI at_)), (3, .int (nI n)), (4, .int (nI mm))]) hx hb dX12_notBy_177 hl (k := 9) rfl (nI_1 _) (by decide) rfl (fun ls hl => ?_)
                          refine lv_goto (tgt := 51) hx hb dX12_notBy_180 (by decide) ?_
                          have hl : lv_has ls 10 [(0, .ref mo), (1, .int (nI j)), (2, .int (nI at_)), (3, .int (nI n)), (4, .int (nI mm)), (5, .int (nI (arN P (nwS P pl wy wd n k_).1 (nwS P pl wy wd n k_).2 0))), (6, .int ((nwS P pl wy wd n k_).2)), (7, .int (nI (k_ + 1)))] := lv_sub hl [5, 6, 7, 8, 9, 2, 1, 0] rfl
                          have hl : lv_has ls 10 [(0, .ref mo), (1, .int (nI j)), (2, .int (nI at_)), (3, .int (nI n)), (4, .int (nI mm)), (5, .int (nI ((nwS P pl wy wd n (k_ + 1)).1))), (6, .int ((nwS P pl wy wd n (k_ + 1)).2)), (7, .int (nI (k_ + 1)))] := by
                            have e_ : nwS P pl wy wd n (k_ + 1) = (arN P (nwS P pl wy wd n k_).1 (nwS P pl wy wd n k_).2 0, (nwS P pl wy wd n k_).2) := by rw [nwS, wdF, if_neg c127, if_neg c137, if_neg c164]
                            rw [e_]
                            exact hl
                          have hH : fx_H G base s (fx_up f so (oJ 13 (qS (fJ gso 0 lam 13) P pl wy wd n K wi ag (k_ + 1)))) sz H locs := (by have hp1 : p1 = P + 1 := (by omega); subst hp1; exact hH)
                          exact ih_51 (k_ + 1) (by omega) (by omega) _ _ hH _ hl
                        · refine lv_iload hx hb dX12_notBy_167 (lv_at hl 8 rfl) ?_
                          refine lv_ineg hx hb dX12_notBy_169 ?_
                          refine lv_goto (tgt := 175) hx hb dX12_notBy_170 (by decide) ?_
                          refine lv_istore (lv' := [(6, .int (-((nwS P pl wy wd n k_).2))), (5, .int (nI (arN P (nwS P pl wy wd n k_).1 (nwS P pl wy wd n k_).2 0))), (9, .int (nI 0)), (8, .int (nI (wd (k_ % n)))), (0, .ref mo), (1, .int (nI j)), (2, .int (nI at_)), (3, .int (nI n)), (4, .int (nI mm)), (7, .int (nI k_))]) hx hb dX12_notBy_175 hl (by decide) rfl (fun ls hl => ?_)
                          refine lv_iinc (v := nI (k_ + 1)) (lv' := [(7, .int (nI (k_ + 1))), (6, .int (-((nwS P pl wy wd n k_).2))), (5, .int (nI (arN P (nwS P pl wy wd n k_).1 (nwS P pl wy wd n k_).2 0))), (9, .int (nI 0)), (8, .int (nI (wd (k_ % n)))), (0, .ref mo), (1, .int (nI j)), (2, .int (nI at_)), (3, .int (nI n)), (4, .int (nI mm))]) hx hb dX12_notBy_177 hl (k := 9) rfl (nI_1 _) (by decide) rfl (fun ls hl => ?_)
                          refine lv_goto (tgt := 51) hx hb dX12_notBy_180 (by decide) ?_
                          have hl : lv_has ls 10 [(0, .ref mo), (1, .int (nI j)), (2, .int (nI at_)), (3, .int (nI n)), (4, .int (nI mm)), (5, .int (nI (arN P (nwS P pl wy wd n k_).1 (nwS P pl wy wd n k_).2 0))), (6, .int (-((nwS P pl wy wd n k_).2))), (7, .int (nI (k_ + 1)))] := lv_sub hl [5, 6, 7, 8, 9, 2, 1, 0] rfl
                          have hl : lv_has ls 10 [(0, .ref mo), (1, .int (nI j)), (2, .int (nI at_)), (3, .int (nI n)), (4, .int (nI mm)), (5, .int (nI ((nwS P pl wy wd n (k_ + 1)).1))), (6, .int ((nwS P pl wy wd n (k_ + 1)).2)), (7, .int (nI (k_ + 1)))] := by
                            have e_ : nwS P pl wy wd n (k_ + 1) = (arN P (nwS P pl wy wd n k_).1 (nwS P pl wy wd n k_).2 0, -(nwS P pl wy wd n k_).2) := by rw [nwS, wdF, if_neg c127, if_neg c137, if_pos c164]
                            rw [e_]
                            exact hl
                          have hH : fx_H G base s (fx_up f so (oJ 13 (qS (fJ gso 0 lam 13) P pl wy wd n K wi ag (k_ + 1)))) sz H locs := (by have hp1 : p1 = P + 1 := (by omega); subst hp1; exact hH)
                          exact ih_51 (k_ + 1) (by omega) (by omega) _ _ hH _ hl
                      · refine lv_iconst (v := nI 2) hx hb dX12_notBy_140 (by decide) ?_
                        refine lv_goto (tgt := 145) hx hb dX12_notBy_141 (by decide) ?_
                        refine lv_istore (lv' := [(9, .int (nI 2)), (8, .int (nI (wd (k_ % n)))), (0, .ref mo), (1, .int (nI j)), (2, .int (nI at_)), (3, .int (nI n)), (4, .int (nI mm)), (5, .int (nI ((nwS P pl wy wd n k_).1))), (6, .int ((nwS P pl wy wd n k_).2)), (7, .int (nI k_))]) hx hb dX12_notBy_145 hl (by decide) rfl (fun ls hl => ?_)
                        refine lv_aload_n hx hb dX12_notBy_147 rfl (lv_at hl 2 rfl) ?_
                        refine lv_iload hx hb dX12_notBy_148 (lv_at hl 7 rfl) ?_
                        refine lv_iload hx hb dX12_notBy_150 (lv_at hl 0 rfl) ?_
                        refine lv_iload hx hb dX12_notBy_152 (lv_at hl 8 rfl) ?_
                        refine lv_imul hx hb dX12_notBy_154 ?_
                        refine lv_iadd hx hb dX12_notBy_155 ?_
                        refine fx_go1 hH (fx_runV C hH hl.1 (As := [.int ((nI ((nwS P pl wy wd n k_).1)) + ((nI 2) * ((nwS P pl wy wd n k_).2)))]) (rest := []) (c_X12_around (G := G) (base := base) (l := l) (f := fx_up f so (oJ 13 (wgR (qS (fJ gso 0 lam 13) P pl wy wd n K wi ag k_) (fun z => if z = (nwS P pl wy wd n k_).1 then 10 - feN K wi ag (nwS P pl wy wd n k_).2 else 10) p1))) (sz := sz) (P := P) (mo := mo) (pp := (nI ((nwS P pl wy wd n k_).1)) + ((nI 2) * ((nwS P pl wy wd n k_).2))) (th := th) (sa := sa) (la := la) (ma := ma) (it := it) (rl := rl) (fr := fr) (li := li) (wa := wa) (ld := ld) (ac := ac) (tp := tp) (tn := tn) (cu := cu) (sr := sr) (tk := tk) (va := va) (ft := ft) (fA := fA) (lt := lt) (so := so) (ik := ik) (kp := kp) (kl := kl) (tc := tc) (tt := tt) (rho := rho) h3_mo h3_rl hP (by omega)) mY_X12_around ml_X12_181 im_X12_around se_X12_X12_around h3_mo rfl rfl ⟨(Nat.le_of_ble_eq_true rfl), (Nat.le_of_ble_eq_true rfl)⟩ rfl (Nat.le_of_ble_eq_true rfl) ⟨(Nat.le_of_ble_eq_true rfl), (Nat.le_of_ble_eq_true rfl)⟩ dX12_notBy_156) (fun H locs hH => ?_)
                        refine fx_ti (y := nI (arN P (nwS P pl wy wd n k_).1 (nwS P pl wy wd n k_).2 2)) (arR_eq hns.2 (by omega) hP4 hns.1 (by omega)) ?_
                        refine lv_istore (lv' := [(5, .int (nI (arN P (nwS P pl wy wd n k_).1 (nwS P pl wy wd n k_).2 2))), (9, .int (nI 2)), (8, .int (nI (wd (k_ % n)))), (0, .ref mo), (1, .int (nI j)), (2, .int (nI at_)), (3, .int (nI n)), (4, .int (nI mm)), (6, .int ((nwS P pl wy wd n k_).2)), (7, .int (nI k_))]) hx hb dX12_notBy_159 hl (by decide) rfl (fun ls hl => ?_)
                        refine lv_iload hx hb dX12_notBy_161 (lv_at hl 2 rfl) ?_
                        refine lv_iconst (v := nI 1) hx hb dX12_notBy_163 (by decide) ?_
                        refine fx_N_ne (a := wd (k_ % n)) (b := 1) hx hb (by omega) (by omega) (tgt := 173) dX12_notBy_164 (by decide) (fun c164 => ?_) (fun c164 => ?_)
                        · refine lv_iload hx hb dX12_notBy_173 (lv_at hl 8 rfl) ?_
                          refine lv_istore (lv' := [(6, .int ((nwS P pl wy wd n k_).2)), (5, .int (nI (arN P (nwS P pl wy wd n k_).1 (nwS P pl wy wd n k_).2 2))), (9, .int (nI 2)), (8, .int (nI (wd (k_ % n)))), (0, .ref mo), (1, .int (nI j)), (2, .int (nI at_)), (3, .int (nI n)), (4, .int (nI mm)), (7, .int (nI k_))]) hx hb dX12_notBy_175 hl (by decide) rfl (fun ls hl => ?_)
                          refine lv_iinc (v := nI (k_ + 1)) (lv' := [(7, .int (nI (k_ + 1))), (6, .int ((nwS P pl wy wd n k_).2)), (5, .int (nI (arN P (nwS P pl wy wd n k_).1 (nwS P pl wy wd n k_).2 2))), (9, .int (nI 2)), (8, .int (nI (wd (k_ % n)))), (0, .ref mo), (1, .int (nI j)), (2, .int (nI at_)), (3, .int (nI n)), (4, .int (nI mm))]) hx hb dX12_notBy_177 hl (k := 9) rfl (nI_1 _) (by decide) rfl (fun ls hl => ?_)
                          refine lv_goto (tgt := 51) hx hb dX12_notBy_180 (by decide) ?_
                          have hl : lv_has ls 10 [(0, .ref mo), (1, .int (nI j)), (2, .int (nI at_)), (3, .int (nI n)), (4, .int (nI mm)), (5, .int (nI (arN P (nwS P pl wy wd n k_).1 (nwS P pl wy wd n k_).2 2))), (6, .int ((nwS P pl wy wd n k_).2)), (7, .int (nI (k_ + 1)))] := lv_sub hl [5, 6, 7, 8, 9, 2, 1, 0] rfl
                          have hl : lv_has ls 10 [(0, .ref mo), (1, .int (nI j)), (2, .int (nI at_)), (3, .int (nI n)), (4, .int (nI mm)), (5, .int (nI ((nwS P pl wy wd n (k_ + 1)).1))), (6, .int ((nwS P pl wy wd n (k_ + 1)).2)), (7, .int (nI (k_ + 1)))] := by
                            have e_ : nwS P pl wy wd n (k_ + 1) = (arN P (nwS P pl wy wd n k_).1 (nwS P pl wy wd n k_).2 2, (nwS P pl wy wd n k_).2) := by rw [nwS, wdF, if_neg c127, if_pos c137, if_neg c164]
                            rw [e_]
                            exact hl
                          have hH : fx_H G base s (fx_up f so (oJ 13 (qS (fJ gso 0 lam 13) P pl wy wd n K wi ag (k_ + 1)))) sz H locs := (by have hp1 : p1 = P + 1 := (by omega); subst hp1; exact hH)
                          exact ih_51 (k_ + 1) (by omega) (by omega) _ _ hH _ hl
                        · refine lv_iload hx hb dX12_notBy_167 (lv_at hl 8 rfl) ?_
                          refine lv_ineg hx hb dX12_notBy_169 ?_
                          refine lv_goto (tgt := 175) hx hb dX12_notBy_170 (by decide) ?_
                          refine lv_istore (lv' := [(6, .int (-((nwS P pl wy wd n k_).2))), (5, .int (nI (arN P (nwS P pl wy wd n k_).1 (nwS P pl wy wd n k_).2 2))), (9, .int (nI 2)), (8, .int (nI (wd (k_ % n)))), (0, .ref mo), (1, .int (nI j)), (2, .int (nI at_)), (3, .int (nI n)), (4, .int (nI mm)), (7, .int (nI k_))]) hx hb dX12_notBy_175 hl (by decide) rfl (fun ls hl => ?_)
                          refine lv_iinc (v := nI (k_ + 1)) (lv' := [(7, .int (nI (k_ + 1))), (6, .int (-((nwS P pl wy wd n k_).2))), (5, .int (nI (arN P (nwS P pl wy wd n k_).1 (nwS P pl wy wd n k_).2 2))), (9, .int (nI 2)), (8, .int (nI (wd (k_ % n)))), (0, .ref mo), (1, .int (nI j)), (2, .int (nI at_)), (3, .int (nI n)), (4, .int (nI mm))]) hx hb dX12_notBy_177 hl (k := 9) rfl (nI_1 _) (by decide) rfl (fun ls hl => ?_)
                          refine lv_goto (tgt := 51) hx hb dX12_notBy_180 (by decide) ?_
                          have hl : lv_has ls 10 [(0, .ref mo), (1, .int (nI j)), (2, .int (nI at_)), (3, .int (nI n)), (4, .int (nI mm)), (5, .int (nI (arN P (nwS P pl wy wd n k_).1 (nwS P pl wy wd n k_).2 2))), (6, .int (-((nwS P pl wy wd n k_).2))), (7, .int (nI (k_ + 1)))] := lv_sub hl [5, 6, 7, 8, 9, 2, 1, 0] rfl
                          have hl : lv_has ls 10 [(0, .ref mo), (1, .int (nI j)), (2, .int (nI at_)), (3, .int (nI n)), (4, .int (nI mm)), (5, .int (nI ((nwS P pl wy wd n (k_ + 1)).1))), (6, .int ((nwS P pl wy wd n (k_ + 1)).2)), (7, .int (nI (k_ + 1)))] := by
                            have e_ : nwS P pl wy wd n (k_ + 1) = (arN P (nwS P pl wy wd n k_).1 (nwS P pl wy wd n k_).2 2, -(nwS P pl wy wd n k_).2) := by rw [nwS, wdF, if_neg c127, if_pos c137, if_pos c164]
                            rw [e_]
                            exact hl
                          have hH : fx_H G base s (fx_up f so (oJ 13 (qS (fJ gso 0 lam 13) P pl wy wd n K wi ag (k_ + 1)))) sz H locs := (by have hp1 : p1 = P + 1 := (by omega); subst hp1; exact hH)
                          exact ih_51 (k_ + 1) (by omega) (by omega) _ _ hH _ hl
                    · refine lv_iconst (v := nI 1) hx hb dX12_notBy_130 (by decide) ?_
                      refine lv_goto (tgt := 145) hx hb dX12_notBy_131 (by decide) ?_
                      refine lv_istore (lv' := [(9, .int (nI 1)), (8, .int (nI (wd (k_ % n)))), (0, .ref mo), (1, .int (nI j)), (2, .int (nI at_)), (3, .int (nI n)), (4, .int (nI mm)), (5, .int (nI ((nwS P pl wy wd n k_).1))), (6, .int ((nwS P pl wy wd n k_).2)), (7, .int (nI k_))]) hx hb dX12_notBy_145 hl (by decide) rfl (fun ls hl => ?_)
                      refine lv_aload_n hx hb dX12_notBy_147 rfl (lv_at hl 2 rfl) ?_
                      refine lv_iload hx hb dX12_notBy_148 (lv_at hl 7 rfl) ?_
                      refine lv_iload hx hb dX12_notBy_150 (lv_at hl 0 rfl) ?_
                      refine lv_iload hx hb dX12_notBy_152 (lv_at hl 8 rfl) ?_
                      refine lv_imul hx hb dX12_notBy_154 ?_
                      refine lv_iadd hx hb dX12_notBy_155 ?_
                      refine fx_go1 hH (fx_runV C hH hl.1 (As := [.int ((nI ((nwS P pl wy wd n k_).1)) + ((nI 1) * ((nwS P pl wy wd n k_).2)))]) (rest := []) (c_X12_around (G := G) (base := base) (l := l) (f := fx_up f so (oJ 13 (wgR (qS (fJ gso 0 lam 13) P pl wy wd n K wi ag k_) (fun z => if z = (nwS P pl wy wd n k_).1 then 10 - feN K wi ag (nwS P pl wy wd n k_).2 else 10) p1))) (sz := sz) (P := P) (mo := mo) (pp := (nI ((nwS P pl wy wd n k_).1)) + ((nI 1) * ((nwS P pl wy wd n k_).2))) (th := th) (sa := sa) (la := la) (ma := ma) (it := it) (rl := rl) (fr := fr) (li := li) (wa := wa) (ld := ld) (ac := ac) (tp := tp) (tn := tn) (cu := cu) (sr := sr) (tk := tk) (va := va) (ft := ft) (fA := fA) (lt := lt) (so := so) (ik := ik) (kp := kp) (kl := kl) (tc := tc) (tt := tt) (rho := rho) h3_mo h3_rl hP (by omega)) mY_X12_around ml_X12_181 im_X12_around se_X12_X12_around h3_mo rfl rfl ⟨(Nat.le_of_ble_eq_true rfl), (Nat.le_of_ble_eq_true rfl)⟩ rfl (Nat.le_of_ble_eq_true rfl) ⟨(Nat.le_of_ble_eq_true rfl), (Nat.le_of_ble_eq_true rfl)⟩ dX12_notBy_156) (fun H locs hH => ?_)
                      refine fx_ti (y := nI (arN P (nwS P pl wy wd n k_).1 (nwS P pl wy wd n k_).2 1)) (arR_eq hns.2 (by omega) hP4 hns.1 (by omega)) ?_
                      refine lv_istore (lv' := [(5, .int (nI (arN P (nwS P pl wy wd n k_).1 (nwS P pl wy wd n k_).2 1))), (9, .int (nI 1)), (8, .int (nI (wd (k_ % n)))), (0, .ref mo), (1, .int (nI j)), (2, .int (nI at_)), (3, .int (nI n)), (4, .int (nI mm)), (6, .int ((nwS P pl wy wd n k_).2)), (7, .int (nI k_))]) hx hb dX12_notBy_159 hl (by decide) rfl (fun ls hl => ?_)
                      refine lv_iload hx hb dX12_notBy_161 (lv_at hl 2 rfl) ?_
                      refine lv_iconst (v := nI 1) hx hb dX12_notBy_163 (by decide) ?_
                      refine fx_N_ne (a := wd (k_ % n)) (b := 1) hx hb (by omega) (by omega) (tgt := 173) dX12_notBy_164 (by decide) (fun c164 => ?_) (fun c164 => ?_)
                      · refine lv_iload hx hb dX12_notBy_173 (lv_at hl 8 rfl) ?_
                        refine lv_istore (lv' := [(6, .int ((nwS P pl wy wd n k_).2)), (5, .int (nI (arN P (nwS P pl wy wd n k_).1 (nwS P pl wy wd n k_).2 1))), (9, .int (nI 1)), (8, .int (nI (wd (k_ % n)))), (0, .ref mo), (1, .int (nI j)), (2, .int (nI at_)), (3, .int (nI n)), (4, .int (nI mm)), (7, .int (nI k_))]) hx hb dX12_notBy_175 hl (by decide) rfl (fun ls hl => ?_)
                        refine lv_iinc (v := nI (k_ + 1)) (lv' := [(7, .int (nI (k_ + 1))), (6, .int ((nwS P pl wy wd n k_).2)), (5, .int (nI (arN P (nwS P pl wy wd n k_).1 (nwS P pl wy wd n k_).2 1))), (9, .int (nI 1)), (8, .int (nI (wd (k_ % n)))), (0, .ref mo), (1, .int (nI j)), (2, .int (nI at_)), (3, .int (nI n)), (4, .int (nI mm))]) hx hb dX12_notBy_177 hl (k := 9) rfl (nI_1 _) (by decide) rfl (fun ls hl => ?_)
                        refine lv_goto (tgt := 51) hx hb dX12_notBy_180 (by decide) ?_
                        have hl : lv_has ls 10 [(0, .ref mo), (1, .int (nI j)), (2, .int (nI at_)), (3, .int (nI n)), (4, .int (nI mm)), (5, .int (nI (arN P (nwS P pl wy wd n k_).1 (nwS P pl wy wd n k_).2 1))), (6, .int ((nwS P pl wy wd n k_).2)), (7, .int (nI (k_ + 1)))] := lv_sub hl [5, 6, 7, 8, 9, 2, 1, 0] rfl
                        have hl : lv_has ls 10 [(0, .ref mo), (1, .int (nI j)), (2, .int (nI at_)), (3, .int (nI n)), (4, .int (nI mm)), (5, .int (nI ((nwS P pl wy wd n (k_ + 1)).1))), (6, .int ((nwS P pl wy wd n (k_ + 1)).2)), (7, .int (nI (k_ + 1)))] := by
                          have e_ : nwS P pl wy wd n (k_ + 1) = (arN P (nwS P pl wy wd n k_).1 (nwS P pl wy wd n k_).2 1, (nwS P pl wy wd n k_).2) := by rw [nwS, wdF, if_pos c127, if_neg c164]
                          rw [e_]
                          exact hl
                        have hH : fx_H G base s (fx_up f so (oJ 13 (qS (fJ gso 0 lam 13) P pl wy wd n K wi ag (k_ + 1)))) sz H locs := (by have hp1 : p1 = P + 1 := (by omega); subst hp1; exact hH)
                        exact ih_51 (k_ + 1) (by omega) (by omega) _ _ hH _ hl
                      · refine lv_iload hx hb dX12_notBy_167 (lv_at hl 8 rfl) ?_
                        refine lv_ineg hx hb dX12_notBy_169 ?_
                        refine lv_goto (tgt := 175) hx hb dX12_notBy_170 (by decide) ?_
                        refine lv_istore (lv' := [(6, .int (-((nwS P pl wy wd n k_).2))), (5, .int (nI (arN P (nwS P pl wy wd n k_).1 (nwS P pl wy wd n k_).2 1))), (9, .int (nI 1)), (8, .int (nI (wd (k_ % n)))), (0, .ref mo), (1, .int (nI j)), (2, .int (nI at_)), (3, .int (nI n)), (4, .int (nI mm)), (7, .int (nI k_))]) hx hb dX12_notBy_175 hl (by decide) rfl (fun ls hl => ?_)
                        refine lv_iinc (v := nI (k_ + 1)) (lv' := [(7, .int (nI (k_ + 1))), (6, .int (-((nwS P pl wy wd n k_).2))), (5, .int (nI (arN P (nwS P pl wy wd n k_).1 (nwS P pl wy wd n k_).2 1))), (9, .int (nI 1)), (8, .int (nI (wd (k_ % n)))), (0, .ref mo), (1, .int (nI j)), (2, .int (nI at_)), (3, .int (nI n)), (4, .int (nI mm))]) hx hb dX12_notBy_177 hl (k := 9) rfl (nI_1 _) (by decide) rfl (fun ls hl => ?_)
                        refine lv_goto (tgt := 51) hx hb dX12_notBy_180 (by decide) ?_
                        have hl : lv_has ls 10 [(0, .ref mo), (1, .int (nI j)), (2, .int (nI at_)), (3, .int (nI n)), (4, .int (nI mm)), (5, .int (nI (arN P (nwS P pl wy wd n k_).1 (nwS P pl wy wd n k_).2 1))), (6, .int (-((nwS P pl wy wd n k_).2))), (7, .int (nI (k_ + 1)))] := lv_sub hl [5, 6, 7, 8, 9, 2, 1, 0] rfl
                        have hl : lv_has ls 10 [(0, .ref mo), (1, .int (nI j)), (2, .int (nI at_)), (3, .int (nI n)), (4, .int (nI mm)), (5, .int (nI ((nwS P pl wy wd n (k_ + 1)).1))), (6, .int ((nwS P pl wy wd n (k_ + 1)).2)), (7, .int (nI (k_ + 1)))] := by
                          have e_ : nwS P pl wy wd n (k_ + 1) = (arN P (nwS P pl wy wd n k_).1 (nwS P pl wy wd n k_).2 1, -(nwS P pl wy wd n k_).2) := by rw [nwS, wdF, if_pos c127, if_pos c164]
                          rw [e_]
                          exact hl
                        have hH : fx_H G base s (fx_up f so (oJ 13 (qS (fJ gso 0 lam 13) P pl wy wd n K wi ag (k_ + 1)))) sz H locs := (by have hp1 : p1 = P + 1 := (by omega); subst hp1; exact hH)
                        exact ih_51 (k_ + 1) (by omega) (by omega) _ _ hH _ hl
                  · refine lv_aload_n hx hb dX12_notBy_72 rfl (lv_at hl 0 rfl) ?_
                    refine fx_get C hH (k := 20) (v := .ref so) h3_mo ff_X12_38_11 rfl dX12_notBy_73 ?_
                    refine lv_iload hx hb dX12_notBy_76 (lv_at hl 8 rfl) ?_
                    refine lv_dup2_11 hx hb dX12_notBy_78 rfl rfl ?_
                    refine fx_laldN C hH h3_so (by omega) (by omega) dX12_notBy_79 ?_
                    refine lv_iload hx hb dX12_notBy_80 (lv_at hl 8 rfl) ?_
                    refine lv_iload hx hb dX12_notBy_82 (lv_at hl 5 rfl) ?_
                    refine fx_N_ne (a := p1) (b := (nwS P pl wy wd n k_).1) hx hb (by omega) (by omega) (tgt := 101) dX12_notBy_84 (by decide) (fun c84 => ?_) (fun c84 => ?_)
                    · refine lv_ldc2 (v := (10)) hx hb C.2.2.2.1 (C.2.2.2.2.1 _ kL_X12_203 rfl args) dX12_notBy_101 ?_
                      refine fx_tl (y := lN 10) (by decide) ?_
                      refine lv_lmul hx hb dX12_notBy_104 ?_
                      refine fx_lastN C hH h3_so (by omega) (by omega) dX12_notBy_105 (fun H locs hH => ?_)
                      have hH : fx_H G base s (fx_up (fx_up f so (oJ 13 (wgR (qS (fJ gso 0 lam 13) P pl wy wd n K wi ag k_) (fun z => if z = (nwS P pl wy wd n k_).1 then 10 - feN K wi ag (nwS P pl wy wd n k_).2 else 10) p1))) so (oJ 13 (vp_updL (wgR (qS (fJ gso 0 lam 13) P pl wy wd n K wi ag k_) (fun z => if z = (nwS P pl wy wd n k_).1 then 10 - feN K wi ag (nwS P pl wy wd n k_).2 else 10) p1) p1 (((wgR (qS (fJ gso 0 lam 13) P pl wy wd n K wi ag k_) (fun z => if z = (nwS P pl wy wd n k_).1 then 10 - feN K wi ag (nwS P pl wy wd n k_).2 else 10) p1) p1) * (lN 10))))) sz H locs := hH
                      rw [fx_up_up] at hH
                      have hH : fx_H G base s (fx_up f so (oJ 13 (vp_updL (wgR (qS (fJ gso 0 lam 13) P pl wy wd n K wi ag k_) (fun z => if z = (nwS P pl wy wd n k_).1 then 10 - feN K wi ag (nwS P pl wy wd n k_).2 else 10) p1) p1 (((wgR (qS (fJ gso 0 lam 13) P pl wy wd n K wi ag k_) (fun z => if z = (nwS P pl wy wd n k_).1 then 10 - feN K wi ag (nwS P pl wy wd n k_).2 else 10) p1) p1) * (lN 10))))) sz H locs := hH
                      have heq4 : fx_up (fx_up f so (oJ 13 (wgR (qS (fJ gso 0 lam 13) P pl wy wd n K wi ag k_) (fun z => if z = (nwS P pl wy wd n k_).1 then 10 - feN K wi ag (nwS P pl wy wd n k_).2 else 10) p1))) so (oJ 13 (vp_updL (wgR (qS (fJ gso 0 lam 13) P pl wy wd n K wi ag k_) (fun z => if z = (nwS P pl wy wd n k_).1 then 10 - feN K wi ag (nwS P pl wy wd n k_).2 else 10) p1) p1 (((wgR (qS (fJ gso 0 lam 13) P pl wy wd n K wi ag k_) (fun z => if z = (nwS P pl wy wd n k_).1 then 10 - feN K wi ag (nwS P pl wy wd n k_).2 else 10) p1) p1) * (lN 10)))) = fx_up f so (oJ 13 (vp_updL (wgR (qS (fJ gso 0 lam 13) P pl wy wd n K wi ag k_) (fun z => if z = (nwS P pl wy wd n k_).1 then 10 - feN K wi ag (nwS P pl wy wd n k_).2 else 10) p1) p1 (((wgR (qS (fJ gso 0 lam 13) P pl wy wd n K wi ag k_) (fun z => if z = (nwS P pl wy wd n k_).1 then 10 - feN K wi ag (nwS P pl wy wd n k_).2 else 10) p1) p1) * (lN 10)))) := by rw [fx_up_up]
                      have h4_mo : (fx_up f so (oJ 13 (vp_updL (wgR (qS (fJ gso 0 lam 13) P pl wy wd n K wi ag k_) (fun z => if z = (nwS P pl wy wd n k_).1 then 10 - feN K wi ag (nwS P pl wy wd n k_).2 else 10) p1) p1 (((wgR (qS (fJ gso 0 lam 13) P pl wy wd n K wi ag k_) (fun z => if z = (nwS P pl wy wd n k_).1 then 10 - feN K wi ag (nwS P pl wy wd n k_).2 else 10) p1) p1) * (lN 10))))) mo = some (oO 11 [.int th, .int sa, .ref la, .ref ma, .ref it, .ref rl, .ref fr, .ref li, .ref wa, .ref ld, .int ac, .ref tp, .int tn, .int cu, .int sr, .int tk, .int va, .int ft, .int fA, .int lt, .ref so, .ref ik, .ref kp, .ref kl, .ref tc, .int tt]) := (congrFun heq4 mo).symm.trans ((fx_up_n _ _ (fx_ne h3_mo h3_so rfl)).trans h3_mo)
                      have h4_rl : (fx_up f so (oJ 13 (vp_updL (wgR (qS (fJ gso 0 lam 13) P pl wy wd n K wi ag k_) (fun z => if z = (nwS P pl wy wd n k_).1 then 10 - feN K wi ag (nwS P pl wy wd n k_).2 else 10) p1) p1 (((wgR (qS (fJ gso 0 lam 13) P pl wy wd n K wi ag k_) (fun z => if z = (nwS P pl wy wd n k_).1 then 10 - feN K wi ag (nwS P pl wy wd n k_).2 else 10) p1) p1) * (lN 10))))) rl = some (oI 48 rho) := (congrFun heq4 rl).symm.trans ((fx_up_n _ _ (fx_ne h3_rl h3_so rfl)).trans h3_rl)
                      have h4_li : (fx_up f so (oJ 13 (vp_updL (wgR (qS (fJ gso 0 lam 13) P pl wy wd n K wi ag k_) (fun z => if z = (nwS P pl wy wd n k_).1 then 10 - feN K wi ag (nwS P pl wy wd n k_).2 else 10) p1) p1 (((wgR (qS (fJ gso 0 lam 13) P pl wy wd n K wi ag k_) (fun z => if z = (nwS P pl wy wd n k_).1 then 10 - feN K wi ag (nwS P pl wy wd n k_).2 else 10) p1) p1) * (lN 10))))) li = some (oJ 13 lam) := (congrFun heq4 li).symm.trans ((fx_up_n _ _ hne_1).trans h3_li)
                      have h4_it : (fx_up f so (oJ 13 (vp_updL (wgR (qS (fJ gso 0 lam 13) P pl wy wd n K wi ag k_) (fun z => if z = (nwS P pl wy wd n k_).1 then 10 - feN K wi ag (nwS P pl wy wd n k_).2 else 10) p1) p1 (((wgR (qS (fJ gso 0 lam 13) P pl wy wd n K wi ag k_) (fun z => if z = (nwS P pl wy wd n k_).1 then 10 - feN K wi ag (nwS P pl wy wd n k_).2 else 10) p1) p1) * (lN 10))))) it = some (oI 320 git) := (congrFun heq4 it).symm.trans ((fx_up_n _ _ (fx_ne h3_it h3_so rfl)).trans h3_it)
                      have h4_so : (fx_up f so (oJ 13 (vp_updL (wgR (qS (fJ gso 0 lam 13) P pl wy wd n K wi ag k_) (fun z => if z = (nwS P pl wy wd n k_).1 then 10 - feN K wi ag (nwS P pl wy wd n k_).2 else 10) p1) p1 (((wgR (qS (fJ gso 0 lam 13) P pl wy wd n K wi ag k_) (fun z => if z = (nwS P pl wy wd n k_).1 then 10 - feN K wi ag (nwS P pl wy wd n k_).2 else 10) p1) p1) * (lN 10))))) so = some (oJ 13 (vp_updL (wgR (qS (fJ gso 0 lam 13) P pl wy wd n K wi ag k_) (fun z => if z = (nwS P pl wy wd n k_).1 then 10 - feN K wi ag (nwS P pl wy wd n k_).2 else 10) p1) p1 (((wgR (qS (fJ gso 0 lam 13) P pl wy wd n K wi ag k_) (fun z => if z = (nwS P pl wy wd n k_).1 then 10 - feN K wi ag (nwS P pl wy wd n k_).2 else 10) p1) p1) * (lN 10)))) := (congrFun heq4 so).symm.trans (fx_up_s _ _ _)
                      refine lv_iinc (v := nI (p1 + 1)) (lv' := [(8, .int (nI (p1 + 1))), (0, .ref mo), (1, .int (nI j)), (2, .int (nI at_)), (3, .int (nI n)), (4, .int (nI mm)), (5, .int (nI ((nwS P pl wy wd n k_).1))), (6, .int ((nwS P pl wy wd n k_).2)), (7, .int (nI k_))]) hx hb dX12_notBy_106 hl (k := 8) rfl (nI_1 _) (by decide) rfl (fun ls hl => ?_)
                      refine lv_goto (tgt := 61) hx hb dX12_notBy_109 (by decide) ?_
                      have hl : lv_has ls 10 [(0, .ref mo), (1, .int (nI j)), (2, .int (nI at_)), (3, .int (nI n)), (4, .int (nI mm)), (5, .int (nI ((nwS P pl wy wd n k_).1))), (6, .int ((nwS P pl wy wd n k_).2)), (7, .int (nI k_)), (8, .int (nI (p1 + 1)))] := lv_sub hl [1, 2, 3, 4, 5, 6, 7, 8, 0] rfl
                      have hH : fx_H G base s (fx_up f so (oJ 13 (wgR (qS (fJ gso 0 lam 13) P pl wy wd n K wi ag k_) (fun z => if z = (nwS P pl wy wd n k_).1 then 10 - feN K wi ag (nwS P pl wy wd n k_).2 else 10) (p1 + 1)))) sz H locs := (by rw [wgR]; simp only [if_neg c84]; exact hH)
                      exact ih_61 (p1 + 1) (by omega) (by omega) _ _ hH _ hl
                    · refine lv_bipush (v := nI 10) hx hb dX12_notBy_87 (by decide) ?_
                      refine lv_aload_n hx hb dX12_notBy_89 rfl (lv_at hl 0 rfl) ?_
                      refine lv_iload_n hx hb dX12_notBy_90 rfl (lv_at hl 1 rfl) ?_
                      refine lv_iload hx hb dX12_notBy_91 (lv_at hl 6 rfl) ?_
                      refine fx_go1 hH (fx_runV C hH hl.1 (As := [.int (nI j), .int ((nwS P pl wy wd n k_).2)]) (rest := [.int (nI 10), .long ((wgR (qS (fJ gso 0 lam 13) P pl wy wd n K wi ag k_) (fun z => if z = (nwS P pl wy wd n k_).1 then 10 - feN K wi ag (nwS P pl wy wd n k_).2 else 10) p1) p1), .int (nI p1), .ref so]) (c_X12_feel (G := G) (base := base) (l := l) (f := fx_up f so (oJ 13 (wgR (qS (fJ gso 0 lam 13) P pl wy wd n K wi ag k_) (fun z => if z = (nwS P pl wy wd n k_).1 then 10 - feN K wi ag (nwS P pl wy wd n k_).2 else 10) p1))) (sz := sz) (K := K) (wi := wi) (ag := ag) (mo := mo) (j := j) (wy := (nwS P pl wy wd n k_).2) (th := th) (sa := sa) (la := la) (ma := ma) (it := it) (rl := rl) (fr := fr) (li := li) (wa := wa) (ld := ld) (ac := ac) (tp := tp) (tn := tn) (cu := cu) (sr := sr) (tk := tk) (va := va) (ft := ft) (fA := fA) (lt := lt) (so := so) (ik := ik) (kp := kp) (kl := kl) (tc := tc) (tt := tt) (rho := rho) h3_mo h3_rl (by omega) hk0 hk1 hk2 (by omega) (by omega) (by omega)) mY_X12_feel ml_X12_162 im_X12_feel se_X12_X12_feel h3_mo rfl rfl ⟨(Nat.le_of_ble_eq_true rfl), (Nat.le_of_ble_eq_true rfl)⟩ rfl (Nat.le_of_ble_eq_true rfl) ⟨(Nat.le_of_ble_eq_true rfl), (Nat.le_of_ble_eq_true rfl)⟩ dX12_notBy_93) (fun H locs hH => ?_)
                      refine lv_isub hx hb dX12_notBy_96 ?_
                      refine fx_ti (y := nI (10 - (feN K wi ag ((nwS P pl wy wd n k_).2)))) (pk_sub (by omega)) ?_
                      refine lv_i2l (v := lN (10 - (feN K wi ag ((nwS P pl wy wd n k_).2)))) hx hb dX12_notBy_97 (nI_l (by omega)) ?_
                      refine lv_goto (tgt := 104) hx hb dX12_notBy_98 (by decide) ?_
                      refine lv_lmul hx hb dX12_notBy_104 ?_
                      refine fx_lastN C hH h3_so (by omega) (by omega) dX12_notBy_105 (fun H locs hH => ?_)
                      have hH : fx_H G base s (fx_up (fx_up f so (oJ 13 (wgR (qS (fJ gso 0 lam 13) P pl wy wd n K wi ag k_) (fun z => if z = (nwS P pl wy wd n k_).1 then 10 - feN K wi ag (nwS P pl wy wd n k_).2 else 10) p1))) so (oJ 13 (vp_updL (wgR (qS (fJ gso 0 lam 13) P pl wy wd n K wi ag k_) (fun z => if z = (nwS P pl wy wd n k_).1 then 10 - feN K wi ag (nwS P pl wy wd n k_).2 else 10) p1) p1 (((wgR (qS (fJ gso 0 lam 13) P pl wy wd n K wi ag k_) (fun z => if z = (nwS P pl wy wd n k_).1 then 10 - feN K wi ag (nwS P pl wy wd n k_).2 else 10) p1) p1) * (lN (10 - (feN K wi ag ((nwS P pl wy wd n k_).2)))))))) sz H locs := hH
                      rw [fx_up_up] at hH
                      have hH : fx_H G base s (fx_up f so (oJ 13 (vp_updL (wgR (qS (fJ gso 0 lam 13) P pl wy wd n K wi ag k_) (fun z => if z = (nwS P pl wy wd n k_).1 then 10 - feN K wi ag (nwS P pl wy wd n k_).2 else 10) p1) p1 (((wgR (qS (fJ gso 0 lam 13) P pl wy wd n K wi ag k_) (fun z => if z = (nwS P pl wy wd n k_).1 then 10 - feN K wi ag (nwS P pl wy wd n k_).2 else 10) p1) p1) * (lN (10 - (feN K wi ag ((nwS P pl wy wd n k_).2)))))))) sz H locs := hH
                      have heq5 : fx_up (fx_up f so (oJ 13 (wgR (qS (fJ gso 0 lam 13) P pl wy wd n K wi ag k_) (fun z => if z = (nwS P pl wy wd n k_).1 then 10 - feN K wi ag (nwS P pl wy wd n k_).2 else 10) p1))) so (oJ 13 (vp_updL (wgR (qS (fJ gso 0 lam 13) P pl wy wd n K wi ag k_) (fun z => if z = (nwS P pl wy wd n k_).1 then 10 - feN K wi ag (nwS P pl wy wd n k_).2 else 10) p1) p1 (((wgR (qS (fJ gso 0 lam 13) P pl wy wd n K wi ag k_) (fun z => if z = (nwS P pl wy wd n k_).1 then 10 - feN K wi ag (nwS P pl wy wd n k_).2 else 10) p1) p1) * (lN (10 - (feN K wi ag ((nwS P pl wy wd n k_).2))))))) = fx_up f so (oJ 13 (vp_updL (wgR (qS (fJ gso 0 lam 13) P pl wy wd n K wi ag k_) (fun z => if z = (nwS P pl wy wd n k_).1 then 10 - feN K wi ag (nwS P pl wy wd n k_).2 else 10) p1) p1 (((wgR (qS (fJ gso 0 lam 13) P pl wy wd n K wi ag k_) (fun z => if z = (nwS P pl wy wd n k_).1 then 10 - feN K wi ag (nwS P pl wy wd n k_).2 else 10) p1) p1) * (lN (10 - (feN K wi ag ((nwS P pl wy wd n k_).2))))))) := by rw [fx_up_up]
                      have h5_mo : (fx_up f so (oJ 13 (vp_updL (wgR (qS (fJ gso 0 lam 13) P pl wy wd n K wi ag k_) (fun z => if z = (nwS P pl wy wd n k_).1 then 10 - feN K wi ag (nwS P pl wy wd n k_).2 else 10) p1) p1 (((wgR (qS (fJ gso 0 lam 13) P pl wy wd n K wi ag k_) (fun z => if z = (nwS P pl wy wd n k_).1 then 10 - feN K wi ag (nwS P pl wy wd n k_).2 else 10) p1) p1) * (lN (10 - (feN K wi ag ((nwS P pl wy wd n k_).2)))))))) mo = some (oO 11 [.int th, .int sa, .ref la, .ref ma, .ref it, .ref rl, .ref fr, .ref li, .ref wa, .ref ld, .int ac, .ref tp, .int tn, .int cu, .int sr, .int tk, .int va, .int ft, .int fA, .int lt, .ref so, .ref ik, .ref kp, .ref kl, .ref tc, .int tt]) := (congrFun heq5 mo).symm.trans ((fx_up_n _ _ (fx_ne h3_mo h3_so rfl)).trans h3_mo)
                      have h5_rl : (fx_up f so (oJ 13 (vp_updL (wgR (qS (fJ gso 0 lam 13) P pl wy wd n K wi ag k_) (fun z => if z = (nwS P pl wy wd n k_).1 then 10 - feN K wi ag (nwS P pl wy wd n k_).2 else 10) p1) p1 (((wgR (qS (fJ gso 0 lam 13) P pl wy wd n K wi ag k_) (fun z => if z = (nwS P pl wy wd n k_).1 then 10 - feN K wi ag (nwS P pl wy wd n k_).2 else 10) p1) p1) * (lN (10 - (feN K wi ag ((nwS P pl wy wd n k_).2)))))))) rl = some (oI 48 rho) := (congrFun heq5 rl).symm.trans ((fx_up_n _ _ (fx_ne h3_rl h3_so rfl)).trans h3_rl)
                      have h5_li : (fx_up f so (oJ 13 (vp_updL (wgR (qS (fJ gso 0 lam 13) P pl wy wd n K wi ag k_) (fun z => if z = (nwS P pl wy wd n k_).1 then 10 - feN K wi ag (nwS P pl wy wd n k_).2 else 10) p1) p1 (((wgR (qS (fJ gso 0 lam 13) P pl wy wd n K wi ag k_) (fun z => if z = (nwS P pl wy wd n k_).1 then 10 - feN K wi ag (nwS P pl wy wd n k_).2 else 10) p1) p1) * (lN (10 - (feN K wi ag ((nwS P pl wy wd n k_).2)))))))) li = some (oJ 13 lam) := (congrFun heq5 li).symm.trans ((fx_up_n _ _ hne_1).trans h3_li)
                      have h5_it : (fx_up f so (oJ 13 (vp_updL (wgR (qS (fJ gso 0 lam 13) P pl wy wd n K wi ag k_) (fun z => if z = (nwS P pl wy wd n k_).1 then 10 - feN K wi ag (nwS P pl wy wd n k_).2 else 10) p1) p1 (((wgR (qS (fJ gso 0 lam 13) P pl wy wd n K wi ag k_) (fun z => if z = (nwS P pl wy wd n k_).1 then 10 - feN K wi ag (nwS P pl wy wd n k_).2 else 10) p1) p1) * (lN (10 - (feN K wi ag ((nwS P pl wy wd n k_).2)))))))) it = some (oI 320 git) := (congrFun heq5 it).symm.trans ((fx_up_n _ _ (fx_ne h3_it h3_so rfl)).trans h3_it)
                      have h5_so : (fx_up f so (oJ 13 (vp_updL (wgR (qS (fJ gso 0 lam 13) P pl wy wd n K wi ag k_) (fun z => if z = (nwS P pl wy wd n k_).1 then 10 - feN K wi ag (nwS P pl wy wd n k_).2 else 10) p1) p1 (((wgR (qS (fJ gso 0 lam 13) P pl wy wd n K wi ag k_) (fun z => if z = (nwS P pl wy wd n k_).1 then 10 - feN K wi ag (nwS P pl wy wd n k_).2 else 10) p1) p1) * (lN (10 - (feN K wi ag ((nwS P pl wy wd n k_).2)))))))) so = some (oJ 13 (vp_updL (wgR (qS (fJ gso 0 lam 13) P pl wy wd n K wi ag k_) (fun z => if z = (nwS P pl wy wd n k_).1 then 10 - feN K wi ag (nwS P pl wy wd n k_).2 else 10) p1) p1 (((wgR (qS (fJ gso 0 lam 13) P pl wy wd n K wi ag k_) (fun z => if z = (nwS P pl wy wd n k_).1 then 10 - feN K wi ag (nwS P pl wy wd n k_).2 else 10) p1) p1) * (lN (10 - (feN K wi ag ((nwS P pl wy wd n k_).2))))))) := (congrFun heq5 so).symm.trans (fx_up_s _ _ _)
                      refine lv_iinc (v := nI (p1 + 1)) (lv' := [(8, .int (nI (p1 + 1))), (0, .ref mo), (1, .int (nI j)), (2, .int (nI at_)), (3, .int (nI n)), (4, .int (nI mm)), (5, .int (nI ((nwS P pl wy wd n k_).1))), (6, .int ((nwS P pl wy wd n k_).2)), (7, .int (nI k_))]) hx hb dX12_notBy_106 hl (k := 8) rfl (nI_1 _) (by decide) rfl (fun ls hl => ?_)
                      refine lv_goto (tgt := 61) hx hb dX12_notBy_109 (by decide) ?_
                      have hl : lv_has ls 10 [(0, .ref mo), (1, .int (nI j)), (2, .int (nI at_)), (3, .int (nI n)), (4, .int (nI mm)), (5, .int (nI ((nwS P pl wy wd n k_).1))), (6, .int ((nwS P pl wy wd n k_).2)), (7, .int (nI k_)), (8, .int (nI (p1 + 1)))] := lv_sub hl [1, 2, 3, 4, 5, 6, 7, 8, 0] rfl
                      have hH : fx_H G base s (fx_up f so (oJ 13 (wgR (qS (fJ gso 0 lam 13) P pl wy wd n K wi ag k_) (fun z => if z = (nwS P pl wy wd n k_).1 then 10 - feN K wi ag (nwS P pl wy wd n k_).2 else 10) (p1 + 1)))) sz H locs := (by rw [wgR]; simp only [if_pos c84]; exact hH)
                      exact ih_61 (p1 + 1) (by omega) (by omega) _ _ hH _ hl
              have hl : lv_has ls 10 [(0, .ref mo), (1, .int (nI j)), (2, .int (nI at_)), (3, .int (nI n)), (4, .int (nI mm)), (5, .int (nI ((nwS P pl wy wd n k_).1))), (6, .int ((nwS P pl wy wd n k_).2)), (7, .int (nI k_)), (8, .int (nI 0))] := lv_sub hl [1, 2, 3, 4, 5, 6, 7, 8, 0] rfl
              have hH : fx_H G base s (fx_up f so (oJ 13 (wgR (qS (fJ gso 0 lam 13) P pl wy wd n K wi ag k_) (fun z => if z = (nwS P pl wy wd n k_).1 then 10 - feN K wi ag (nwS P pl wy wd n k_).2 else 10) 0))) sz H locs := hH
              exact loop_61 _ 0 (by omega) (Nat.lt_succ_self _) _ _ hH _ hl
        have hl : lv_has ls 10 [(0, .ref mo), (1, .int (nI j)), (2, .int (nI at_)), (3, .int (nI n)), (4, .int (nI mm)), (5, .int (nI pl)), (6, .int wy), (7, .int (nI 0))] := lv_sub hl [3, 4, 5, 6, 7, 2, 1, 0] rfl
        have hl : lv_has ls 10 [(0, .ref mo), (1, .int (nI j)), (2, .int (nI at_)), (3, .int (nI n)), (4, .int (nI mm)), (5, .int (nI ((nwS P pl wy wd n 0).1))), (6, .int ((nwS P pl wy wd n 0).2)), (7, .int (nI 0))] := hl
        have hH : fx_H G base s (fx_up f so (oJ 13 (qS (fJ gso 0 lam 13) P pl wy wd n K wi ag 0))) sz H locs := (by rw [show i = 13 from (by omega)] at hH; exact hH)
        exact loop_51 _ 0 (by omega) (Nat.lt_succ_self _) _ _ hH _ hl
      · refine lv_aload_n hx hb dX12_notBy_10 rfl (lv_at hl 0 rfl) ?_
        refine fx_get C hH (k := 20) (v := .ref so) h1_mo ff_X12_38_11 rfl dX12_notBy_11 ?_
        refine lv_iload hx hb dX12_notBy_14 (lv_at hl 5 rfl) ?_
        refine lv_aload_n hx hb dX12_notBy_16 rfl (lv_at hl 0 rfl) ?_
        refine fx_get C hH (k := 7) (v := .ref li) h1_mo ff_X12_25_11 rfl dX12_notBy_17 ?_
        refine lv_iload hx hb dX12_notBy_20 (lv_at hl 5 rfl) ?_
        refine fx_laldN C hH h1_li (by omega) (by omega) dX12_notBy_22 ?_
        refine fx_lastN C hH h1_so (by omega) (by omega) dX12_notBy_23 (fun H locs hH => ?_)
        have hH : fx_H G base s (fx_up (fx_up f so (oJ 13 (fJ gso 0 lam i))) so (oJ 13 (vp_updL (fJ gso 0 lam i) i (lam i)))) sz H locs := hH
        rw [fx_up_up] at hH
        have hH : fx_H G base s (fx_up f so (oJ 13 (vp_updL (fJ gso 0 lam i) i (lam i)))) sz H locs := hH
        have heq6 : fx_up (fx_up f so (oJ 13 (fJ gso 0 lam i))) so (oJ 13 (vp_updL (fJ gso 0 lam i) i (lam i))) = fx_up f so (oJ 13 (vp_updL (fJ gso 0 lam i) i (lam i))) := by rw [fx_up_up]
        have h6_mo : (fx_up f so (oJ 13 (vp_updL (fJ gso 0 lam i) i (lam i)))) mo = some (oO 11 [.int th, .int sa, .ref la, .ref ma, .ref it, .ref rl, .ref fr, .ref li, .ref wa, .ref ld, .int ac, .ref tp, .int tn, .int cu, .int sr, .int tk, .int va, .int ft, .int fA, .int lt, .ref so, .ref ik, .ref kp, .ref kl, .ref tc, .int tt]) := (congrFun heq6 mo).symm.trans ((fx_up_n _ _ (fx_ne h1_mo h1_so rfl)).trans h1_mo)
        have h6_rl : (fx_up f so (oJ 13 (vp_updL (fJ gso 0 lam i) i (lam i)))) rl = some (oI 48 rho) := (congrFun heq6 rl).symm.trans ((fx_up_n _ _ (fx_ne h1_rl h1_so rfl)).trans h1_rl)
        have h6_li : (fx_up f so (oJ 13 (vp_updL (fJ gso 0 lam i) i (lam i)))) li = some (oJ 13 lam) := (congrFun heq6 li).symm.trans ((fx_up_n _ _ hne_1).trans h1_li)
        have h6_it : (fx_up f so (oJ 13 (vp_updL (fJ gso 0 lam i) i (lam i)))) it = some (oI 320 git) := (congrFun heq6 it).symm.trans ((fx_up_n _ _ (fx_ne h1_it h1_so rfl)).trans h1_it)
        have h6_so : (fx_up f so (oJ 13 (vp_updL (fJ gso 0 lam i) i (lam i)))) so = some (oJ 13 (vp_updL (fJ gso 0 lam i) i (lam i))) := (congrFun heq6 so).symm.trans (fx_up_s _ _ _)
        refine lv_iinc (v := nI (i + 1)) (lv' := [(5, .int (nI (i + 1))), (0, .ref mo), (1, .int (nI j)), (2, .int (nI at_)), (3, .int (nI n)), (4, .int (nI mm))]) hx hb dX12_notBy_24 hl (k := 5) rfl (nI_1 _) (by decide) rfl (fun ls hl => ?_)
        refine lv_goto (tgt := 3) hx hb dX12_notBy_27 (by decide) ?_
        have hl : lv_has ls 10 [(0, .ref mo), (1, .int (nI j)), (2, .int (nI at_)), (3, .int (nI n)), (4, .int (nI mm)), (5, .int (nI (i + 1)))] := lv_sub hl [1, 2, 3, 4, 5, 0] rfl
        have hH : fx_H G base s (fx_up f so (oJ 13 (fJ gso 0 lam (i + 1)))) sz H locs := (by rw [fJ, Nat.zero_add]; exact hH)
        exact ih_3 (i + 1) (by omega) (by omega) _ _ hH _ hl
  have hl : lv_has ls 10 [(0, .ref mo), (1, .int (nI j)), (2, .int (nI at_)), (3, .int (nI n)), (4, .int (nI mm)), (5, .int (nI 0))] := lv_sub hl [1, 2, 3, 4, 5, 0] rfl
  have hH : fx_H G base s (fx_up f so (oJ 13 (fJ gso 0 lam 0))) sz H locs := (by rw [fx_up_id (show f so = some (oJ 13 (fJ gso 0 lam 0)) from h_so)]; exact hH)
  exact loop_3 _ 0 (by omega) (Nat.lt_succ_self _) _ _ hH _ hl
abbrev rm_X12_isHis : Room := { frames := 3, cells := 0, slots := 0, locals := 72 }
set_option maxHeartbeats 4000000 in
set_option maxRecDepth 100000 in
theorem c_X12_isHis {G : GG} {base : Nat} {l : Launch} {f : Hp} {sz : Nat} {K : Nat} {wi : Nat} {ag : Nat} {P : Nat} {wy : Int32} {pt : Nat → Nat} {cvf : Nat → Nat} {mo : Nat} {j : Nat} {at_ : Nat} {n : Nat} {th : Int32} {sa : Int32} {la : Nat} {ma : Nat} {it : Nat} {rl : Nat} {fr : Nat} {li : Nat} {wa : Nat} {ld : Nat} {ac : Int32} {tp : Nat} {tn : Int32} {cu : Int32} {sr : Int32} {tk : Int32} {va : Int32} {ft : Int32} {fA : Int32} {lt : Int32} {so : Nat} {ik : Nat} {kp : Nat} {kl : Nat} {tc : Nat} {tt : Int32} {rho : Nat → Int32} {lam : Nat → Int64} {gso : Nat → Int64} {git : Nat → Int32} (h_mo : f mo = some (oO 11 [.int th, .int sa, .ref la, .ref ma, .ref it, .ref rl, .ref fr, .ref li, .ref wa, .ref ld, .int ac, .ref tp, .int tn, .int cu, .int sr, .int tk, .int va, .int ft, .int fA, .int lt, .ref so, .ref ik, .ref kp, .ref kl, .ref tc, .int tt])) (h_rl : f rl = some (oI 48 rho)) (h_li : f li = some (oJ 13 lam)) (h_so : f so = some (oJ 13 gso)) (h_it : f it = some (oI 320 git)) (hne_0 : rl ≠ it) (hne_1 : li ≠ so) (hj : j < 4) (hk0 : rho (36 + (3 * j) + 0) = nI K) (hk1 : rho (36 + (3 * j) + 1) = nI wi) (hk2 : rho (36 + (3 * j) + 2) = nI ag) (hK : 1 ≤ K ∧ K ≤ 5) (hwi : wi ≤ 10) (hag : ag ≤ 10) (hP : rho 0 = nI P) (hP2 : 1 ≤ P ∧ P ≤ 12) (hwy : rho 7 = wy) (hn : 1 ≤ n ∧ n ≤ 6) (hat : at_ + n ≤ 320) (hpt : ∀ z, z < n → git (at_ + z) = nI (pt z) ∧ pt z < P) (hcf : ∀ z, z < P → rho (24 + z) = nI (cvf z) ∧ cvf z ≤ 10) : fx_MP G base l yX12_isHis cX12_isHis 6 (some .boolean) rm_X12_isHis [.ref mo, .int (nI j), .int (nI at_), .int (nI n)] f sz (fun v_ f_ sz_ => ∃ q_ : Nat → Int64,  v_ = (some (.int (bI (∀ k_, k_ < n - 1 → nxR K (qH (fJ gso 0 lam 13) P wy pt cvf K wi ag (k_ + 1)) (pt k_) wy 0 (rho 11) P = git (at_ + k_ + 1))))) ∧ f_ = (fx_up f so (oJ 13 q_)) ∧ sz_ = sz) := by
  refine fx_ofP (by decide +kernel) (Nat.le_of_ble_eq_true rfl) ?_
  intro p e s m args below meth c C hr hk hnm hH ls hl
  obtain ⟨locs, hlocs⟩ : ∃ L : List Loc, L = [] := ⟨_, rfl⟩
  rw [← hlocs] at hH ⊢
  generalize s.heap = H at hH ⊢
  have hx := C.1
  have hb := C.2.1
  have hl : lv_has ls 6 [(0, .ref mo), (1, .int (nI j)), (2, .int (nI at_)), (3, .int (nI n))] := hl
  refine lv_iconst (v := nI 0) hx hb dX12_isHis_0 (by decide) ?_
  refine lv_istore (lv' := [(4, .int (nI 0)), (0, .ref mo), (1, .int (nI j)), (2, .int (nI at_)), (3, .int (nI n))]) hx hb dX12_isHis_1 hl (by decide) rfl (fun ls hl => ?_)
  have loop_3 : ∀ (N_3 : Nat) (i : Nat) (hi : i ≤ 13) (hm_3 : 13 - i < N_3) (H : Heap) (locs : List Loc) (hH : fx_H G base s (fx_up f so (oJ 13 (fJ gso 0 lam i))) sz H locs) (ls : Array Slot) (hl : lv_has ls 6 [(0, .ref mo), (1, .int (nI j)), (2, .int (nI at_)), (3, .int (nI n)), (4, .int (nI i))]), W p l e rm_X12_isHis s m args below meth c H locs 0 0 (MQ below (fx_QP G base (fun v_ f_ sz_ => ∃ q_ : Nat → Int64,  v_ = (some (.int (bI (∀ k_, k_ < n - 1 → nxR K (qH (fJ gso 0 lam 13) P wy pt cvf K wi ag (k_ + 1)) (pt k_) wy 0 (rho 11) P = git (at_ + k_ + 1))))) ∧ f_ = (fx_up f so (oJ 13 q_)) ∧ sz_ = sz)) args s rm_X12_isHis.cells rm_X12_isHis.slots (fun q => base ≤ q)) (F0 m 3 ls []) := by
    intro N_3
    induction N_3 with
    | zero => intro i hi hm_3; exact absurd hm_3 (Nat.not_lt_zero _)
    | succ N_3 ih_3 =>
      intro i hi hm_3 H locs hH ls hl
      have h1_mo : (fx_up f so (oJ 13 (fJ gso 0 lam i))) mo = some (oO 11 [.int th, .int sa, .ref la, .ref ma, .ref it, .ref rl, .ref fr, .ref li, .ref wa, .ref ld, .int ac, .ref tp, .int tn, .int cu, .int sr, .int tk, .int va, .int ft, .int fA, .int lt, .ref so, .ref ik, .ref kp, .ref kl, .ref tc, .int tt]) := (fx_up_n _ _ (fx_ne h_mo h_so rfl)).trans (h_mo)
      have h1_rl : (fx_up f so (oJ 13 (fJ gso 0 lam i))) rl = some (oI 48 rho) := (fx_up_n _ _ (fx_ne h_rl h_so rfl)).trans (h_rl)
      have h1_li : (fx_up f so (oJ 13 (fJ gso 0 lam i))) li = some (oJ 13 lam) := (fx_up_n _ _ hne_1).trans (h_li)
      have h1_so : (fx_up f so (oJ 13 (fJ gso 0 lam i))) so = some (oJ 13 (fJ gso 0 lam i)) := fx_up_s _ _ _
      have h1_it : (fx_up f so (oJ 13 (fJ gso 0 lam i))) it = some (oI 320 git) := (fx_up_n _ _ (fx_ne h_it h_so rfl)).trans (h_it)
      refine lv_iload hx hb dX12_isHis_3 (lv_at hl 4 rfl) ?_
      refine lv_bipush (v := nI 13) hx hb dX12_isHis_5 (by decide) ?_
      refine fx_N_ge (a := i) (b := 13) hx hb (by omega) (by omega) (tgt := 30) dX12_isHis_7 (by decide) (fun c7 => ?_) (fun c7 => ?_)
      · refine lv_iconst (v := nI 0) hx hb dX12_isHis_30 (by decide) ?_
        refine lv_istore (lv' := [(4, .int (nI 0)), (0, .ref mo), (1, .int (nI j)), (2, .int (nI at_)), (3, .int (nI n))]) hx hb dX12_isHis_31 hl (by decide) rfl (fun ls hl => ?_)
        have loop_33 : ∀ (N_33 : Nat) (k_ : Nat) (hk_ : k_ ≤ n - 1) (hall : ∀ z, z < k_ → nxR K (qH (fJ gso 0 lam 13) P wy pt cvf K wi ag (z + 1)) (pt z) wy 0 (rho 11) P = git (at_ + z + 1)) (hm_33 : n - 1 - k_ < N_33) (H : Heap) (locs : List Loc) (hH : fx_H G base s (fx_up f so (oJ 13 (qH (fJ gso 0 lam 13) P wy pt cvf K wi ag k_))) sz H locs) (ls : Array Slot) (hl : lv_has ls 6 [(0, .ref mo), (1, .int (nI j)), (2, .int (nI at_)), (3, .int (nI n)), (4, .int (nI k_))]), W p l e rm_X12_isHis s m args below meth c H locs 0 0 (MQ below (fx_QP G base (fun v_ f_ sz_ => ∃ q_ : Nat → Int64,  v_ = (some (.int (bI (∀ k_, k_ < n - 1 → nxR K (qH (fJ gso 0 lam 13) P wy pt cvf K wi ag (k_ + 1)) (pt k_) wy 0 (rho 11) P = git (at_ + k_ + 1))))) ∧ f_ = (fx_up f so (oJ 13 q_)) ∧ sz_ = sz)) args s rm_X12_isHis.cells rm_X12_isHis.slots (fun q => base ≤ q)) (F0 m 33 ls []) := by
          intro N_33
          induction N_33 with
          | zero => intro k_ hk_ hall hm_33; exact absurd hm_33 (Nat.not_lt_zero _)
          | succ N_33 ih_33 =>
            intro k_ hk_ hall hm_33 H locs hH ls hl
            have h2_mo : (fx_up f so (oJ 13 (qH (fJ gso 0 lam 13) P wy pt cvf K wi ag k_))) mo = some (oO 11 [.int th, .int sa, .ref la, .ref ma, .ref it, .ref rl, .ref fr, .ref li, .ref wa, .ref ld, .int ac, .ref tp, .int tn, .int cu, .int sr, .int tk, .int va, .int ft, .int fA, .int lt, .ref so, .ref ik, .ref kp, .ref kl, .ref tc, .int tt]) := (fx_up_n _ _ (fx_ne h1_mo h1_so rfl)).trans (h_mo)
            have h2_rl : (fx_up f so (oJ 13 (qH (fJ gso 0 lam 13) P wy pt cvf K wi ag k_))) rl = some (oI 48 rho) := (fx_up_n _ _ (fx_ne h1_rl h1_so rfl)).trans (h_rl)
            have h2_li : (fx_up f so (oJ 13 (qH (fJ gso 0 lam 13) P wy pt cvf K wi ag k_))) li = some (oJ 13 lam) := (fx_up_n _ _ hne_1).trans (h_li)
            have h2_so : (fx_up f so (oJ 13 (qH (fJ gso 0 lam 13) P wy pt cvf K wi ag k_))) so = some (oJ 13 (qH (fJ gso 0 lam 13) P wy pt cvf K wi ag k_)) := fx_up_s _ _ _
            have h2_it : (fx_up f so (oJ 13 (qH (fJ gso 0 lam 13) P wy pt cvf K wi ag k_))) it = some (oI 320 git) := (fx_up_n _ _ (fx_ne h1_it h1_so rfl)).trans (h_it)
            have hpk := hpt k_ (by omega)
            have hck := hcf (pt k_) hpk.2
            have hfl : feN K wi ag wy ≤ 10 := feN_le hwi hag
            refine lv_iload hx hb dX12_isHis_33 (lv_at hl 4 rfl) ?_
            refine lv_iload_n hx hb dX12_isHis_35 rfl (lv_at hl 3 rfl) ?_
            refine lv_iconst (v := nI 1) hx hb dX12_isHis_36 (by decide) ?_
            refine lv_isub hx hb dX12_isHis_37 ?_
            refine fx_ti (y := nI (n - 1)) (pk_sub (by omega)) ?_
            refine fx_N_ge (a := k_) (b := n - 1) hx hb (by omega) (by omega) (tgt := 126) dX12_isHis_38 (by decide) (fun c38 => ?_) (fun c38 => ?_)
            · refine lv_iconst (v := nI 1) hx hb dX12_isHis_126 (by decide) ?_
              exact fx_zretP C hr hk hH (by decide) ⟨_, (congrArg (fun z => some (Value.int z)) (bI_t (fun z hz => hall z (by omega))).symm), rfl, rfl⟩ (Nat.zero_le _) (Nat.zero_le _) dX12_isHis_127
            · refine lv_iconst (v := nI 0) hx hb dX12_isHis_41 (by decide) ?_
              refine lv_istore (lv' := [(5, .int (nI 0)), (0, .ref mo), (1, .int (nI j)), (2, .int (nI at_)), (3, .int (nI n)), (4, .int (nI k_))]) hx hb dX12_isHis_42 hl (by decide) rfl (fun ls hl => ?_)
              have loop_44 : ∀ (N_44 : Nat) (p1 : Nat) (hp1 : p1 ≤ P + 1) (hm_44 : P + 1 - p1 < N_44) (H : Heap) (locs : List Loc) (hH : fx_H G base s (fx_up f so (oJ 13 (wgR (qH (fJ gso 0 lam 13) P wy pt cvf K wi ag k_) (fun z => if pt k_ = z then 10 - feN K wi ag wy else 10 - cvf (pt k_)) p1))) sz H locs) (ls : Array Slot) (hl : lv_has ls 6 [(0, .ref mo), (1, .int (nI j)), (2, .int (nI at_)), (3, .int (nI n)), (4, .int (nI k_)), (5, .int (nI p1))]), W p l e rm_X12_isHis s m args below meth c H locs 0 0 (MQ below (fx_QP G base (fun v_ f_ sz_ => ∃ q_ : Nat → Int64,  v_ = (some (.int (bI (∀ k_, k_ < n - 1 → nxR K (qH (fJ gso 0 lam 13) P wy pt cvf K wi ag (k_ + 1)) (pt k_) wy 0 (rho 11) P = git (at_ + k_ + 1))))) ∧ f_ = (fx_up f so (oJ 13 q_)) ∧ sz_ = sz)) args s rm_X12_isHis.cells rm_X12_isHis.slots (fun q => base ≤ q)) (F0 m 44 ls []) := by
                intro N_44
                induction N_44 with
                | zero => intro p1 hp1 hm_44; exact absurd hm_44 (Nat.not_lt_zero _)
                | succ N_44 ih_44 =>
                  intro p1 hp1 hm_44 H locs hH ls hl
                  have h3_mo : (fx_up f so (oJ 13 (wgR (qH (fJ gso 0 lam 13) P wy pt cvf K wi ag k_) (fun z => if pt k_ = z then 10 - feN K wi ag wy else 10 - cvf (pt k_)) p1))) mo = some (oO 11 [.int th, .int sa, .ref la, .ref ma, .ref it, .ref rl, .ref fr, .ref li, .ref wa, .ref ld, .int ac, .ref tp, .int tn, .int cu, .int sr, .int tk, .int va, .int ft, .int fA, .int lt, .ref so, .ref ik, .ref kp, .ref kl, .ref tc, .int tt]) := (fx_up_n _ _ (fx_ne h2_mo h2_so rfl)).trans (h_mo)
                  have h3_rl : (fx_up f so (oJ 13 (wgR (qH (fJ gso 0 lam 13) P wy pt cvf K wi ag k_) (fun z => if pt k_ = z then 10 - feN K wi ag wy else 10 - cvf (pt k_)) p1))) rl = some (oI 48 rho) := (fx_up_n _ _ (fx_ne h2_rl h2_so rfl)).trans (h_rl)
                  have h3_li : (fx_up f so (oJ 13 (wgR (qH (fJ gso 0 lam 13) P wy pt cvf K wi ag k_) (fun z => if pt k_ = z then 10 - feN K wi ag wy else 10 - cvf (pt k_)) p1))) li = some (oJ 13 lam) := (fx_up_n _ _ hne_1).trans (h_li)
                  have h3_so : (fx_up f so (oJ 13 (wgR (qH (fJ gso 0 lam 13) P wy pt cvf K wi ag k_) (fun z => if pt k_ = z then 10 - feN K wi ag wy else 10 - cvf (pt k_)) p1))) so = some (oJ 13 (wgR (qH (fJ gso 0 lam 13) P wy pt cvf K wi ag k_) (fun z => if pt k_ = z then 10 - feN K wi ag wy else 10 - cvf (pt k_)) p1)) := fx_up_s _ _ _
                  have h3_it : (fx_up f so (oJ 13 (wgR (qH (fJ gso 0 lam 13) P wy pt cvf K wi ag k_) (fun z => if pt k_ = z then 10 - feN K wi ag wy else 10 - cvf (pt k_)) p1))) it = some (oI 320 git) := (fx_up_n _ _ (fx_ne h2_it h2_so rfl)).trans (h_it)
                  refine lv_iload hx hb dX12_isHis_44 (lv_at hl 5 rfl) ?_
                  refine lv_aload_n hx hb dX12_isHis_46 rfl (lv_at hl 0 rfl) ?_
                  refine fx_get C hH (k := 5) (v := .ref rl) h3_mo ff_X12_19_11 rfl dX12_isHis_47 ?_
                  refine lv_iconst (v := nI 0) hx hb dX12_isHis_50 (by decide) ?_
                  refine fx_ialdN C hH h3_rl (by omega) (by omega) dX12_isHis_51 ?_
                  refine fx_ti (y := nI P) hP ?_
                  refine fx_N_gt (a := p1) (b := P) hx hb (by omega) (by omega) (tgt := 89) dX12_isHis_52 (by decide) (fun c52 => ?_) (fun c52 => ?_)
                  · refine lv_aload_n hx hb dX12_isHis_89 rfl (lv_at hl 0 rfl) ?_
                    refine lv_iload_n hx hb dX12_isHis_90 rfl (lv_at hl 1 rfl) ?_
                    refine lv_aload_n hx hb dX12_isHis_91 rfl (lv_at hl 0 rfl) ?_
                    refine fx_get C hH (k := 4) (v := .ref it) h3_mo ff_X12_16_11 rfl dX12_isHis_92 ?_
                    refine lv_iload_n hx hb dX12_isHis_95 rfl (lv_at hl 2 rfl) ?_
                    refine lv_iload hx hb dX12_isHis_96 (lv_at hl 4 rfl) ?_
                    refine lv_iadd hx hb dX12_isHis_98 ?_
                    refine fx_ti (y := nI (at_ + k_)) (nI_add _ _) ?_
                    refine fx_ialdN C hH h3_it (by omega) (by omega) dX12_isHis_99 ?_
                    refine fx_ti (y := nI (pt k_)) hpk.1 ?_
                    refine lv_iconst (v := nI 0) hx hb dX12_isHis_100 (by decide) ?_
                    refine fx_go1 hH (fx_runV C hH hl.1 (As := [.int (nI j), .int (nI (pt k_)), .int (nI 0)]) (rest := []) (c_X12_nextOf (G := G) (base := base) (l := l) (f := fx_up f so (oJ 13 (wgR (qH (fJ gso 0 lam 13) P wy pt cvf K wi ag k_) (fun z => if pt k_ = z then 10 - feN K wi ag wy else 10 - cvf (pt k_)) p1))) (sz := sz) (K := K) (wi := wi) (ag := ag) (P := P) (mo := mo) (j := j) (nl := pt k_) (fe := 0) (th := th) (sa := sa) (la := la) (ma := ma) (it := it) (rl := rl) (fr := fr) (li := li) (wa := wa) (ld := ld) (ac := ac) (tp := tp) (tn := tn) (cu := cu) (sr := sr) (tk := tk) (va := va) (ft := ft) (fA := fA) (lt := lt) (so := so) (ik := ik) (kp := kp) (kl := kl) (tc := tc) (tt := tt) (rho := rho) (q := (wgR (qH (fJ gso 0 lam 13) P wy pt cvf K wi ag k_) (fun z => if pt k_ = z then 10 - feN K wi ag wy else 10 - cvf (pt k_)) p1)) h3_mo h3_rl h3_so (by omega) hk0 hk1 hk2 (by omega) (by omega) (by omega) hP (by omega) (by omega)) mY_X12_nextOf ml_X12_187 im_X12_nextOf se_X12_X12_nextOf h3_mo rfl rfl ⟨(Nat.le_of_ble_eq_true rfl), (Nat.le_of_ble_eq_true rfl)⟩ rfl (Nat.le_of_ble_eq_true rfl) ⟨(Nat.le_of_ble_eq_true rfl), (Nat.le_of_ble_eq_true rfl)⟩ dX12_isHis_101) (fun H locs hH => ?_)
                    refine fx_ti (y := nxR K (wgR (qH (fJ gso 0 lam 13) P wy pt cvf K wi ag k_) (fun z => if pt k_ = z then 10 - feN K wi ag wy else 10 - cvf (pt k_)) p1) (pt k_) wy 0 (rho 11) P) (by rw [hwy]) ?_
                    refine lv_aload_n hx hb dX12_isHis_104 rfl (lv_at hl 0 rfl) ?_
                    refine fx_get C hH (k := 4) (v := .ref it) h3_mo ff_X12_16_11 rfl dX12_isHis_105 ?_
                    refine lv_iload_n hx hb dX12_isHis_108 rfl (lv_at hl 2 rfl) ?_
                    refine lv_iload hx hb dX12_isHis_109 (lv_at hl 4 rfl) ?_
                    refine lv_iadd hx hb dX12_isHis_111 ?_
                    refine fx_ti (y := nI (at_ + k_)) (nI_add _ _) ?_
                    refine lv_iconst (v := nI 1) hx hb dX12_isHis_112 (by decide) ?_
                    refine lv_iadd hx hb dX12_isHis_113 ?_
                    refine fx_ti (y := nI (at_ + k_ + 1)) (nI_add _ _) ?_
                    refine fx_ialdN C hH h3_it (by omega) (by omega) dX12_isHis_114 ?_
                    refine lv_icmp_eq hx hb (tgt := 120) dX12_isHis_115 (by decide) (fun c115 => ?_) (fun c115 => ?_)
                    · refine lv_iinc (v := nI (k_ + 1)) (lv' := [(4, .int (nI (k_ + 1))), (0, .ref mo), (1, .int (nI j)), (2, .int (nI at_)), (3, .int (nI n)), (5, .int (nI p1))]) hx hb dX12_isHis_120 hl (k := 4) rfl (nI_1 _) (by decide) rfl (fun ls hl => ?_)
                      refine lv_goto (tgt := 33) hx hb dX12_isHis_123 (by decide) ?_
                      have hl : lv_has ls 6 [(0, .ref mo), (1, .int (nI j)), (2, .int (nI at_)), (3, .int (nI n)), (4, .int (nI (k_ + 1)))] := lv_sub hl [1, 2, 3, 4, 0] rfl
                      have hH : fx_H G base s (fx_up f so (oJ 13 (qH (fJ gso 0 lam 13) P wy pt cvf K wi ag (k_ + 1)))) sz H locs := (by have hp1 : p1 = P + 1 := (by omega); subst hp1; exact hH)
                      exact ih_33 (k_ + 1) (by omega) (fun z hz => by rcases Nat.lt_succ_iff_lt_or_eq.mp hz with q9 | q9; exact hall z q9; subst q9; have hp1 : p1 = P + 1 := (by omega); subst hp1; exact c115) (by omega) _ _ hH _ hl
                    · refine lv_iconst (v := nI 0) hx hb dX12_isHis_118 (by decide) ?_
                      exact fx_zretP C hr hk hH (by decide) ⟨_, (congrArg (fun z => some (Value.int z)) (bI_f (fun q9 => c115 (by have hp1 : p1 = P + 1 := (by omega); subst hp1; exact q9 k_ (by omega)))).symm), rfl, rfl⟩ (Nat.zero_le _) (Nat.zero_le _) dX12_isHis_119
                  · refine lv_aload_n hx hb dX12_isHis_55 rfl (lv_at hl 0 rfl) ?_
                    refine fx_get C hH (k := 20) (v := .ref so) h3_mo ff_X12_38_11 rfl dX12_isHis_56 ?_
                    refine lv_iload hx hb dX12_isHis_59 (lv_at hl 5 rfl) ?_
                    refine lv_dup2_11 hx hb dX12_isHis_61 rfl rfl ?_
                    refine fx_laldN C hH h3_so (by omega) (by omega) dX12_isHis_62 ?_
                    refine lv_aload_n hx hb dX12_isHis_63 rfl (lv_at hl 0 rfl) ?_
                    refine lv_iload_n hx hb dX12_isHis_64 rfl (lv_at hl 1 rfl) ?_
                    refine lv_aload_n hx hb dX12_isHis_65 rfl (lv_at hl 0 rfl) ?_
                    refine fx_get C hH (k := 4) (v := .ref it) h3_mo ff_X12_16_11 rfl dX12_isHis_66 ?_
                    refine lv_iload_n hx hb dX12_isHis_69 rfl (lv_at hl 2 rfl) ?_
                    refine lv_iload hx hb dX12_isHis_70 (lv_at hl 4 rfl) ?_
                    refine lv_iadd hx hb dX12_isHis_72 ?_
                    refine fx_ti (y := nI (at_ + k_)) (nI_add _ _) ?_
                    refine fx_ialdN C hH h3_it (by omega) (by omega) dX12_isHis_73 ?_
                    refine fx_ti (y := nI (pt k_)) hpk.1 ?_
                    refine lv_iload hx hb dX12_isHis_74 (lv_at hl 5 rfl) ?_
                    refine lv_iconst (v := nI 0) hx hb dX12_isHis_76 (by decide) ?_
                    refine fx_go1 hH (fx_runV C hH hl.1 (As := [.int (nI j), .int (nI (pt k_)), .int (nI p1), .int (nI 0)]) (rest := [.long ((wgR (qH (fJ gso 0 lam 13) P wy pt cvf K wi ag k_) (fun z => if pt k_ = z then 10 - feN K wi ag wy else 10 - cvf (pt k_)) p1) p1), .int (nI p1), .ref so]) (c_X12_speaks (G := G) (base := base) (l := l) (f := fx_up f so (oJ 13 (wgR (qH (fJ gso 0 lam 13) P wy pt cvf K wi ag k_) (fun z => if pt k_ = z then 10 - feN K wi ag wy else 10 - cvf (pt k_)) p1))) (sz := sz) (K := K) (wi := wi) (ag := ag) (cv := cvf (pt k_)) (mo := mo) (j := j) (nl := pt k_) (en := p1) (fe := 0) (th := th) (sa := sa) (la := la) (ma := ma) (it := it) (rl := rl) (fr := fr) (li := li) (wa := wa) (ld := ld) (ac := ac) (tp := tp) (tn := tn) (cu := cu) (sr := sr) (tk := tk) (va := va) (ft := ft) (fA := fA) (lt := lt) (so := so) (ik := ik) (kp := kp) (kl := kl) (tc := tc) (tt := tt) (rho := rho) h3_mo h3_rl (by omega) hk0 hk1 hk2 (by omega) (by omega) (by omega) (by omega) (by omega) hck.1 hck.2 (by omega)) mY_X12_speaks ml_X12_168 im_X12_speaks se_X12_X12_speaks h3_mo rfl rfl ⟨(Nat.le_of_ble_eq_true rfl), (Nat.le_of_ble_eq_true rfl)⟩ rfl (Nat.le_of_ble_eq_true rfl) ⟨(Nat.le_of_ble_eq_true rfl), (Nat.le_of_ble_eq_true rfl)⟩ dX12_isHis_77) (fun H locs hH => ?_)
                    refine fx_ti (y := nI (if pt k_ = p1 then 10 - feN K wi ag wy else 10 - cvf (pt k_))) (by rw [if_neg (by decide), hwy]; split <;> rfl) ?_
                    refine lv_i2l (v := lN (if pt k_ = p1 then 10 - feN K wi ag wy else 10 - cvf (pt k_))) hx hb dX12_isHis_80 (nI_l (by split <;> omega)) ?_
                    refine lv_lmul hx hb dX12_isHis_81 ?_
                    refine fx_lastN C hH h3_so (by omega) (by omega) dX12_isHis_82 (fun H locs hH => ?_)
                    have hH : fx_H G base s (fx_up (fx_up f so (oJ 13 (wgR (qH (fJ gso 0 lam 13) P wy pt cvf K wi ag k_) (fun z => if pt k_ = z then 10 - feN K wi ag wy else 10 - cvf (pt k_)) p1))) so (oJ 13 (vp_updL (wgR (qH (fJ gso 0 lam 13) P wy pt cvf K wi ag k_) (fun z => if pt k_ = z then 10 - feN K wi ag wy else 10 - cvf (pt k_)) p1) p1 (((wgR (qH (fJ gso 0 lam 13) P wy pt cvf K wi ag k_) (fun z => if pt k_ = z then 10 - feN K wi ag wy else 10 - cvf (pt k_)) p1) p1) * (lN (if pt k_ = p1 then 10 - feN K wi ag wy else 10 - cvf (pt k_))))))) sz H locs := hH
                    rw [fx_up_up] at hH
                    have hH : fx_H G base s (fx_up f so (oJ 13 (vp_updL (wgR (qH (fJ gso 0 lam 13) P wy pt cvf K wi ag k_) (fun z => if pt k_ = z then 10 - feN K wi ag wy else 10 - cvf (pt k_)) p1) p1 (((wgR (qH (fJ gso 0 lam 13) P wy pt cvf K wi ag k_) (fun z => if pt k_ = z then 10 - feN K wi ag wy else 10 - cvf (pt k_)) p1) p1) * (lN (if pt k_ = p1 then 10 - feN K wi ag wy else 10 - cvf (pt k_))))))) sz H locs := hH
                    have heq4 : fx_up (fx_up f so (oJ 13 (wgR (qH (fJ gso 0 lam 13) P wy pt cvf K wi ag k_) (fun z => if pt k_ = z then 10 - feN K wi ag wy else 10 - cvf (pt k_)) p1))) so (oJ 13 (vp_updL (wgR (qH (fJ gso 0 lam 13) P wy pt cvf K wi ag k_) (fun z => if pt k_ = z then 10 - feN K wi ag wy else 10 - cvf (pt k_)) p1) p1 (((wgR (qH (fJ gso 0 lam 13) P wy pt cvf K wi ag k_) (fun z => if pt k_ = z then 10 - feN K wi ag wy else 10 - cvf (pt k_)) p1) p1) * (lN (if pt k_ = p1 then 10 - feN K wi ag wy else 10 - cvf (pt k_)))))) = fx_up f so (oJ 13 (vp_updL (wgR (qH (fJ gso 0 lam 13) P wy pt cvf K wi ag k_) (fun z => if pt k_ = z then 10 - feN K wi ag wy else 10 - cvf (pt k_)) p1) p1 (((wgR (qH (fJ gso 0 lam 13) P wy pt cvf K wi ag k_) (fun z => if pt k_ = z then 10 - feN K wi ag wy else 10 - cvf (pt k_)) p1) p1) * (lN (if pt k_ = p1 then 10 - feN K wi ag wy else 10 - cvf (pt k_)))))) := by rw [fx_up_up]
                    have h4_mo : (fx_up f so (oJ 13 (vp_updL (wgR (qH (fJ gso 0 lam 13) P wy pt cvf K wi ag k_) (fun z => if pt k_ = z then 10 - feN K wi ag wy else 10 - cvf (pt k_)) p1) p1 (((wgR (qH (fJ gso 0 lam 13) P wy pt cvf K wi ag k_) (fun z => if pt k_ = z then 10 - feN K wi ag wy else 10 - cvf (pt k_)) p1) p1) * (lN (if pt k_ = p1 then 10 - feN K wi ag wy else 10 - cvf (pt k_))))))) mo = some (oO 11 [.int th, .int sa, .ref la, .ref ma, .ref it, .ref rl, .ref fr, .ref li, .ref wa, .ref ld, .int ac, .ref tp, .int tn, .int cu, .int sr, .int tk, .int va, .int ft, .int fA, .int lt, .ref so, .ref ik, .ref kp, .ref kl, .ref tc, .int tt]) := (congrFun heq4 mo).symm.trans ((fx_up_n _ _ (fx_ne h3_mo h3_so rfl)).trans h3_mo)
                    have h4_rl : (fx_up f so (oJ 13 (vp_updL (wgR (qH (fJ gso 0 lam 13) P wy pt cvf K wi ag k_) (fun z => if pt k_ = z then 10 - feN K wi ag wy else 10 - cvf (pt k_)) p1) p1 (((wgR (qH (fJ gso 0 lam 13) P wy pt cvf K wi ag k_) (fun z => if pt k_ = z then 10 - feN K wi ag wy else 10 - cvf (pt k_)) p1) p1) * (lN (if pt k_ = p1 then 10 - feN K wi ag wy else 10 - cvf (pt k_))))))) rl = some (oI 48 rho) := (congrFun heq4 rl).symm.trans ((fx_up_n _ _ (fx_ne h3_rl h3_so rfl)).trans h3_rl)
                    have h4_li : (fx_up f so (oJ 13 (vp_updL (wgR (qH (fJ gso 0 lam 13) P wy pt cvf K wi ag k_) (fun z => if pt k_ = z then 10 - feN K wi ag wy else 10 - cvf (pt k_)) p1) p1 (((wgR (qH (fJ gso 0 lam 13) P wy pt cvf K wi ag k_) (fun z => if pt k_ = z then 10 - feN K wi ag wy else 10 - cvf (pt k_)) p1) p1) * (lN (if pt k_ = p1 then 10 - feN K wi ag wy else 10 - cvf (pt k_))))))) li = some (oJ 13 lam) := (congrFun heq4 li).symm.trans ((fx_up_n _ _ hne_1).trans h3_li)
                    have h4_it : (fx_up f so (oJ 13 (vp_updL (wgR (qH (fJ gso 0 lam 13) P wy pt cvf K wi ag k_) (fun z => if pt k_ = z then 10 - feN K wi ag wy else 10 - cvf (pt k_)) p1) p1 (((wgR (qH (fJ gso 0 lam 13) P wy pt cvf K wi ag k_) (fun z => if pt k_ = z then 10 - feN K wi ag wy else 10 - cvf (pt k_)) p1) p1) * (lN (if pt k_ = p1 then 10 - feN K wi ag wy else 10 - cvf (pt k_))))))) it = some (oI 320 git) := (congrFun heq4 it).symm.trans ((fx_up_n _ _ (fx_ne h3_it h3_so rfl)).trans h3_it)
                    have h4_so : (fx_up f so (oJ 13 (vp_updL (wgR (qH (fJ gso 0 lam 13) P wy pt cvf K wi ag k_) (fun z => if pt k_ = z then 10 - feN K wi ag wy else 10 - cvf (pt k_)) p1) p1 (((wgR (qH (fJ gso 0 lam 13) P wy pt cvf K wi ag k_) (fun z => if pt k_ = z then 10 - feN K wi ag wy else 10 - cvf (pt k_)) p1) p1) * (lN (if pt k_ = p1 then 10 - feN K wi ag wy else 10 - cvf (pt k_))))))) so = some (oJ 13 (vp_updL (wgR (qH (fJ gso 0 lam 13) P wy pt cvf K wi ag k_) (fun z => if pt k_ = z then 10 - feN K wi ag wy else 10 - cvf (pt k_)) p1) p1 (((wgR (qH (fJ gso 0 lam 13) P wy pt cvf K wi ag k_) (fun z => if pt k_ = z then 10 - feN K wi ag wy else 10 - cvf (pt k_)) p1) p1) * (lN (if pt k_ = p1 then 10 - feN K wi ag wy else 10 - cvf (pt k_)))))) := (congrFun heq4 so).symm.trans (fx_up_s _ _ _)
                    refine lv_iinc (v := nI (p1 + 1)) (lv' := [(5, .int (nI (p1 + 1))), (0, .ref mo), (1, .int (nI j)), (2, .int (nI at_)), (3, .int (nI n)), (4, .int (nI k_))]) hx hb dX12_isHis_83 hl (k := 5) rfl (nI_1 _) (by decide) rfl (fun ls hl => ?_)
                    refine lv_goto (tgt := 44) hx hb dX12_isHis_86 (by decide) ?_
                    have hl : lv_has ls 6 [(0, .ref mo), (1, .int (nI j)), (2, .int (nI at_)), (3, .int (nI n)), (4, .int (nI k_)), (5, .int (nI (p1 + 1)))] := lv_sub hl [1, 2, 3, 4, 5, 0] rfl
                    have hH : fx_H G base s (fx_up f so (oJ 13 (wgR (qH (fJ gso 0 lam 13) P wy pt cvf K wi ag k_) (fun z => if pt k_ = z then 10 - feN K wi ag wy else 10 - cvf (pt k_)) (p1 + 1)))) sz H locs := (by rw [wgR]; exact hH)
                    exact ih_44 (p1 + 1) (by omega) (by omega) _ _ hH _ hl
              have hl : lv_has ls 6 [(0, .ref mo), (1, .int (nI j)), (2, .int (nI at_)), (3, .int (nI n)), (4, .int (nI k_)), (5, .int (nI 0))] := lv_sub hl [1, 2, 3, 4, 5, 0] rfl
              have hH : fx_H G base s (fx_up f so (oJ 13 (wgR (qH (fJ gso 0 lam 13) P wy pt cvf K wi ag k_) (fun z => if pt k_ = z then 10 - feN K wi ag wy else 10 - cvf (pt k_)) 0))) sz H locs := hH
              exact loop_44 _ 0 (by omega) (Nat.lt_succ_self _) _ _ hH _ hl
        have hl : lv_has ls 6 [(0, .ref mo), (1, .int (nI j)), (2, .int (nI at_)), (3, .int (nI n)), (4, .int (nI 0))] := lv_sub hl [1, 2, 3, 4, 0] rfl
        have hH : fx_H G base s (fx_up f so (oJ 13 (qH (fJ gso 0 lam 13) P wy pt cvf K wi ag 0))) sz H locs := (by rw [show i = 13 from (by omega)] at hH; exact hH)
        exact loop_33 _ 0 (by omega) (fun z hz => absurd hz (Nat.not_lt_zero _)) (Nat.lt_succ_self _) _ _ hH _ hl
      · refine lv_aload_n hx hb dX12_isHis_10 rfl (lv_at hl 0 rfl) ?_
        refine fx_get C hH (k := 20) (v := .ref so) h1_mo ff_X12_38_11 rfl dX12_isHis_11 ?_
        refine lv_iload hx hb dX12_isHis_14 (lv_at hl 4 rfl) ?_
        refine lv_aload_n hx hb dX12_isHis_16 rfl (lv_at hl 0 rfl) ?_
        refine fx_get C hH (k := 7) (v := .ref li) h1_mo ff_X12_25_11 rfl dX12_isHis_17 ?_
        refine lv_iload hx hb dX12_isHis_20 (lv_at hl 4 rfl) ?_
        refine fx_laldN C hH h1_li (by omega) (by omega) dX12_isHis_22 ?_
        refine fx_lastN C hH h1_so (by omega) (by omega) dX12_isHis_23 (fun H locs hH => ?_)
        have hH : fx_H G base s (fx_up (fx_up f so (oJ 13 (fJ gso 0 lam i))) so (oJ 13 (vp_updL (fJ gso 0 lam i) i (lam i)))) sz H locs := hH
        rw [fx_up_up] at hH
        have hH : fx_H G base s (fx_up f so (oJ 13 (vp_updL (fJ gso 0 lam i) i (lam i)))) sz H locs := hH
        have heq5 : fx_up (fx_up f so (oJ 13 (fJ gso 0 lam i))) so (oJ 13 (vp_updL (fJ gso 0 lam i) i (lam i))) = fx_up f so (oJ 13 (vp_updL (fJ gso 0 lam i) i (lam i))) := by rw [fx_up_up]
        have h5_mo : (fx_up f so (oJ 13 (vp_updL (fJ gso 0 lam i) i (lam i)))) mo = some (oO 11 [.int th, .int sa, .ref la, .ref ma, .ref it, .ref rl, .ref fr, .ref li, .ref wa, .ref ld, .int ac, .ref tp, .int tn, .int cu, .int sr, .int tk, .int va, .int ft, .int fA, .int lt, .ref so, .ref ik, .ref kp, .ref kl, .ref tc, .int tt]) := (congrFun heq5 mo).symm.trans ((fx_up_n _ _ (fx_ne h1_mo h1_so rfl)).trans h1_mo)
        have h5_rl : (fx_up f so (oJ 13 (vp_updL (fJ gso 0 lam i) i (lam i)))) rl = some (oI 48 rho) := (congrFun heq5 rl).symm.trans ((fx_up_n _ _ (fx_ne h1_rl h1_so rfl)).trans h1_rl)
        have h5_li : (fx_up f so (oJ 13 (vp_updL (fJ gso 0 lam i) i (lam i)))) li = some (oJ 13 lam) := (congrFun heq5 li).symm.trans ((fx_up_n _ _ hne_1).trans h1_li)
        have h5_it : (fx_up f so (oJ 13 (vp_updL (fJ gso 0 lam i) i (lam i)))) it = some (oI 320 git) := (congrFun heq5 it).symm.trans ((fx_up_n _ _ (fx_ne h1_it h1_so rfl)).trans h1_it)
        have h5_so : (fx_up f so (oJ 13 (vp_updL (fJ gso 0 lam i) i (lam i)))) so = some (oJ 13 (vp_updL (fJ gso 0 lam i) i (lam i))) := (congrFun heq5 so).symm.trans (fx_up_s _ _ _)
        refine lv_iinc (v := nI (i + 1)) (lv' := [(4, .int (nI (i + 1))), (0, .ref mo), (1, .int (nI j)), (2, .int (nI at_)), (3, .int (nI n))]) hx hb dX12_isHis_24 hl (k := 4) rfl (nI_1 _) (by decide) rfl (fun ls hl => ?_)
        refine lv_goto (tgt := 3) hx hb dX12_isHis_27 (by decide) ?_
        have hl : lv_has ls 6 [(0, .ref mo), (1, .int (nI j)), (2, .int (nI at_)), (3, .int (nI n)), (4, .int (nI (i + 1)))] := lv_sub hl [1, 2, 3, 4, 0] rfl
        have hH : fx_H G base s (fx_up f so (oJ 13 (fJ gso 0 lam (i + 1)))) sz H locs := (by rw [fJ, Nat.zero_add]; exact hH)
        exact ih_3 (i + 1) (by omega) (by omega) _ _ hH _ hl
  have hl : lv_has ls 6 [(0, .ref mo), (1, .int (nI j)), (2, .int (nI at_)), (3, .int (nI n)), (4, .int (nI 0))] := lv_sub hl [1, 2, 3, 4, 0] rfl
  have hH : fx_H G base s (fx_up f so (oJ 13 (fJ gso 0 lam 0))) sz H locs := (by rw [fx_up_id (show f so = some (oJ 13 (fJ gso 0 lam 0)) from h_so)]; exact hH)
  exact loop_3 _ 0 (by omega) (Nat.lt_succ_self _) _ _ hH _ hl
