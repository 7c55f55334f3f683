/-! THE CLAIM OUT OF ONE WALK OF THE LAW'S BODY. Your part is whole_start (and what it stands on); all else here is the same for every law, but numbers. -/
def R_law : String := "TapeEndLaw"
def lw_P (b : Addr) (xs : List Int32) (args : Array Value) (s : State) : Prop := args = #[.ref b] ∧ s.IntsAt b xs ∧ xs.length ≤ 384 ∧ (Jvm.Cond.and given_1 narrow_1).before args s = true
def lw_Q (_ : Array Value) (s : State) (o : Outcome) (t : State) : Prop := o = .returned (some (.int 1)) ∧ Framed s o t [] 600000 7302250
def lw_Z (below : List Frame) (a : Array Value) (s : State) : State → Prop := fun t => ∃ o, t.status = .running ∧ Ended t below o ∧ lw_Q a s o t
/-- the law's own end, with 1 on the stack, nothing written that was there before, its room as the claim has it -/
theorem lw_ret {p : Program} {l : Launch} {e : Env} {s : State} {m : MethodId} {below : List Frame} {meth : Method} {c : Code} {b : Nat} (hx : p.tables.exec = Jvm.exec) (hb : c.code = code) (hr : meth.sig.returnType = ret) (hlocks : meth.locks = false) {pc : Nat} {H : Heap} {ls : Array Slot} (hdg : decode code pc = .ok (.ireturn, 1)) : W p l e room_1 s m #[Value.ref b] below meth c H [] 600000 7302250 (lw_Z below #[Value.ref b] s) (F0 m pc ls [.int 1]) := by
  intro T hT X
  obtain ⟨fs, hret, hrun, hended, hW, hframe⟩ := X.leave (v := some (.int 1)) (hlocks := hlocks) (fun h => by rw [hr] at h; cases h)
  have hmeth' : T.vm.method? m = some meth := X.method'
  refine ⟨T.setFrames fs, ?_, .returned (some (.int 1)), hrun, hended, rfl, ⟨_, rfl⟩, hW, hframe⟩
  jvm_step X.here [X.here.top, hx, hb, hdg, hmeth', hr, ret, narrow_b1]
  (try refine ⟨rfl, ?_⟩); (try refine ⟨rfl, ?_⟩)
  first | (intro acts; rw [hret _ acts rfl rfl rfl]) | rw [hret _ _ rfl rfl rfl]
  exact Steps.refl _
/-- what holds at the law's entry: the machine, the code, the tables' words (any of lw_tbl by 'hts w (by decide +kernel)'), the script of L ints xs at the cell b, what the Statement gives of the start (any of its parts by flat_of_before) -/
def lw_At (p : Program) (s : State) (m : MethodId) (meth : Method) (c : Code) (b L : Nat) (xs : Nat → Int32) : Prop :=
  p.tables.exec = Jvm.exec ∧ c.code = code ∧ meth.sig.returnType = ret ∧ c.maxLocals = 4 ∧ s.vm.findClass R_law = some m.cls ∧ (∀ w ∈ lw_tbl, w.before #[Value.ref b] s = true) ∧ va_X b L xs s s.heap ∧ b < s.heap.size ∧ meth.locks = false ∧ (Jvm.Cond.and given_1 narrow_1).before #[Value.ref b] s = true
theorem lw_E {s : State} {b : Nat} (hts : ∀ w ∈ lw_tbl, w.before #[Value.ref b] s = true) (hgv : (Jvm.Cond.and given_1 narrow_1).before #[Value.ref b] s = true) : ∃ G : GG, fx_E G s := by
  have hs := flat_of_before _ hgv
  obtain ⟨c0, i0, k0⟩ := u_known (C := RX0) (T := TX0) (N := 3) (n := 3) hts inX0 (hts _ ib_X0)
  obtain ⟨c1, i1, k1⟩ := u_known (C := RX1) (T := TX1) (N := 3) (n := 3) hts inX1 (hts _ ib_X1)
  obtain ⟨c2, i2, k2⟩ := u_known (C := RX2) (T := TX2) (N := 9) (n := 9) hts inX2 (hts _ ib_X2)
  obtain ⟨c3, i3, k3⟩ := u_known (C := RX3) (T := TX3) (N := 3) (n := 3) hts inX3 (hts _ ib_X3)
  obtain ⟨c4, i4, k4⟩ := u_known (C := RX4) (T := TX4) (N := 8) (n := 8) hts inX4 (hts _ ib_X4)
  obtain ⟨c5, i5, k5⟩ := u_known (C := RX5) (T := TX5) (N := 3) (n := 3) hts inX5 (hts _ ib_X5)
  obtain ⟨c6, i6, k6⟩ := u_known (C := RX6) (T := TX6) (N := 4) (n := 4) hts inX6 (hts _ ib_X6)
  obtain ⟨c7, i7, k7⟩ := u_known (C := RX8) (T := TX8) (N := 3) (n := 3) hts inX8 (hts _ ib_X8)
  obtain ⟨c8, i8, k8⟩ := u_known (C := RX9) (T := TX9) (N := 4) (n := 4) hts inX9 (hts _ ib_X9)
  obtain ⟨c9, i9, k9⟩ := u_known (C := RX10) (T := TX10) (N := 2) (n := 2) hts inX10 (hts _ ib_X10)
  obtain ⟨c10, i10, k10⟩ := u_known (C := RX11) (T := TX11) (N := 11) (n := 11) hts inX11 (hts _ ib_X11)
  obtain ⟨c11, i11, k11⟩ := u_known (C := RX12) (T := TX12) (N := 26) (n := 26) hts inX12 (hts _ ib_X12)
  obtain ⟨a0, y0, z0, p0, q0, r0⟩ := Cond.arrayClass_spec (hts _ ac_int)
  obtain ⟨a1, y1, z1, p1, q1, r1⟩ := Cond.arrayClass_spec (hts _ ac_long)
  obtain ⟨a2, y2, z2, p2, q2, r2⟩ := Cond.arrayClass_spec (hts _ ac_boolean)
  obtain ⟨z3, a3, y3, p3, q3, r3, t3, u3⟩ := Cond.arrayOver_spec (hts _ ao_X4)
  obtain ⟨z4, a4, y4, p4, q4, r4, t4, u4⟩ := Cond.arrayOver_spec (hts _ ao_X6)
  obtain ⟨z5, a5, y5, p5, q5, r5, t5, u5⟩ := Cond.arrayOver_spec (hts _ ao_X7)
  refine ⟨((fun n => if n = 0 then c0 else if n = 1 then c1 else if n = 2 then c2 else if n = 3 then c3 else if n = 4 then c4 else if n = 5 then c5 else if n = 6 then c6 else if n = 7 then c7 else if n = 8 then c8 else if n = 9 then c9 else if n = 10 then c10 else c11, fun n => if n = 0 then i0 else if n = 1 then i1 else if n = 2 then i2 else if n = 3 then i3 else if n = 4 then i4 else if n = 5 then i5 else if n = 6 then i6 else if n = 7 then i7 else if n = 8 then i8 else if n = 9 then i9 else if n = 10 then i10 else i11), fun n => if n = 0 then a0 else if n = 1 then a1 else if n = 2 then a2 else if n = 3 then a3 else if n = 4 then a4 else a5), ?_, ⟨?_, ?_⟩, ?_⟩
  · intro w hw hg a
    by_cases hgw : goodWord w = true
    · exact word_at (State.WarmedH.refl s) (good_of_word hgw) (hts w hw)
    · cases w <;> first
        | exact va_tabs rfl rfl (hts _ hw)
        | exact absurd hg hgw
        | (rename_i t; cases t <;> first | exact va_AO.use (va_AO.of (hts _ hw)) | exact absurd hg hgw)
  · intro n q hq
    match n, hq with
    | 0, hq => cases hq; exact k0
    | 1, hq => cases hq; exact k1
    | 2, hq => cases hq; exact k2
    | 3, hq => cases hq; exact k3
    | 4, hq => cases hq; exact k4
    | 5, hq => cases hq; exact k5
    | 6, hq => cases hq; exact k6
    | 7, hq => cases hq; exact k7
    | 8, hq => cases hq; exact k8
    | 9, hq => cases hq; exact k9
    | 10, hq => cases hq; exact k10
    | 11, hq => cases hq; exact k11
    | n + 12, hq => simp at hq
  · intro n q hq
    match n, hq with
    | 0, hq => cases hq; exact ⟨fun N z => ⟨fun k h => (by cases h), y0, q0, z0, r0⟩, p0⟩
    | 1, hq => cases hq; exact ⟨fun N z => ⟨fun k h => (by cases h), y1, q1, z1, r1⟩, p1⟩
    | 2, hq => cases hq; exact ⟨fun N z => ⟨fun k h => (by cases h), y2, q2, z2, r2⟩, p2⟩
    | 3, hq => cases hq; exact ⟨fun N z => ⟨fun k h => (by cases h), y3, r3, z3, t3⟩, y3, z3, r3, t3, p3, u3⟩
    | 4, hq => cases hq; exact ⟨fun N z => ⟨fun k h => (by cases h), y4, r4, z4, t4⟩, y4, z4, r4, t4, p4, u4⟩
    | 5, hq => cases hq; exact ⟨fun N z => ⟨fun k h => (by cases h), y5, r5, z5, t5⟩, y5, z5, r5, t5, p5, u5⟩
    | n + 6, hq => simp at hq
  · exact List.forall_mem_cons.mpr ⟨va_Nc.of (hs (Cond.not (.castable "TapeEnd$Back" "TapeEnd$Lamp")) (by decide +kernel)), List.forall_mem_cons.mpr ⟨va_Nc.of (hs (Cond.not (.castable "TapeEnd$Back" "TapeEnd$Likeliest")) (by decide +kernel)), List.forall_mem_cons.mpr ⟨va_Nc.of (hs (Cond.not (.castable "TapeEnd$Back" "TapeEnd$Tabs")) (by decide +kernel)), List.forall_mem_cons.mpr ⟨va_Nc.of (hs (Cond.not (.castable "TapeEnd$Lamp" "TapeEnd$Back")) (by decide +kernel)), List.forall_mem_cons.mpr ⟨va_Nc.of (hs (Cond.not (.castable "TapeEnd$Lamp" "TapeEnd$Likeliest")) (by decide +kernel)), List.forall_mem_cons.mpr ⟨va_Nc.of (hs (Cond.not (.castable "TapeEnd$Lamp" "TapeEnd$Tabs")) (by decide +kernel)), List.forall_mem_cons.mpr ⟨va_Nc.of (hs (Cond.not (.castable "TapeEnd$Likeliest" "TapeEnd$Round")) (by decide +kernel)), List.forall_mem_cons.mpr ⟨va_Nc.of (hs (Cond.not (.castable "TapeEnd$Likeliest" "TapeEnd$Back")) (by decide +kernel)), List.forall_mem_cons.mpr ⟨va_Nc.of (hs (Cond.not (.castable "TapeEnd$Likeliest" "TapeEnd$Lamp")) (by decide +kernel)), List.forall_mem_cons.mpr ⟨va_Nc.of (hs (Cond.not (.castable "TapeEnd$Likeliest" "TapeEnd$Tabs")) (by decide +kernel)), List.forall_mem_cons.mpr ⟨va_Nc.of (hs (Cond.not (.castable "TapeEnd$Round" "TapeEnd$Back")) (by decide +kernel)), List.forall_mem_cons.mpr ⟨va_Nc.of (hs (Cond.not (.castable "TapeEnd$Round" "TapeEnd$Lamp")) (by decide +kernel)), List.forall_mem_cons.mpr ⟨va_Nc.of (hs (Cond.not (.castable "TapeEnd$Round" "TapeEnd$Likeliest")) (by decide +kernel)), List.forall_mem_cons.mpr ⟨va_Nc.of (hs (Cond.not (.castable "TapeEnd$Round" "TapeEnd$Tabs")) (by decide +kernel)), List.forall_mem_cons.mpr ⟨va_Nc.of (hs (Cond.not (.castable "TapeEnd$Tabs" "TapeEnd$Round")) (by decide +kernel)), List.forall_mem_cons.mpr ⟨va_Nc.of (hs (Cond.not (.castable "TapeEnd$Tabs" "TapeEnd$Back")) (by decide +kernel)), List.forall_mem_cons.mpr ⟨va_Nc.of (hs (Cond.not (.castable "TapeEnd$Tabs" "TapeEnd$Lamp")) (by decide +kernel)), fun _ h => absurd h List.not_mem_nil⟩⟩⟩⟩⟩⟩⟩⟩⟩⟩⟩⟩⟩⟩⟩⟩⟩
theorem lw_out {x : Int32} (h : ∀ k, k < 37 → ¬ x = nI k) : x.toInt < 0 ∨ 36 < x.toInt := by
  refine Classical.byContradiction fun q => ?_
  have h1 : ¬ x < 0 := by
    rw [fa_lt]
    have e0 : ((0 : Int32)).toInt = 0 := by decide
    rw [e0]; omega
  obtain ⟨j, hj, rfl⟩ := nI_of (x := x) h1
  rw [nI_toInt hj] at q
  exact h j (by omega) rfl
/-- the law's loop -/
theorem law_loop {p : Program} {l : Launch} {e : Env} {s : State} {m : MethodId} {below : List Frame} {meth : Method} {c : Code} {G : GG} {a0 L : Nat} {xs : Nat → Int32} (C : fx_C G p s m c cL_law 4 RL) (hr : meth.sig.returnType = ret) (hlk : meth.locks = false) (hX : va_X a0 L xs s s.heap) (hbl : a0 < s.heap.size) (hL : L ≤ 384) : ∀ (N k : Nat), L - 6 * k < N → 6 * k ≤ L → ∀ (f : Hp) (sz : Nat) (H : Heap) (locs : List Loc) (ls : Array Slot), REL s.heap.size f sz → fx_H G s.heap.size s f sz H locs → lv_has ls 4 [(0, .ref a0), (1, .ref s.heap.size), (2, .ref (s.heap.size + 84)), (3, .int (nI (6 * k)))] → W p l e room_1 s m #[Value.ref a0] below meth c H locs (99 + 9 * k) (3372 + 52 * k) (lw_Z below #[Value.ref a0] s) (F0 m 18 ls []) := by
  have hx := C.1
  have hb := C.2.1
  intro N
  induction N with
  | zero => intro k h; exact absurd h (Nat.not_lt_zero _)
  | succ N ih =>
    intro k hN hkL f sz H locs ls hR hH hl
    refine lv_iload_n hx hb dL_law_18 rfl (lv_at hl 3 rfl) ?_
    refine lv_aload_n hx hb dL_law_19 rfl (lv_at hl 0 rfl) ?_
    refine va_slen (A := fun q => s.heap.size ≤ q) hx hb hX hbl (Nat.not_le.mpr hbl) hH.2.2.2 dL_law_20 ?_
    refine lv_bipush (v := nI 6) hx hb dL_law_21 (by decide) ?_
    refine lv_isub hx hb dL_law_23 ?_
    refine lv_icmp_gt (tgt := 1358) hx hb dL_law_24 (by decide) (fun _ => ?_) (fun c24 => ?_)
    · refine lv_iconst (v := 1) hx hb dL_law_1358 (by decide) ?_
      refine va_forget (fun q hq => hH.2.2.2.2.2 q hq) ?_
      refine W.widen (k := 600000) (n := 7302250) (by omega) (by omega) ?_
      exact lw_ret hx hb hr hlk dL_law_1359
    · have hk6 : 6 * k + 6 ≤ L := by
        have e1 : (nI L - nI 6).toInt = (L : Int) - (6 : Nat) := pk_sub_toInt (by omega) (by omega)
        rw [fa_lt] at c24
        rw [show Int32.ofNat L = nI L from rfl] at c24
        rw [e1, nI_toInt (by omega)] at c24
        omega
      have hgo : ∀ (f' : Hp) (sz' : Nat) (H' : Heap) (locs' : List Loc), REL s.heap.size f' sz' → fx_H G s.heap.size s f' sz' H' locs' → W p l e room_1 s m #[Value.ref a0] below meth c H' locs' (99 + 9 * k + 9) (3372 + 52 * k + 52) (lw_Z below #[Value.ref a0] s) (F0 m 1352 ls []) := by
        intro f' sz' H' locs' hR' hH'
        refine lv_iinc (v := nI (6 * (k + 1))) (lv' := [(3, .int (nI (6 * (k + 1)))), (0, .ref a0), (1, .ref s.heap.size), (2, .ref (s.heap.size + 84))]) hx hb dL_law_1352 hl (k := 3) rfl (by rw [show 6 * (k + 1) = 6 * k + 6 by omega]; exact nI_add _ 6) (by decide) rfl (fun ls hl => ?_)
        refine lv_goto (tgt := 18) hx hb dL_law_1355 (by decide) ?_
        exact W.widen (by omega) (by omega) (ih (k + 1) (by omega) (by omega) f' sz' H' locs' ls hR' hH' (lv_sub hl [1, 2, 3, 0] rfl))
      refine lv_aload_n hx hb dL_law_27 rfl (lv_at hl 0 rfl) ?_
      refine lv_iload_n hx hb dL_law_28 rfl (lv_at hl 3 rfl) ?_
      refine va_sld (A := fun q => s.heap.size ≤ q) hx hb hX hbl (Nat.not_le.mpr hbl) hH.2.2.2 (vp_in_nI (show 6 * k < L by omega) (by omega)) dL_law_29 ?_
      refine lv_bipush (v := nI 63) hx hb dL_law_30 (by decide) ?_
      refine lv_iand hx hb dL_law_32 ?_
      generalize xs (nI (6 * k)).toNatClampNeg &&& nI 63 = x
      by_cases hsw : ∃ j, j < 37 ∧ x = nI j
      · obtain ⟨j, hj, rfl⟩ := hsw
        have hc : 99 + 9 * k + 9 ≤ 600000 ∧ 3372 + 52 * k + 52 ≤ 7302250 := by omega
        have h37 : j = 0 ∨ j = 1 ∨ j = 2 ∨ j = 3 ∨ j = 4 ∨ j = 5 ∨ j = 6 ∨ j = 7 ∨ j = 8 ∨ j = 9 ∨ j = 10 ∨ j = 11 ∨ j = 12 ∨ j = 13 ∨ j = 14 ∨ j = 15 ∨ j = 16 ∨ j = 17 ∨ j = 18 ∨ j = 19 ∨ j = 20 ∨ j = 21 ∨ j = 22 ∨ j = 23 ∨ j = 24 ∨ j = 25 ∨ j = 26 ∨ j = 27 ∨ j = 28 ∨ j = 29 ∨ j = 30 ∨ j = 31 ∨ j = 32 ∨ j = 33 ∨ j = 34 ∨ j = 35 ∨ j = 36 := by omega
        rcases h37 with rfl | rfl | rfl | rfl | rfl | rfl | rfl | rfl | rfl | rfl | rfl | rfl | rfl | rfl | rfl | rfl | rfl | rfl | rfl | rfl | rfl | rfl | rfl | rfl | rfl | rfl | rfl | rfl | rfl | rfl | rfl | rfl | rfl | rfl | rfl | rfl | rfl
        · exact lv_tableIn (off := 163) (tgt := 196) hx hb dL_law_33 (by decide) (by decide) (by decide) (by decide) (lw_row_at C hX hbl hL hk6 hR hH hl hc hgo)
        · exact lv_tableIn (off := 206) (tgt := 239) hx hb dL_law_33 (by decide) (by decide) (by decide) (by decide) (lw_set_at C hX hbl hL hk6 hR hH hl hc hgo)
        · exact lv_tableIn (off := 249) (tgt := 282) hx hb dL_law_33 (by decide) (by decide) (by decide) (by decide) (lw_copy_at C hX hbl hL hk6 hR hH hl hc hgo)
        · exact lv_tableIn (off := 312) (tgt := 345) hx hb dL_law_33 (by decide) (by decide) (by decide) (by decide) (lw_drop_at C hX hbl hL hk6 hR hH hl hc hgo)
        · exact lv_tableIn (off := 335) (tgt := 368) hx hb dL_law_33 (by decide) (by decide) (by decide) (by decide) (lw_feed_at C hX hbl hL hk6 hR hH hl hc hgo)
        · exact lv_tableIn (off := 358) (tgt := 391) hx hb dL_law_33 (by decide) (by decide) (by decide) (by decide) (lw_roll_at C hX hbl hL hk6 hR hH hl hc hgo)
        · exact lv_tableIn (off := 371) (tgt := 404) hx hb dL_law_33 (by decide) (by decide) (by decide) (by decide) (lw_fault_at C hX hbl hL hk6 hR hH hl hc hgo)
        · exact lv_tableIn (off := 384) (tgt := 417) hx hb dL_law_33 (by decide) (by decide) (by decide) (by decide) (lw_undo_at C hX hbl hL hk6 hR hH hl hc hgo)
        · exact lv_tableIn (off := 397) (tgt := 430) hx hb dL_law_33 (by decide) (by decide) (by decide) (by decide) (lw_touch_at C hX hbl hL hk6 hR hH hl hc hgo)
        · exact lv_tableIn (off := 430) (tgt := 463) hx hb dL_law_33 (by decide) (by decide) (by decide) (by decide) (lw_go_at C hX hbl hL hk6 hR hH hl hc hgo)
        · exact lv_tableIn (off := 453) (tgt := 486) hx hb dL_law_33 (by decide) (by decide) (by decide) (by decide) (lw_over_at C hX hbl hL hk6 hR hH hl hc hgo)
        · exact lv_tableIn (off := 466) (tgt := 499) hx hb dL_law_33 (by decide) (by decide) (by decide) (by decide) (lw_seek_at C hX hbl hL hk6 hR hH hl hc hgo)
        · exact lv_tableIn (off := 489) (tgt := 522) hx hb dL_law_33 (by decide) (by decide) (by decide) (by decide) (lw_fold_at C hX hbl hL hk6 hR hH hl hc hgo)
        · exact lv_tableIn (off := 512) (tgt := 545) hx hb dL_law_33 (by decide) (by decide) (by decide) (by decide) (lw_nail_at C hX hbl hL hk6 hR hH hl hc hgo)
        · exact lv_tableIn (off := 535) (tgt := 568) hx hb dL_law_33 (by decide) (by decide) (by decide) (by decide) (lw_place_at C hX hbl hL hk6 hR hH hl hc hgo)
        · exact lv_tableIn (off := 568) (tgt := 601) hx hb dL_law_33 (by decide) (by decide) (by decide) (by decide) (lw_seeker_at C hX hbl hL hk6 hR hH hl hc hgo)
        · exact lv_tableIn (off := 601) (tgt := 634) hx hb dL_law_33 (by decide) (by decide) (by decide) (by decide) (lw_likelihood_at C hX hbl hL hk6 hR hH hl hc hgo)
        · exact lv_tableIn (off := 625) (tgt := 658) hx hb dL_law_33 (by decide) (by decide) (by decide) (by decide) (lw_likely_at C hX hbl hL hk6 hR hH hl hc hgo)
        · exact lv_tableIn (off := 659) (tgt := 692) hx hb dL_law_33 (by decide) (by decide) (by decide) (by decide) (lw_felt_at C hX hbl hL hk6 hR hH hl hc hgo)
        · exact lv_tableIn (off := 693) (tgt := 726) hx hb dL_law_33 (by decide) (by decide) (by decide) (by decide) (lw_surest_at C hX hbl hL hk6 hR hH hl hc hgo)
        · exact lv_tableIn (off := 706) (tgt := 739) hx hb dL_law_33 (by decide) (by decide) (by decide) (by decide) (lw_mean_at C hX hbl hL hk6 hR hH hl hc hgo)
        · exact lv_tableIn (off := 770) (tgt := 803) hx hb dL_law_33 (by decide) (by decide) (by decide) (by decide) (lw_begin_at C hX hbl hL hk6 hR hH hl hc hgo)
        · exact lv_tableIn (off := 803) (tgt := 836) hx hb dL_law_33 (by decide) (by decide) (by decide) (by decide) (lw_noEnd_at C hX hbl hL hk6 hR hH hl hc hgo)
        · exact lv_tableIn (off := 846) (tgt := 879) hx hb dL_law_33 (by decide) (by decide) (by decide) (by decide) (lw_width_at C hX hbl hL hk6 hR hH hl hc hgo)
        · exact lv_tableIn (off := 899) (tgt := 932) hx hb dL_law_33 (by decide) (by decide) (by decide) (by decide) (lw_lost_at C hX hbl hL hk6 hR hH hl hc hgo)
        · exact lv_tableIn (off := 942) (tgt := 975) hx hb dL_law_33 (by decide) (by decide) (by decide) (by decide) (lw_pays_at C hX hbl hL hk6 hR hH hl hc hgo)
        · exact lv_tableIn (off := 975) (tgt := 1008) hx hb dL_law_33 (by decide) (by decide) (by decide) (by decide) (lw_whose_at C hX hbl hL hk6 hR hH hl hc hgo)
        · exact lv_tableIn (off := 1018) (tgt := 1051) hx hb dL_law_33 (by decide) (by decide) (by decide) (by decide) (lw_rule_at C hX hbl hL hk6 hR hH hl hc hgo)
        · exact lv_tableIn (off := 1082) (tgt := 1115) hx hb dL_law_33 (by decide) (by decide) (by decide) (by decide) (lw_search_at C hX hbl hL hk6 hR hH hl hc hgo)
        · exact lv_tableIn (off := 1125) (tgt := 1158) hx hb dL_law_33 (by decide) (by decide) (by decide) (by decide) (lw_image_at C hX hbl hL hk6 hR hH hl hc hgo)
        · exact lv_tableIn (off := 1148) (tgt := 1181) hx hb dL_law_33 (by decide) (by decide) (by decide) (by decide) (lw_restore_at C hX hbl hL hk6 hR hH hl hc hgo)
        · exact lv_tableIn (off := 1171) (tgt := 1204) hx hb dL_law_33 (by decide) (by decide) (by decide) (by decide) (lw_kind_at C hX hbl hL hk6 hR hH hl hc hgo)
        · exact lv_tableIn (off := 1194) (tgt := 1227) hx hb dL_law_33 (by decide) (by decide) (by decide) (by decide) (lw_as_at C hX hbl hL hk6 hR hH hl hc hgo)
        · exact lv_tableIn (off := 1227) (tgt := 1260) hx hb dL_law_33 (by decide) (by decide) (by decide) (by decide) (lw_ask_at C hX hbl hL hk6 hR hH hl hc hgo)
        · exact lv_tableIn (off := 1260) (tgt := 1293) hx hb dL_law_33 (by decide) (by decide) (by decide) (by decide) (lw_trace_at C hX hbl hL hk6 hR hH hl hc hgo)
        · exact lv_tableIn (off := 1283) (tgt := 1316) hx hb dL_law_33 (by decide) (by decide) (by decide) (by decide) (lw_count_at C hX hbl hL hk6 hR hH hl hc hgo)
        · exact lv_tableIn (off := 1306) (tgt := 1339) hx hb dL_law_33 (by decide) (by decide) (by decide) (by decide) (lw_status_at C hX hbl hL hk6 hR hH hl hc hgo)
      · refine lv_tableOut (tgt := 1352) hx hb dL_law_33 (lw_out (fun j hj q => hsw ⟨j, hj, q⟩)) (by decide) ?_
        exact W.widen (by omega) (by omega) (hgo f sz H locs hR hH)
