section FY
variable {p : Program} {l : Launch} {e : Env} {R : Room} {s : State} {m : MethodId} {args : Array Value} {below : List Frame} {meth : Method} {c : Code} {H : Heap} {locs : List Loc} {cells slots : Nat} {Q : State → Prop}
variable {cc : ByteArray} {nL pc : Nat} {own : String} {ls : Array Slot} {rest : List Value} {G : GG} {base sz : Nat} {f : Hp}
theorem fx_recv (C : fx_C G p s m c cc nL own) (hH : fx_H G base s f sz H locs) {a ci : Nat} {fs : List Value} {q : vw_C} (hf : f a = some (.inr (ci, fs))) (hc : vwCl[ci]? = some q) : ∃ cell : Cell, H[a]? = some cell ∧ cell.vm.isStatics = false ∧ s.vm.findClass q.1 = some cell.cls :=
  va_recv (D := G.1) (cl := vwCl) (tys := fx_tys G) C.2.2.2.2.2.1 (fx_one hH hf) hc (q0 := 0) rfl
/-- a reference comes into a row of references: its class is the row's, or can be cast to it -/
theorem fx_aast (C : fx_C G p s m c cc nL own) (hH : fx_H G base s f sz H locs) {a n t v ci : Nat} {g : Nat → Option Nat} {D : String} (ht : (fx_tys G)[t]? = some (G.2 t, .object D)) {q : vw_C} {vs : List Value} (hf : f a = some (oR t n g)) (hv : f v = some (.inr (ci, vs))) (hc : vwCl[ci]? = some q) (hca : q.1 = D ∨ Cond.castable q.1 D ∈ lw_tbl) {i : Int32} (hin : vp_in i n) (hdg : decode cc pc = .ok (.aastore, 1))
    (kk : ∀ (H1 : Heap) (locs1 : List Loc), fx_H G base s (fx_up f a (oR t n (va_up g i.toNatClampNeg (some v)))) sz H1 locs1 → W p l e R s m args below meth c H1 locs1 cells slots Q (F0 m (pc + 1) ls rest)) : W p l e R s m args below meth c H locs cells slots Q (F0 m pc ls (.ref v :: .int i :: .ref a :: rest)) := by
  have hlt : i.toNatClampNeg < n := Nat.not_le.mp fun q => hin (Or.inr q)
  have h0 : ¬ i < 0 := fun q => hin (Or.inl q)
  have hK := C.2.2.2.2.2.1
  obtain ⟨cellV, g1, g2, g3⟩ := fx_recv C hH hv hc
  obtain ⟨kA, comp, k1, k2, k3, -⟩ := (hK.2 t _ ht).2
  obtain ⟨kc, hkc, -⟩ := Vm.findClass_spec k3
  obtain ⟨kv, hkv, -⟩ := Vm.findClass_spec g3
  have has : s.vm.assignable cellV.cls comp = true := by
    rcases hca with hca | hca
    · have hcls := (hK.1 ci q hc).2
      rw [hca] at g3 hcls
      have e1 : comp = cellV.cls := Option.some.inj (k3.symm.trans g3)
      have e2 : G.1.1 ci = cellV.cls := Option.some.inj (hcls.1.symm.trans g3)
      rw [e1, ← e2]
      exact va_assign hcls
    · obtain ⟨c0, t0, f1, f2, f3⟩ := Cond.castable_spec (C.2.2.2.2.1 _ hca rfl args)
      have e1 : comp = t0 := Option.some.inj (k3.symm.trans f2)
      have e2 : cellV.cls = c0 := Option.some.inj (g3.symm.trans f1)
      rw [e1, e2]
      exact f3
  refine W.aast C.1 C.2.1 ((fx_one hH hf) 0 _ rfl) (fun q h => by cases h) (fun h => by cases h) k1 k2 rfl hkc ⟨h0, by show _ < (arrV _ _ _).slots.size; rw [arrV_size]; exact hlt⟩ g1 (fun q h => by rw [h] at g2; cases g2) hkv has rfl rfl hdg fun H1 e1 z oq => ?_
  refine kk H1 _ (fx_set hH hf ?_ z oq)
  show H1[a]? = some (vp_cell _ _)
  rw [e1, show vp_cell (G.2 t) (n, .inr (.inr (.inr (.inr g)))) = arrV (G.2 t) n (fun j => va_rf (g j)) from rfl, arrV_store]
  rw [vp_cell_q]
  congr 2
  funext q
  by_cases hq : q = i.toNatClampNeg
  · subst hq
    simp [updV, va_up, va_rf]
  · simp [updV, va_up, hq]
theorem fx_new (C : fx_C G p s m c cc nL own) (hH : fx_H G base s f sz H locs) {index ci N : Nat} {Cn : String} {T : u_T} {ty : Nat → FieldType} (hc : vwCl[ci]? = some (Cn, T, N)) (hin : ∀ w ∈ u_ws Cn T N, w ∈ lw_tbl) (hg : ∀ w ∈ u_ws Cn T N, fx_good w = true) (hty : ∀ k, k < N → parseFieldDescriptor (T k).2.2.1 = some (ty k)) (hcl : Cond.classLink own index Cn ∈ lw_tbl) (hib : Cond.instantiable Cn N ∈ lw_tbl) (hni : Cond.initialized Cn ∈ lw_tbl)
    {fs : List Value} (hfs : ∀ j, j < N → defaultValue (ty j) = vp_V fs j) (hcells : cells + 1 ≤ R.cells) (hslots : slots + N ≤ R.slots) (hdg : decode cc pc = .ok (.new index, 3))
    (kk : ∀ (H1 : Heap), fx_H G base s (fx_up f sz (.inr (ci, fs))) (sz + 1) H1 locs → W p l e R s m args below meth c H1 locs (cells + 1) (slots + N) Q (F0 m (pc + 3) ls (.ref sz :: rest))) : W p l e R s m args below meth c H locs cells slots Q (F0 m pc ls rest) := by
  have hts : ∀ w ∈ u_ws Cn T N, w.before args s = true := fun w hw => C.2.2.2.2.1 w (hin w hw) (hg w hw) args
  have hKn := C.2.2.2.2.2.1.1 ci _ hc
  refine W.newcK C.1 C.2.1 C.2.2.2.1 (C.2.2.2.2.1 _ hcl rfl args) (C.2.2.2.2.1 _ hib rfl args) (C.2.2.2.2.1 _ hni rfl args) rfl hdg hcells hslots hKn.2.1 hH.2.1 fun H1 kC hkC e1 z1 o1 => ?_
  exact kk H1 (fx_push hH ⟨_, hc, (u_born ty hts (fun w h => h) hKn hkC e1 hty).to hfs⟩ z1 o1)
theorem fx_newa (C : fx_C G p s m c cc nL own) (hH : fx_H G base s f sz H locs) {atype : ArrayType} {t : Nat} {ty : FieldType} (hty : newarray.typeOf atype = ty) (ht : (fx_tys G)[t]? = some (G.2 t, ty)) (hre : ∀ D, ty ≠ .object D) (hac : Cond.arrayClass ty ∈ lw_tbl) {n : Int32} {N : Nat} {x : vp_A} (hx : ∀ cA : ClassId, vp_cell cA x = arrV cA N (fun _ => defaultValue ty)) (hn : ¬ n < 0) (hN : n.toNatClampNeg = N) (hbytes : N * componentBytes ty ≤ 536870912) (hcells : cells + 1 ≤ R.cells) (hslots : slots + N ≤ R.slots) (hdg : decode cc pc = .ok (.newarray atype, 2))
    (kk : ∀ (H1 : Heap), fx_H G base s (fx_up f sz (.inl (t, x))) (sz + 1) H1 locs → W p l e R s m args below meth c H1 locs (cells + 1) (slots + N) Q (F0 m (pc + 2) ls (.ref sz :: rest))) : W p l e R s m args below meth c H locs cells slots Q (F0 m pc ls (.int n :: rest)) := by
  subst hty
  refine va_newaK C.1 C.2.1 (C.2.2.2.2.1 _ hac rfl args) rfl hdg rfl hn hN hbytes hcells hslots hH.2.1 fun H1 cA e1 z1 o1 hAr hNm => ?_
  have hRA := (C.2.2.2.2.2.1.2 t _ ht).2
  have hcA : cA = G.2 t := by
    have h2 : s.vm.findClass ("[" ++ (newarray.typeOf atype).toString) = some (G.2 t) := by
      generalize newarray.typeOf atype = ty at hRA hre ⊢
      cases ty <;> first | exact hRA | exact absurd rfl (hre _)
    exact Option.some.inj (hNm.symm.trans h2)
  subst hcA
  refine kk H1 (fx_push hH ?_ z1 o1)
  show H1[sz]? = some (vp_cell _ _)
  rw [hx]
  exact e1
theorem fx_newq (C : fx_C G p s m c cc nL own) (hH : fx_H G base s f sz H locs) {index t : Nat} {D : String} (ht : (fx_tys G)[t]? = some (G.2 t, .object D)) (hcl : Cond.classLink own index D ∈ lw_tbl) (hao : Cond.arrayOver (.object D) ∈ lw_tbl) {n : Int32} {N : Nat} (hn : ¬ n < 0) (hN : n.toNatClampNeg = N) (hbytes : N * 4 ≤ 536870912) (hcells : cells + 1 ≤ R.cells) (hslots : slots + N ≤ R.slots) (hdg : decode cc pc = .ok (.anewarray index, 3))
    (kk : ∀ (H1 : Heap), fx_H G base s (fx_up f sz (oR t N (fun _ => none))) (sz + 1) H1 locs → W p l e R s m args below meth c H1 locs (cells + 1) (slots + N) Q (F0 m (pc + 3) ls (.ref sz :: rest))) : W p l e R s m args below meth c H locs cells slots Q (F0 m pc ls (.int n :: rest)) := by
  subst hN
  refine W.anew C.1 C.2.1 C.2.2.2.1 (C.2.2.2.2.1 _ hcl rfl args) (C.2.2.2.2.1 _ hao rfl args) rfl hdg rfl hn hbytes hcells hslots fun cA kA comp f1 f2 f3 f4 => ?_
  obtain ⟨kA', comp', k1, k2, k3, k4⟩ := (C.2.2.2.2.2.1.2 t _ ht).2
  have hcA : cA = G.2 t := Option.some.inj (f1.symm.trans k4)
  subst hcA
  have hz := hH.2.1
  generalize hH1 : H.push ({ cls := G.2 t, slots := Array.replicate n.toNatClampNeg .null, vm := .none } : Cell) = H1
  have z1 : H1.size = sz + 1 := by rw [← hH1, Array.size_push, hz]
  have e1 : H1[sz]? = some (arrV (G.2 t) n.toNatClampNeg (fun _ => .null)) := by rw [← hH1, ← hz, Array.getElem?_push_size, ← arrV_new]
  have o1 : ∀ q : Nat, q < sz → H1[q]? = H[q]? := fun q hq => by rw [← hH1, Array.getElem?_push, if_neg (Nat.ne_of_lt (by rw [hz]; exact hq))]
  rw [hz]
  refine kk H1 (fx_push hH ?_ z1 o1)
  show H1[sz]? = some (vp_cell _ _)
  rw [vp_cell_q]
  exact e1
/-- the ends -/
theorem fx_hq (C : fx_C G p s m c cc nL own) (hH : fx_H G base s f sz H locs) {v : Option Value} {f' : Hp} {sz' : Nat} (hf : f = f') (hz : sz = sz') : ∀ t : State, t.heap = H → s.WarmedH t.vm → fx_Q G base v f' sz' args s (.returned v) t := by
  subst hf; subst hz
  intro t ht _
  exact ⟨rfl, by rw [ht]; exact hH.1, by rw [ht]; exact hH.2.1, hH.2.2.2.F ht⟩
theorem fx_iret (C : fx_C G p s m c cc nL own) (hr : meth.sig.returnType = some .int) (hk : meth.locks = false) (hH : fx_H G base s f sz H locs) {x y : Int32} {f' : Hp} {sz' mc ms : Nat} (hx : x = y) (hf : f = f') (hz : sz = sz') (h1 : cells ≤ mc) (h2 : slots ≤ ms) (hdg : decode cc pc = .ok (.ireturn, 1)) : W p l e R s m args below meth c H locs cells slots (MQ below (fx_Q G base (some (.int y)) f' sz') args s mc ms (fun q => base ≤ q)) (F0 m pc ls [.int x]) := by
  subst hx
  exact W.widen h1 h2 (W.iret C.1 C.2.1 hr (fx_hq C hH hf hz) hH.2.2.2.2.2 hdg hk)
theorem fx_zret (C : fx_C G p s m c cc nL own) (hr : meth.sig.returnType = some .boolean) (hk : meth.locks = false) (hH : fx_H G base s f sz H locs) {x y : Int32} {f' : Hp} {sz' mc ms : Nat} (hn : narrow .boolean (.int x) = .int x) (hx : x = y) (hf : f = f') (hz : sz = sz') (h1 : cells ≤ mc) (h2 : slots ≤ ms) (hdg : decode cc pc = .ok (.ireturn, 1)) : W p l e R s m args below meth c H locs cells slots (MQ below (fx_Q G base (some (.int y)) f' sz') args s mc ms (fun q => base ≤ q)) (F0 m pc ls [.int x]) := by
  subst hx
  exact W.widen h1 h2 (W.zret C.1 C.2.1 hr hn (fx_hq C hH hf hz) hH.2.2.2.2.2 hdg hk)
theorem fx_lret (C : fx_C G p s m c cc nL own) (hr : meth.sig.returnType = some .long) (hk : meth.locks = false) (hH : fx_H G base s f sz H locs) {x y : Int64} {f' : Hp} {sz' mc ms : Nat} (hx : x = y) (hf : f = f') (hz : sz = sz') (h1 : cells ≤ mc) (h2 : slots ≤ ms) (hdg : decode cc pc = .ok (.lreturn, 1)) : W p l e R s m args below meth c H locs cells slots (MQ below (fx_Q G base (some (.long y)) f' sz') args s mc ms (fun q => base ≤ q)) (F0 m pc ls [.long x]) := by
  subst hx
  exact W.widen h1 h2 (W.lret C.1 C.2.1 hr (fx_hq C hH hf hz) hH.2.2.2.2.2 hdg hk)
theorem fx_vret (C : fx_C G p s m c cc nL own) (hr : meth.sig.returnType = none) (hk : meth.locks = false) (hH : fx_H G base s f sz H locs) {f' : Hp} {sz' mc ms : Nat} (hf : f = f') (hz : sz = sz') (h1 : cells ≤ mc) (h2 : slots ≤ ms) (hdg : decode cc pc = .ok (.return_, 1)) : W p l e R s m args below meth c H locs cells slots (MQ below (fx_Q G base none f' sz') args s mc ms (fun q => base ≤ q)) (F0 m pc ls []) :=
  W.widen h1 h2 (W.vret C.1 C.2.1 hr (fx_hq C hH hf hz) hH.2.2.2.2.2 hdg hk)
theorem fx_aret (C : fx_C G p s m c cc nL own) {D : String} (hr : meth.sig.returnType = some (.object D)) (hk : meth.locks = false) (hH : fx_H G base s f sz H locs) {x : Option Nat} {v w : Value} {f' : Hp} {sz' mc ms : Nat} (hv : v = va_rf x) (hx : v = w) (hf : f = f') (hz : sz = sz') (h1 : cells ≤ mc) (h2 : slots ≤ ms) (hdg : decode cc pc = .ok (.areturn, 1)) : W p l e R s m args below meth c H locs cells slots (MQ below (fx_Q G base (some w) f' sz') args s mc ms (fun q => base ≤ q)) (F0 m pc ls [v]) := by
  subst hx
  exact W.widen h1 h2 (W.aret C.1 C.2.1 hr (Or.inl ⟨_, rfl⟩) (by rw [hv]; exact va_rf_or x) (fx_hq C hH hf hz) hH.2.2.2.2.2 hdg hk)
/-- a method as the tables have it -/
def fx_Y (y : MethodName) (bytes : ByteArray) (maxL : Nat) (ret : Option FieldType) (n : Nat) : Prop := Cond.code y bytes maxL ret ∈ lw_tbl ∧ Cond.initialized y.cls ∈ lw_tbl ∧ (y.cls ≠ "java/lang/invoke/MethodHandle" ∧ y.cls ≠ "java/lang/invoke/VarHandle") ∧ (parseMethodDescriptor y.desc).map (fun d => d.parameters.length) = some n
theorem fx_blind {av : List Value} : FrameBlind (fx_P G base av f sz) := fun _ _ _ _ h => ⟨h.1, h.2.1.calling, h.2.2.1, h.2.2.2⟩
theorem fx_pre (C : fx_C G p s m c cc nL own) (hH : fx_H G base s f sz H locs) (av : List Value) : ∀ U : State, U.heap = H → s.WarmedH U.vm → fx_P G base av f sz av.toArray U := fun U hU hW => ⟨rfl, C.2.2.2.2.warm hW, by rw [hU]; exact hH.1, by rw [hU]; exact hH.2.1, hH.2.2.1⟩
variable {y : MethodName} {bytes : ByteArray} {maxL index n ci : Nat} {ret : Option FieldType} {rm : Room} {v : Option Value} {f' : Hp} {sz' b : Nat} {As : List Value}
theorem fx_len (hY : fx_Y y bytes maxL ret n) : ∀ sig, parseMethodDescriptor y.desc = some sig → n = sig.parameters.length := fun sig h => by
  have h2 := hY.2.2.2
  rw [h] at h2
  exact (Option.some.inj h2).symm
theorem fx_wsok (C : fx_C G p s m c cc nL own) (hY : fx_Y y bytes maxL ret n) : ∀ w ∈ [Cond.code y bytes maxL ret], ∀ (a' : Array Value) (U : State), s.WarmedH U.vm → w.before a' U = true := fun w hw a' U hW => by
  rw [List.mem_singleton.mp hw]
  exact (C.2.2.2.2.warm hW).1 _ hY.1 rfl a'
abbrev fx_R (R rm : Room) (maxL : Nat) : Prop := rm.frames + 1 ≤ R.frames ∧ 8 + (maxL + 11) + rm.locals ≤ R.locals
theorem fx_B (C : fx_C G p s m c cc nL own) (hY : fx_Y y bytes maxL ret n) (hl : Cond.methodLink own index y ∈ lw_tbl) (hR : fx_R R rm maxL) : CallB R s args own index y bytes maxL ret [Cond.code y bytes maxL ret] rm rm.cells rm.slots n :=
  ⟨rfl, rfl, hR.1, hR.2, fx_wsok C hY, List.mem_cons_self, C.2.2.2.2.1 _ hY.1 rfl args, C.2.2.2.2.1 _ hY.2.1 rfl args, hY.2.2.1, fx_len hY, C.2.2.2.2.1 _ hl rfl args⟩
theorem fx_N (C : fx_C G p s m c cc nL own) {host : String} (hY : fx_Y y bytes maxL ret n) (hl : Cond.methodLinkNest own index y host ∈ lw_tbl) (hR : fx_R R rm maxL) : va_CN R s args own index y host bytes maxL ret [Cond.code y bytes maxL ret] rm rm.cells rm.slots n :=
  ⟨⟨rfl, rfl, hR.1, hR.2, fx_wsok C hY, List.mem_cons_self⟩, C.2.2.2.2.1 _ hY.1 rfl args, C.2.2.2.2.1 _ hY.2.1 rfl args, hY.2.2.1, fx_len hY, C.2.2.2.2.1 _ hl rfl args⟩
abbrev fx_Run (p : Program) (l : Launch) (e : Env) (R : Room) (s : State) (m : MethodId) (args : Array Value) (below : List Frame) (meth : Method) (c : Code) (H : Heap) (locs : List Loc) (cells slots : Nat) (rm : Room) (g : JFrame) (rest : List Value) (G : GG) (base : Nat) (v : Option Value) (f : Hp) (sz : Nat) (a : Array Value) : Prop :=
  va_Run p l e R s m args below meth c H locs cells slots rm.cells rm.slots g rest (fx_Q G base v f sz a) (fun q => base ≤ q)
theorem fx_runV (C : fx_C G p s m c cc nL own) (hH : fx_H G base s f sz H locs) (hls : ls.size = nL) (hM : fx_M G base l y bytes maxL ret rm (.ref b :: As) f sz v f' sz') (hY : fx_Y y bytes maxL ret n) (hl : Cond.methodLink own index y ∈ lw_tbl) (him : Cond.instanceMethod y ∈ lw_tbl) {q : vw_C} (hse : Cond.selects q.1 y y ∈ lw_tbl) {fs : List Value} (hf : f b = some (.inr (ci, fs))) (hc : vwCl[ci]? = some q) (hn : As.length = n) (hR : fx_R R rm maxL)
    {st : List Value} (hst : st = As.reverse ++ .ref b :: rest) (hw : (rest.map fun v => v.category).sum ≤ 8) (hcs : cells + rm.cells ≤ R.cells ∧ slots + rm.slots ≤ R.slots) (hdg : decode cc pc = .ok (.invokevirtual index, 3)) : fx_Run p l e R s m args below meth c H locs cells slots rm (F0 m pc ls st) rest G base v f' sz' (Value.ref b :: As).toArray :=
  va_runV (Ts := []) ⟨C.1, C.2.1, C.2.2.1, C.2.2.2.1, fun _ h => absurd h List.not_mem_nil⟩ hM ⟨fx_B C hY hl hR, C.2.2.2.2.1 _ him rfl args, C.2.2.2.2.1 _ hse rfl args⟩ ⟨fx_blind, fx_recv C hH hf hc, fx_pre C hH _⟩ rfl hn hls hst (lv_room (m := m) (pc := pc) (ls := ls) (rest := st) hw) hdg hcs
theorem fx_runS (C : fx_C G p s m c cc nL own) (hH : fx_H G base s f sz H locs) (hls : ls.size = nL) (hM : fx_M G base l y bytes maxL ret rm As f sz v f' sz') (hY : fx_Y y bytes maxL ret n) (hl : Cond.methodLink own index y ∈ lw_tbl) (hst0 : Cond.static y ∈ lw_tbl) (hn : As.length = n) (hR : fx_R R rm maxL)
    {st : List Value} (hst : st = As.reverse ++ rest) (hw : (rest.map fun v => v.category).sum ≤ 8) (hcs : cells + rm.cells ≤ R.cells ∧ slots + rm.slots ≤ R.slots) (hdg : decode cc pc = .ok (.invokestatic index, 3)) : fx_Run p l e R s m args below meth c H locs cells slots rm (F0 m pc ls st) rest G base v f' sz' As.toArray :=
  va_runS (Ts := []) ⟨C.1, C.2.1, C.2.2.1, C.2.2.2.1, fun _ h => absurd h List.not_mem_nil⟩ hM ⟨fx_B C hY hl hR, C.2.2.2.2.1 _ hst0 rfl args⟩ ⟨fx_blind, fx_pre C hH _⟩ rfl hn hls hst (lv_room (m := m) (pc := pc) (ls := ls) (rest := st) hw) hdg hcs
theorem fx_runSN (C : fx_C G p s m c cc nL own) (hH : fx_H G base s f sz H locs) (hls : ls.size = nL) (hM : fx_M G base l y bytes maxL ret rm As f sz v f' sz') (hY : fx_Y y bytes maxL ret n) {host : String} (hl : Cond.methodLinkNest own index y host ∈ lw_tbl) (hst0 : Cond.static y ∈ lw_tbl) (hn : As.length = n) (hR : fx_R R rm maxL)
    {st : List Value} (hst : st = As.reverse ++ rest) (hw : (rest.map fun v => v.category).sum ≤ 8) (hcs : cells + rm.cells ≤ R.cells ∧ slots + rm.slots ≤ R.slots) (hdg : decode cc pc = .ok (.invokestatic index, 3)) : fx_Run p l e R s m args below meth c H locs cells slots rm (F0 m pc ls st) rest G base v f' sz' As.toArray :=
  va_runSN (Ts := []) ⟨C.1, C.2.1, C.2.2.1, C.2.2.2.1, fun _ h => absurd h List.not_mem_nil⟩ hM ⟨fx_N C hY hl hR, C.2.2.2.2.1 _ hst0 rfl args, trivial⟩ ⟨fx_blind, fx_pre C hH _⟩ rfl hn hls hst (lv_room (m := m) (pc := pc) (ls := ls) (rest := st) hw) hdg hcs
theorem fx_runI (C : fx_C G p s m c cc nL own) (hH : fx_H G base s f sz H locs) (hls : ls.size = nL) (hM : fx_M G base l y bytes maxL none rm (.ref b :: As) f sz v f' sz') (hY : fx_Y y bytes maxL none n) (hl : Cond.methodLink own index y ∈ lw_tbl) (him : Cond.instanceMethod y ∈ lw_tbl) (hy1 : y.name = "<init>") (hn : As.length = n) (hR : fx_R R rm maxL)
    {st : List Value} (hst : st = As.reverse ++ .ref b :: rest) (hw : (rest.map fun v => v.category).sum ≤ 8) (hcs : cells + rm.cells ≤ R.cells ∧ slots + rm.slots ≤ R.slots) (hdg : decode cc pc = .ok (.invokespecial index, 3)) : fx_Run p l e R s m args below meth c H locs cells slots rm (F0 m pc ls st) rest G base v f' sz' (Value.ref b :: As).toArray :=
  va_runI (Ts := []) ⟨C.1, C.2.1, C.2.2.1, C.2.2.2.1, fun _ h => absurd h List.not_mem_nil⟩ hM ⟨fx_B C hY hl hR, hy1, C.2.2.2.2.1 _ him rfl args⟩ ⟨fx_blind, fx_pre C hH _⟩ rfl hn hls hst (lv_room (m := m) (pc := pc) (ls := ls) (rest := st) hw) hdg hcs
theorem fx_runIN (C : fx_C G p s m c cc nL own) (hH : fx_H G base s f sz H locs) (hls : ls.size = nL) (hM : fx_M G base l y bytes maxL none rm (.ref b :: As) f sz v f' sz') (hY : fx_Y y bytes maxL none n) {host : String} (hl : Cond.methodLinkNest own index y host ∈ lw_tbl) (him : Cond.instanceMethod y ∈ lw_tbl) (hy1 : y.name = "<init>") (hn : As.length = n) (hR : fx_R R rm maxL)
    {st : List Value} (hst : st = As.reverse ++ .ref b :: rest) (hw : (rest.map fun v => v.category).sum ≤ 8) (hcs : cells + rm.cells ≤ R.cells ∧ slots + rm.slots ≤ R.slots) (hdg : decode cc pc = .ok (.invokespecial index, 3)) : fx_Run p l e R s m args below meth c H locs cells slots rm (F0 m pc ls st) rest G base v f' sz' (Value.ref b :: As).toArray :=
  va_runIN (Ts := []) ⟨C.1, C.2.1, C.2.2.1, C.2.2.2.1, fun _ h => absurd h List.not_mem_nil⟩ hM ⟨fx_N C hY hl hR, hy1, C.2.2.2.2.1 _ him rfl args⟩ ⟨fx_blind, fx_pre C hH _⟩ rfl hn hls hst (lv_room (m := m) (pc := pc) (ls := ls) (rest := st) hw) hdg hcs
theorem fx_runSU (C : fx_C G p s m c cc nL own) (hH : fx_H G base s f sz H locs) (hls : ls.size = nL) (hM : fx_M G base l y bytes maxL ret rm (.ref b :: As) f sz v f' sz') (hY : fx_Y y bytes maxL ret n) (hl : Cond.methodLink own index y ∈ lw_tbl) (hsm : Cond.sameMethod y.cls y.cls y.name y.desc ∈ lw_tbl) (hsu : Cond.superclass own y.cls ∈ lw_tbl) (him : Cond.instanceMethod y ∈ lw_tbl) (hno : y.name ≠ "<init>") {q : vw_C} {fs : List Value} (hf : f b = some (.inr (ci, fs))) (hc : vwCl[ci]? = some q) (hn : As.length = n) (hR : fx_R R rm maxL)
    {st : List Value} (hst : st = As.reverse ++ .ref b :: rest) (hw : (rest.map fun v => v.category).sum ≤ 8) (hcs : cells + rm.cells ≤ R.cells ∧ slots + rm.slots ≤ R.slots) (hdg : decode cc pc = .ok (.invokespecial index, 3)) : fx_Run p l e R s m args below meth c H locs cells slots rm (F0 m pc ls st) rest G base v f' sz' (Value.ref b :: As).toArray :=
  va_runSU (Ts := []) ((C.2.2.2.2.2.1.1 ci q hc).2) ⟨C.1, C.2.1, C.2.2.1, C.2.2.2.1, fun _ h => absurd h List.not_mem_nil⟩ hM ⟨⟨rfl, rfl, hR.1, hR.2, fx_wsok C hY, List.mem_cons_self⟩, C.2.2.2.2.1 _ hl rfl args, C.2.2.2.2.1 _ hsm rfl args, C.2.2.2.2.1 _ hsu rfl args, C.2.2.2.2.1 _ him rfl args, C.2.2.2.2.1 _ hY.2.1 rfl args, C.2.2.2.2.1 _ hY.1 rfl args, hno, fx_len hY⟩ ⟨fx_blind, fx_recv C hH hf hc, fx_pre C hH _⟩ rfl hn hls hst (lv_room (m := m) (pc := pc) (ls := ls) (rest := st) hw) hdg hcs
/-- a virtual call by a name that another class declares: x is named, y is taken -/
theorem fx_runU (C : fx_C G p s m c cc nL own) (hH : fx_H G base s f sz H locs) (hls : ls.size = nL) {x : MethodName} {owner : String} (hM : fx_M G base l y bytes maxL ret rm (.ref b :: As) f sz v f' sz') (hY : fx_Y y bytes maxL ret n) (hl : Cond.methodLink own index x ∈ lw_tbl) (hsm : Cond.sameMethod x.cls owner x.name x.desc ∈ lw_tbl) (hdc : Cond.declares ⟨owner, x.name, x.desc⟩ ∈ lw_tbl ∨ (Cond.instanceMethod ⟨owner, x.name, x.desc⟩ ∈ lw_tbl ∧ ∃ b0 m0 r0, Cond.code ⟨owner, x.name, x.desc⟩ b0 m0 r0 ∈ lw_tbl)) (how : owner ≠ "java/lang/invoke/MethodHandle" ∧ owner ≠ "java/lang/invoke/VarHandle") (hdx : y.desc = x.desc) {q : vw_C} (hse : Cond.selects q.1 x y ∈ lw_tbl) (him : Cond.instanceMethod y ∈ lw_tbl) {fs : List Value} (hf : f b = some (.inr (ci, fs))) (hc : vwCl[ci]? = some q) (hn : As.length = n) (hR : fx_R R rm maxL)
    {st : List Value} (hst : st = As.reverse ++ .ref b :: rest) (hw : (rest.map fun v => v.category).sum ≤ 8) (hcs : cells + rm.cells ≤ R.cells ∧ slots + rm.slots ≤ R.slots) (hdg : decode cc pc = .ok (.invokevirtual index, 3)) : fx_Run p l e R s m args below meth c H locs cells slots rm (F0 m pc ls st) rest G base v f' sz' (Value.ref b :: As).toArray := by
  have hdecl : va_Decl s ⟨owner, x.name, x.desc⟩ := by
    rcases hdc with h | ⟨h, b0, m0, r0, h0⟩
    · exact va_Decl.abs (C.2.2.2.2.1 _ h rfl #[])
    · exact va_Decl.of (C.2.2.2.2.1 _ h rfl #[]) (C.2.2.2.2.1 _ h0 rfl #[])
  exact va_runU (Ts := []) (owner := owner) ⟨C.1, C.2.1, C.2.2.1, C.2.2.2.1, fun _ h => absurd h List.not_mem_nil⟩ hM ⟨⟨rfl, rfl, hR.1, hR.2, fx_wsok C hY, List.mem_cons_self⟩, C.2.2.2.2.1 _ hY.1 rfl args, C.2.2.2.2.1 _ hY.2.1 rfl args, how, fun sig h => fx_len hY sig (by rw [hdx]; exact h), C.2.2.2.2.1 _ hl rfl args, C.2.2.2.2.1 _ hsm rfl args, hdecl, C.2.2.2.2.1 _ hse rfl args, C.2.2.2.2.1 _ him rfl args⟩ ⟨fx_blind, fx_recv C hH hf hc, fx_pre C hH _⟩ rfl hn hls hst (lv_room (m := m) (pc := pc) (ls := ls) (rest := st) hw) hdg hcs
/-- behind a call -/
theorem fx_after (hH : fx_H G base s f sz H locs) {a : Array Value} {st : List Value} (hr : fx_Run p l e R s m args below meth c H locs cells slots rm (F0 m pc ls st) rest G base v f' sz' a)
    (kk : ∀ (H1 : Heap) (locs1 : List Loc), fx_H G base s f' sz' H1 locs1 → W p l e R s m args below meth c H1 locs1 (cells + rm.cells) (slots + rm.slots) Q (F0 m (pc + 3) ls (v.toList ++ rest))) : W p l e R s m args below meth c H locs cells slots Q (F0 m pc ls st) := by
  intro T hT X
  obtain ⟨v2, st₀, t, T', L, h0, X', hL, e1, e2, ⟨hv, hW, hz, hF1, hF2⟩, st2⟩ := hr T hT X
  cases hv
  rw [h0] at hF1 hF2
  obtain ⟨g1, g2, g3, g4⟩ := hH
  obtain ⟨t2, a1, b1⟩ := kk T'.heap (locs ++ L) ⟨by rw [e1]; exact hW, by rw [e1]; exact hz, by rw [← hz]; exact Nat.le_trans g3 (by rw [← g2]; exact hF1),
    ⟨Nat.le_trans g4.1 (by rw [e1]; exact hF1), fun q h1 h2 => by rw [e1, hF2 q (Nat.lt_of_lt_of_le h1 g4.1) h2]; exact g4.2.1 q h1 h2, fun q hq => by
      rcases List.mem_append.mp hq with h | h
      · exact g4.2.2 q h
      · exact hL q h⟩⟩ T' rfl X'
  exact ⟨t2, st2 t2 a1, b1⟩
theorem fx_go1 {r : Value} (hH : fx_H G base s f sz H locs) {a : Array Value} {st : List Value} (hr : fx_Run p l e R s m args below meth c H locs cells slots rm (F0 m pc ls st) rest G base (some r) f' sz' a)
    (kk : ∀ (H1 : Heap) (locs1 : List Loc), fx_H G base s f' sz' H1 locs1 → W p l e R s m args below meth c H1 locs1 (cells + rm.cells) (slots + rm.slots) Q (F0 m (pc + 3) ls (r :: rest))) : W p l e R s m args below meth c H locs cells slots Q (F0 m pc ls st) := fx_after hH hr kk
theorem fx_go0 (hH : fx_H G base s f sz H locs) {a : Array Value} {st : List Value} (hr : fx_Run p l e R s m args below meth c H locs cells slots rm (F0 m pc ls st) rest G base none f' sz' a)
    (kk : ∀ (H1 : Heap) (locs1 : List Loc), fx_H G base s f' sz' H1 locs1 → W p l e R s m args below meth c H1 locs1 (cells + rm.cells) (slots + rm.slots) Q (F0 m (pc + 3) ls rest)) : W p l e R s m args below meth c H locs cells slots Q (F0 m pc ls st) := fx_after hH hr kk
end FY
