/-! ===== contracts that say of the answer and of the heap behind what a predicate says ===== -/
def fx_QP (G : GG) (base : Nat) (Po : Option Value → Hp → Nat → Prop) : Array Value → State → Outcome → State → Prop := fun _ st oc t => ∃ (v : Option Value) (f : Hp) (sz : Nat), oc = .returned v ∧ Po v f sz ∧ fx_W G base f t.heap ∧ t.heap.size = sz ∧ va_F (fun q => base ≤ q) st t
def fx_MP (G : GG) (base : Nat) (l : Launch) (y : MethodName) (cc : ByteArray) (nL : Nat) (ret : Option FieldType) (rm : Room) (av : List Value) (f : Hp) (sz : Nat) (Po : Option Value → Hp → Nat → Prop) : Prop :=
  Met l y [Cond.code y cc nL ret] rm (fx_P G base av f sz) (fx_QP G base Po) rm.cells rm.slots (fun q => base ≤ q)
theorem fx_ofP {G : GG} {base : Nat} {l : Launch} {y : MethodName} {cc : ByteArray} {nL : Nat} {ret : Option FieldType} {rm : Room} {av : List Value} {f : Hp} {sz : Nat} {Po : Option Value → Hp → Nat → Prop} (hy : plainName y.cls = true) (hlen : (lg_sl av).length ≤ nL)
    (body : ∀ (p : Program) (e : Env) (s : State) (m : MethodId) (args : Array Value) (below : List Frame) (meth : Method) (c : Code), fx_C G p s m c cc nL y.cls → meth.sig.returnType = ret → meth.locks = false → meth.name = y.name → fx_H G base s f sz s.heap [] → ∀ ls : Array Slot, lv_has ls nL (lv_args 0 av) →
      W p l e rm s m args below meth c s.heap [] 0 0 (MQ below (fx_QP G base Po) args s rm.cells rm.slots (fun q => base ≤ q)) (F0 m 0 ls [])) : fx_MP G base l y cc nL ret rm av f sz Po := by
  refine Met.ofW (cc := cc) (maxL := nL) (ret := ret) hy rfl ?_
  intro p e s m args below meth c s₁ B hml hv
  obtain ⟨ha, hE, hW, hz, hbz⟩ := hv
  subst ha
  rw [lg_entry_eq]
  exact body p e s m av.toArray below meth c ⟨B.exec, B.bytes, hml, findClass_of_methodNamed B.named, hE⟩ B.returns B.notSynchronized (name_of_methodNamed B.named B.method).1 ⟨hW, hz, hbz, va_S.rf⟩ _ (lv_entry av hlen)
/-- an exact contract as one with a predicate -/
theorem fx_M.toP {G : GG} {base : Nat} {l : Launch} {y : MethodName} {cc : ByteArray} {nL : Nat} {ret : Option FieldType} {rm : Room} {av : List Value} {f f' : Hp} {sz sz' : Nat} {v : Option Value} (h : fx_M G base l y cc nL ret rm av f sz v f' sz') {Po : Option Value → Hp → Nat → Prop} (hp : Po v f' sz') : fx_MP G base l y cc nL ret rm av f sz Po := by
  intro p e ha hc hk s m args below hf happ hP hK
  obtain ⟨k, o, h1, h2, h3, ⟨g1, g2, g3, g4⟩, h5⟩ := h p e ha hc hk s m args below hf happ hP hK
  exact ⟨k, o, h1, h2, h3, ⟨v, f', sz', g1, hp, g2, g3, g4⟩, h5⟩
section FP
variable {p : Program} {l : Launch} {e : Env} {R : Room} {s : State} {m : MethodId} {args : Array Value} {below : List Frame} {meth : Method} {c : Code} {H : Heap} {locs : List Loc} {cells slots : Nat} {Q : State → Prop}
variable {cc : ByteArray} {nL pc : Nat} {own : String} {ls : Array Slot} {rest : List Value} {G : GG} {base sz : Nat} {f : Hp} {Po : Option Value → Hp → Nat → Prop}
theorem fx_hqP (hH : fx_H G base s f sz H locs) {v : Option Value} (hp : Po v f sz) : ∀ t : State, t.heap = H → s.WarmedH t.vm → fx_QP G base Po args s (.returned v) t := by
  intro t ht _
  exact ⟨v, f, sz, rfl, hp, by rw [ht]; exact hH.1, by rw [ht]; exact hH.2.1, hH.2.2.2.F ht⟩
theorem fx_iretP (C : fx_C G p s m c cc nL own) (hr : meth.sig.returnType = some .int) (hk : meth.locks = false) (hH : fx_H G base s f sz H locs) {x : Int32} {mc ms : Nat} (hp : Po (some (.int x)) f sz) (h1 : cells ≤ mc) (h2 : slots ≤ ms) (hdg : decode cc pc = .ok (.ireturn, 1)) : W p l e R s m args below meth c H locs cells slots (MQ below (fx_QP G base Po) args s mc ms (fun q => base ≤ q)) (F0 m pc ls [.int x]) :=
  W.widen h1 h2 (W.iret C.1 C.2.1 hr (fx_hqP hH hp) hH.2.2.2.2.2 hdg hk)
theorem fx_lretP (C : fx_C G p s m c cc nL own) (hr : meth.sig.returnType = some .long) (hk : meth.locks = false) (hH : fx_H G base s f sz H locs) {x : Int64} {mc ms : Nat} (hp : Po (some (.long x)) f sz) (h1 : cells ≤ mc) (h2 : slots ≤ ms) (hdg : decode cc pc = .ok (.lreturn, 1)) : W p l e R s m args below meth c H locs cells slots (MQ below (fx_QP G base Po) args s mc ms (fun q => base ≤ q)) (F0 m pc ls [.long x]) :=
  W.widen h1 h2 (W.lret C.1 C.2.1 hr (fx_hqP hH hp) hH.2.2.2.2.2 hdg hk)
theorem fx_vretP (C : fx_C G p s m c cc nL own) (hr : meth.sig.returnType = none) (hk : meth.locks = false) (hH : fx_H G base s f sz H locs) {mc ms : Nat} (hp : Po none f sz) (h1 : cells ≤ mc) (h2 : slots ≤ ms) (hdg : decode cc pc = .ok (.return_, 1)) : W p l e R s m args below meth c H locs cells slots (MQ below (fx_QP G base Po) args s mc ms (fun q => base ≤ q)) (F0 m pc ls []) :=
  W.widen h1 h2 (W.vret C.1 C.2.1 hr (fx_hqP hH hp) hH.2.2.2.2.2 hdg hk)
theorem fx_zretP (C : fx_C G p s m c cc nL own) (hr : meth.sig.returnType = some .boolean) (hk : meth.locks = false) (hH : fx_H G base s f sz H locs) {x : Int32} {mc ms : Nat} (hn : narrow .boolean (.int x) = .int x) (hp : Po (some (.int x)) f sz) (h1 : cells ≤ mc) (h2 : slots ≤ ms) (hdg : decode cc pc = .ok (.ireturn, 1)) : W p l e R s m args below meth c H locs cells slots (MQ below (fx_QP G base Po) args s mc ms (fun q => base ≤ q)) (F0 m pc ls [.int x]) :=
  W.widen h1 h2 (W.zret C.1 C.2.1 hr hn (fx_hqP hH hp) hH.2.2.2.2.2 hdg hk)
theorem fx_aretP (C : fx_C G p s m c cc nL own) {D : String} (hr : meth.sig.returnType = some (.object D)) (hk : meth.locks = false) (hH : fx_H G base s f sz H locs) {x : Option Nat} {v : Value} {mc ms : Nat} (hv : v = va_rf x) (hp : Po (some v) f sz) (h1 : cells ≤ mc) (h2 : slots ≤ ms) (hdg : decode cc pc = .ok (.areturn, 1)) : W p l e R s m args below meth c H locs cells slots (MQ below (fx_QP G base Po) args s mc ms (fun q => base ≤ q)) (F0 m pc ls [v]) :=
  W.widen h1 h2 (W.aret C.1 C.2.1 hr (Or.inl ⟨_, rfl⟩) (by rw [hv]; exact va_rf_or x) (fx_hqP hH hp) hH.2.2.2.2.2 hdg hk)
variable {y : MethodName} {bytes : ByteArray} {maxL index n ci : Nat} {ret : Option FieldType} {rm : Room} {b : Nat} {As : List Value}
abbrev fx_RunP (p : Program) (l : Launch) (e : Env) (R : Room) (s : State) (m : MethodId) (args : Array Value) (below : List Frame) (meth : Method) (c : Code) (H : Heap) (locs : List Loc) (cells slots : Nat) (rm : Room) (g : JFrame) (rest : List Value) (G : GG) (base : Nat) (Po : Option Value → Hp → Nat → Prop) (a : Array Value) : Prop :=
  va_Run p l e R s m args below meth c H locs cells slots rm.cells rm.slots g rest (fx_QP G base Po a) (fun q => base ≤ q)
theorem fx_runVP (C : fx_C G p s m c cc nL own) (hH : fx_H G base s f sz H locs) (hls : ls.size = nL) (hM : fx_MP G base l y bytes maxL ret rm (.ref b :: As) f sz Po) (hY : fx_Y y bytes maxL ret n) (hl : Cond.methodLink own index y ∈ lw_tbl) (him : Cond.instanceMethod y ∈ lw_tbl) {q : vw_C} (hse : Cond.selects q.1 y y ∈ lw_tbl) {fs : List Value} (hf : f b = some (.inr (ci, fs))) (hc : vwCl[ci]? = some q) (hn : As.length = n) (hR : fx_R R rm maxL)
    {st : List Value} (hst : st = As.reverse ++ .ref b :: rest) (hw : (rest.map fun v => v.category).sum ≤ 8) (hcs : cells + rm.cells ≤ R.cells ∧ slots + rm.slots ≤ R.slots) (hdg : decode cc pc = .ok (.invokevirtual index, 3)) : fx_RunP p l e R s m args below meth c H locs cells slots rm (F0 m pc ls st) rest G base Po (Value.ref b :: As).toArray :=
  va_runV (Ts := []) ⟨C.1, C.2.1, C.2.2.1, C.2.2.2.1, fun _ h => absurd h List.not_mem_nil⟩ hM ⟨fx_B C hY hl hR, C.2.2.2.2.1 _ him rfl args, C.2.2.2.2.1 _ hse rfl args⟩ ⟨fx_blind, fx_recv C hH hf hc, fx_pre C hH _⟩ rfl hn hls hst (lv_room (m := m) (pc := pc) (ls := ls) (rest := st) hw) hdg hcs
theorem fx_runIP (C : fx_C G p s m c cc nL own) (hH : fx_H G base s f sz H locs) (hls : ls.size = nL) (hM : fx_MP G base l y bytes maxL none rm (.ref b :: As) f sz Po) (hY : fx_Y y bytes maxL none n) (hl : Cond.methodLink own index y ∈ lw_tbl) (him : Cond.instanceMethod y ∈ lw_tbl) (hy1 : y.name = "<init>") (hn : As.length = n) (hR : fx_R R rm maxL)
    {st : List Value} (hst : st = As.reverse ++ .ref b :: rest) (hw : (rest.map fun v => v.category).sum ≤ 8) (hcs : cells + rm.cells ≤ R.cells ∧ slots + rm.slots ≤ R.slots) (hdg : decode cc pc = .ok (.invokespecial index, 3)) : fx_RunP p l e R s m args below meth c H locs cells slots rm (F0 m pc ls st) rest G base Po (Value.ref b :: As).toArray :=
  va_runI (Ts := []) ⟨C.1, C.2.1, C.2.2.1, C.2.2.2.1, fun _ h => absurd h List.not_mem_nil⟩ hM ⟨fx_B C hY hl hR, hy1, C.2.2.2.2.1 _ him rfl args⟩ ⟨fx_blind, fx_pre C hH _⟩ rfl hn hls hst (lv_room (m := m) (pc := pc) (ls := ls) (rest := st) hw) hdg hcs
theorem fx_runSP (C : fx_C G p s m c cc nL own) (hH : fx_H G base s f sz H locs) (hls : ls.size = nL) (hM : fx_MP G base l y bytes maxL ret rm As f sz Po) (hY : fx_Y y bytes maxL ret n) (hl : Cond.methodLink own index y ∈ lw_tbl) (hst0 : Cond.static y ∈ lw_tbl) (hn : As.length = n) (hR : fx_R R rm maxL)
    {st : List Value} (hst : st = As.reverse ++ rest) (hw : (rest.map fun v => v.category).sum ≤ 8) (hcs : cells + rm.cells ≤ R.cells ∧ slots + rm.slots ≤ R.slots) (hdg : decode cc pc = .ok (.invokestatic index, 3)) : fx_RunP p l e R s m args below meth c H locs cells slots rm (F0 m pc ls st) rest G base Po As.toArray :=
  va_runS (Ts := []) ⟨C.1, C.2.1, C.2.2.1, C.2.2.2.1, fun _ h => absurd h List.not_mem_nil⟩ hM ⟨fx_B C hY hl hR, C.2.2.2.2.1 _ hst0 rfl args⟩ ⟨fx_blind, fx_pre C hH _⟩ rfl hn hls hst (lv_room (m := m) (pc := pc) (ls := ls) (rest := st) hw) hdg hcs
theorem fx_afterP (hH : fx_H G base s f sz H locs) {a : Array Value} {st : List Value} (hr : fx_RunP p l e R s m args below meth c H locs cells slots rm (F0 m pc ls st) rest G base Po a)
    (kk : ∀ (v : Option Value) (f' : Hp) (sz' : Nat) (H1 : Heap) (locs1 : List Loc), Po v f' sz' → fx_H G base s f' sz' H1 locs1 → W p l e R s m args below meth c H1 locs1 (cells + rm.cells) (slots + rm.slots) Q (F0 m (pc + 3) ls (v.toList ++ rest))) : W p l e R s m args below meth c H locs cells slots Q (F0 m pc ls st) := by
  intro T hT X
  obtain ⟨v2, st₀, t, T', L, h0, X', hL, e1, e2, ⟨v, f', sz', hv, hp, hW, hz, hF1, hF2⟩, st2⟩ := hr T hT X
  cases hv
  rw [h0] at hF1 hF2
  obtain ⟨g1, g2, g3, g4⟩ := hH
  obtain ⟨t2, a1, b1⟩ := kk v2 f' sz' T'.heap (locs ++ L) hp ⟨by rw [e1]; exact hW, by rw [e1]; exact hz, by rw [← hz]; exact Nat.le_trans g3 (by rw [← g2]; exact hF1),
    ⟨Nat.le_trans g4.1 (by rw [e1]; exact hF1), fun q h1 h2 => by rw [e1, hF2 q (Nat.lt_of_lt_of_le h1 g4.1) h2]; exact g4.2.1 q h1 h2, fun q hq => by
      rcases List.mem_append.mp hq with h | h
      · exact g4.2.2 q h
      · exact hL q h⟩⟩ T' rfl X'
  exact ⟨t2, st2 t2 a1, b1⟩
end FP
