section FZ
variable {p : Program} {l : Launch} {e : Env} {R : Room} {s : State} {m : MethodId} {args : Array Value} {below : List Frame} {meth : Method} {c : Code} {H : Heap} {locs : List Loc} {cells slots : Nat} {Q : State → Prop}
variable {cc : ByteArray} {nL pc : Nat} {own : String} {ls : Array Slot} {rest : List Value} {G : GG} {base sz : Nat} {f : Hp}
theorem fx_obj (C : fx_C G p s m c cc nL own) (hls : ls.size = nL) {idx : Nat} (hl : Cond.methodLink own idx Lib.objectInit ∈ lw_tbl) (him : Cond.instanceMethod Lib.objectInit ∈ lw_tbl) (hcd : Cond.code Lib.objectInit ⟨#[0xb1]⟩ 1 none ∈ lw_tbl) {a : Nat} (hfr : 1 ≤ R.frames) (hlo : (rest.map fun v => v.category).sum + 12 ≤ R.locals) (hdg : decode cc pc = .ok (.invokespecial idx, 3))
    (kk : W p l e R s m args below meth c H locs cells slots Q (F0 m (pc + 3) ls rest)) : W p l e R s m args below meth c H locs cells slots Q (F0 m pc ls (.ref a :: rest)) := by
  refine W.objInit C.1 C.2.1 C.2.2.2.1 (C.2.2.2.2.1 _ hl rfl args) (C.2.2.2.2.1 _ him rfl args) (C.2.2.2.2.1 _ hcd rfl args) (g := F0 m pc ls (.ref a :: rest)) rfl (by rw [C.2.2.1]; exact hls) rfl hdg hfr (by show 2 * 0 + _ + 12 ≤ _; omega) kk
theorem fx_instY (C : fx_C G p s m c cc nL own) (hH : fx_H G base s f sz H locs) {a ci index : Nat} {fs : List Value} {q : vw_C} {nm : String} (hf : f a = some (.inr (ci, fs))) (hc : vwCl[ci]? = some q) (hl : Cond.classLink own index nm ∈ lw_tbl) (hca : Cond.castable q.1 nm ∈ lw_tbl) (hdg : decode cc pc = .ok (.instanceof index, 3))
    (kk : W p l e R s m args below meth c H locs cells slots Q (F0 m (pc + 3) ls (.int 1 :: rest))) : W p l e R s m args below meth c H locs cells slots Q (F0 m pc ls (.ref a :: rest)) :=
  va_instY C.1 C.2.1 C.2.2.2.1 (C.2.2.2.2.1 _ hl rfl args) (C.2.2.2.2.1 _ hca rfl #[]) (fx_recv C hH hf hc) hdg kk
theorem fx_instS (C : fx_C G p s m c cc nL own) (hH : fx_H G base s f sz H locs) {a ci index : Nat} {fs : List Value} {q : vw_C} (hf : f a = some (.inr (ci, fs))) (hc : vwCl[ci]? = some q) (hl : Cond.classLink own index q.1 ∈ lw_tbl) (hdg : decode cc pc = .ok (.instanceof index, 3))
    (kk : W p l e R s m args below meth c H locs cells slots Q (F0 m (pc + 3) ls (.int 1 :: rest))) : W p l e R s m args below meth c H locs cells slots Q (F0 m pc ls (.ref a :: rest)) :=
  va_instS C.1 C.2.1 C.2.2.2.1 (C.2.2.2.2.1 _ hl rfl args) ((C.2.2.2.2.2.1.1 ci q hc).2) (fx_recv C hH hf hc) hdg kk
theorem fx_instN (C : fx_C G p s m c cc nL own) (hH : fx_H G base s f sz H locs) {a ci index : Nat} {fs : List Value} {q : vw_C} {nm : String} (hf : f a = some (.inr (ci, fs))) (hc : vwCl[ci]? = some q) (hl : Cond.classLink own index nm ∈ lw_tbl) (hnc : (q.1, nm) ∈ fx_nc) (hdg : decode cc pc = .ok (.instanceof index, 3))
    (kk : W p l e R s m args below meth c H locs cells slots Q (F0 m (pc + 3) ls (.int 0 :: rest))) : W p l e R s m args below meth c H locs cells slots Q (F0 m pc ls (.ref a :: rest)) :=
  va_instNo C.1 C.2.1 C.2.2.2.1 (C.2.2.2.2.1 _ hl rfl args) (C.2.2.2.2.2.2 _ hnc) (fx_recv C hH hf hc) hdg kk
theorem fx_nn (z : Int32) (hz : ¬ z < 0) : z.toInt = (z.toNatClampNeg : Int) := by
  have hz0 : (0 : Int) ≤ z.toInt := by
    have := Int32.not_lt.mp hz
    simpa using Int32.le_iff_toInt_le.mp this
  show z.toInt = ((z.toInt.toNat : Nat) : Int)
  omega
theorem fx_setL (hH : fx_H G base s f sz H locs) {a : Nat} {x x0 : CE} (h : f a = some x0) {H1 : Heap} {L : List Loc} (he : va_at G.1 vwCl (a, fx_e G x) H1) (hz : H1.size = H.size) (oq : ∀ q : Nat, q ≠ a → H1[q]? = H[q]?) (hL : ∀ q ∈ L, q.base = a) : fx_H G base s (fx_up f a x) sz H1 (locs ++ L) := by
  obtain ⟨g1, g2, g3, g4⟩ := fx_set (k := 0) hH h he hz oq
  refine ⟨g1, g2, g3, g4.1, g4.2.1, fun q hq => ?_⟩
  rcases List.mem_append.mp hq with h1 | h1
  · exact hH.2.2.2.2.2 q h1
  · show base ≤ q.base
    rw [hL q h1]
    exact (hH.1 a x0 h).1
/-- System.arraycopy between two rows of ints (or within one), of longs -/
theorem fx_copyi (C : fx_C G p s m c cc nL own) (hH : fx_H G base s f sz H locs) (hls : ls.size = nL) {index : Nat} (hl : Cond.methodLink own index arraycopyName ∈ lw_tbl) (hnat : Cond.native arraycopyName ∈ lw_tbl) (hstat : Cond.static arraycopyName ∈ lw_tbl) (hini : Cond.initialized "java/lang/System" ∈ lw_tbl)
    {a0 a n0 n1 : Nat} {g0 g1 : Nat → Int32} (ha0 : f a0 = some (oI n0 g0)) (ha1 : f a = some (oI n1 g1)) {sp dp n : Int32} (h1 : ¬ sp < 0) (h2 : ¬ dp < 0) (h3 : ¬ n < 0) (h4 : sp.toNatClampNeg + n.toNatClampNeg ≤ n0) (h5 : dp.toNatClampNeg + n.toNatClampNeg ≤ n1)
    (hframes : 1 ≤ R.frames) (hlocals : (rest.map fun v => v.category).sum + (nativeFrameWords "java/lang/System" "arraycopy" 5 + 11) ≤ R.locals) (hdg : decode cc pc = .ok (.invokestatic index, 3))
    (kk : ∀ (H1 : Heap) (locs1 : List Loc), fx_H G base s (fx_up f a (oI n1 (va_cpy g0 g1 sp.toNatClampNeg dp.toNatClampNeg n.toNatClampNeg))) sz H1 locs1 → W p l e R s m args below meth c H1 locs1 cells slots Q (F0 m (pc + 3) ls rest)) : W p l e R s m args below meth c H locs cells slots Q (F0 m pc ls (.int n :: .int dp :: .ref a :: .int sp :: .ref a0 :: rest)) := by
  intro T hT X
  have hc0 : H[a0]? = some (vp_cell (G.2 0) (n0, .inl g0)) := (hH.1 a0 _ ha0).2
  have hc1 : H[a]? = some (vp_cell (G.2 0) (n1, .inl g1)) := (hH.1 a _ ha1).2
  have hml : c.maxLocals = ls.size := by rw [C.2.2.1, hls]
  obtain ⟨-, k0, hk0, cm0, hkk0⟩ := (C.2.2.2.2.2.1.2 0 _ rfl).1 n0 (fun j => .int (g0 j))
  obtain ⟨-, k1, hk1, cm1, hkk1⟩ := (C.2.2.2.2.2.1.2 0 _ rfl).1 n1 (fun j => .int (g1 j))
  obtain ⟨vm', X', step⟩ := X.arraycopy C.1 C.2.2.2.1 (C.2.2.2.2.1 _ hl rfl args) (C.2.2.2.2.1 _ hnat rfl args) (C.2.2.2.2.1 _ hstat rfl args) (C.2.2.2.2.1 _ hini rfl args) (src := a0) (dst := a) (cs := vp_cell (G.2 0) (n0, .inl g0)) (cd := vp_cell (G.2 0) (n1, .inl g1)) (srcPos := sp) (destPos := dp) (n := n) (by rw [hT]; exact hc0) (by rw [hT]; exact hc1)
    (fun _ h => by cases h) (fun _ h => by cases h) (fun h => by cases h) (fun h => by cases h) hk0 hk1 hkk0 hkk1 rfl h1 h2 h3
    (by rw [fx_nn sp h1, fx_nn n h3]; show ¬ _ > ((arrV (G.2 0) n0 (fun j => .int (g0 j))).slots.size : Int); rw [arrV_size]; omega)
    (by rw [fx_nn dp h2, fx_nn n h3]; show ¬ _ > ((arrV (G.2 0) n1 (fun j => .int (g1 j))).slots.size : Int); rw [arrV_size]; omega)
    (fun vm₁ _ i hi => by
      have e : (vp_cell (G.2 0) (n0, .inl g0)).slots.getD (sp.toNatClampNeg + i) .null = .int (g0 (sp.toNatClampNeg + i)) := by
        show (arrV (G.2 0) n0 (fun j => .int (g0 j))).slots.getD _ _ = _
        rw [Array.getD_eq_getD_getElem?, arrV_read _ _ (by omega)]
        rfl
      refine ⟨?_, ?_⟩
      · rw [e]
        rfl
      · rw [e]
        exact trivial)
    (g := F0 m pc ls (.int n :: .int dp :: .ref a :: .int sp :: .ref a0 :: rest)) rfl (by rw [hml]) (rest := rest) rfl (by rw [C.2.1]; exact hdg) hframes (by show 2 * 0 + _ + _ ≤ _; omega)
  have e1 : copied (vp_cell (G.2 0) (n0, .inl g0)) (vp_cell (G.2 0) (n1, .inl g1)) sp dp n = vp_cell (G.2 0) (n1, .inl (va_cpy g0 g1 sp.toNatClampNeg dp.toNatClampNeg n.toNatClampNeg)) := va_copied (fun z => .int z) (G.2 0) (G.2 0) g0 g1 h4
  rw [e1] at X' step
  have hlt : a < H.size := (Array.getElem?_eq_some_iff.mp hc1).1
  have hheap : ((T.setVm vm').setCell a (vp_cell (G.2 0) (n1, .inl (va_cpy g0 g1 sp.toNatClampNeg dp.toNatClampNeg n.toNatClampNeg)))).heap = H.setIfInBounds a (vp_cell (G.2 0) (n1, .inl (va_cpy g0 g1 sp.toNatClampNeg dp.toNatClampNeg n.toNatClampNeg))) := by rw [← hT]; rfl
  obtain ⟨t, a1, b1⟩ := kk _ _ (fx_setL (x := oI n1 (va_cpy g0 g1 sp.toNatClampNeg dp.toNatClampNeg n.toNatClampNeg)) hH ha1 (show (H.setIfInBounds a _)[a]? = some _ by simp [Array.getElem?_setIfInBounds, hlt]) (by simp) (fun q hq => by simp [Array.getElem?_setIfInBounds, Ne.symm hq]) (fun q hq => by
      obtain ⟨z, -, hz⟩ := List.mem_map.mp hq
      rw [← hz])) _ hheap X'
  exact ⟨t, step t a1, b1⟩
theorem fx_copyl (C : fx_C G p s m c cc nL own) (hH : fx_H G base s f sz H locs) (hls : ls.size = nL) {index : Nat} (hl : Cond.methodLink own index arraycopyName ∈ lw_tbl) (hnat : Cond.native arraycopyName ∈ lw_tbl) (hstat : Cond.static arraycopyName ∈ lw_tbl) (hini : Cond.initialized "java/lang/System" ∈ lw_tbl)
    {a0 a n0 n1 : Nat} {g0 g1 : Nat → Int64} (ha0 : f a0 = some (oJ n0 g0)) (ha1 : f a = some (oJ n1 g1)) {sp dp n : Int32} (h1 : ¬ sp < 0) (h2 : ¬ dp < 0) (h3 : ¬ n < 0) (h4 : sp.toNatClampNeg + n.toNatClampNeg ≤ n0) (h5 : dp.toNatClampNeg + n.toNatClampNeg ≤ n1)
    (hframes : 1 ≤ R.frames) (hlocals : (rest.map fun v => v.category).sum + (nativeFrameWords "java/lang/System" "arraycopy" 5 + 11) ≤ R.locals) (hdg : decode cc pc = .ok (.invokestatic index, 3))
    (kk : ∀ (H1 : Heap) (locs1 : List Loc), fx_H G base s (fx_up f a (oJ n1 (va_cpy g0 g1 sp.toNatClampNeg dp.toNatClampNeg n.toNatClampNeg))) sz H1 locs1 → W p l e R s m args below meth c H1 locs1 cells slots Q (F0 m (pc + 3) ls rest)) : W p l e R s m args below meth c H locs cells slots Q (F0 m pc ls (.int n :: .int dp :: .ref a :: .int sp :: .ref a0 :: rest)) := by
  intro T hT X
  have hc0 : H[a0]? = some (vp_cell (G.2 1) (n0, .inr (.inl g0))) := (hH.1 a0 _ ha0).2
  have hc1 : H[a]? = some (vp_cell (G.2 1) (n1, .inr (.inl g1))) := (hH.1 a _ ha1).2
  have hml : c.maxLocals = ls.size := by rw [C.2.2.1, hls]
  obtain ⟨-, k0, hk0, cm0, hkk0⟩ := (C.2.2.2.2.2.1.2 1 _ rfl).1 n0 (fun j => .long (g0 j))
  obtain ⟨-, k1, hk1, cm1, hkk1⟩ := (C.2.2.2.2.2.1.2 1 _ rfl).1 n1 (fun j => .long (g1 j))
  obtain ⟨vm', X', step⟩ := X.arraycopy C.1 C.2.2.2.1 (C.2.2.2.2.1 _ hl rfl args) (C.2.2.2.2.1 _ hnat rfl args) (C.2.2.2.2.1 _ hstat rfl args) (C.2.2.2.2.1 _ hini rfl args) (src := a0) (dst := a) (cs := vp_cell (G.2 1) (n0, .inr (.inl g0))) (cd := vp_cell (G.2 1) (n1, .inr (.inl g1))) (srcPos := sp) (destPos := dp) (n := n) (by rw [hT]; exact hc0) (by rw [hT]; exact hc1)
    (fun _ h => by cases h) (fun _ h => by cases h) (fun h => by cases h) (fun h => by cases h) hk0 hk1 hkk0 hkk1 rfl h1 h2 h3
    (by rw [fx_nn sp h1, fx_nn n h3]; show ¬ _ > ((arrV (G.2 1) n0 (fun j => .long (g0 j))).slots.size : Int); rw [arrV_size]; omega)
    (by rw [fx_nn dp h2, fx_nn n h3]; show ¬ _ > ((arrV (G.2 1) n1 (fun j => .long (g1 j))).slots.size : Int); rw [arrV_size]; omega)
    (fun vm₁ _ i hi => by
      have e : (vp_cell (G.2 1) (n0, .inr (.inl g0))).slots.getD (sp.toNatClampNeg + i) .null = .long (g0 (sp.toNatClampNeg + i)) := by
        show (arrV (G.2 1) n0 (fun j => .long (g0 j))).slots.getD _ _ = _
        rw [Array.getD_eq_getD_getElem?, arrV_read _ _ (by omega)]
        rfl
      refine ⟨?_, ?_⟩
      · rw [e]
        rfl
      · rw [e]
        exact trivial)
    (g := F0 m pc ls (.int n :: .int dp :: .ref a :: .int sp :: .ref a0 :: rest)) rfl (by rw [hml]) (rest := rest) rfl (by rw [C.2.1]; exact hdg) hframes (by show 2 * 0 + _ + _ ≤ _; omega)
  have e1 : copied (vp_cell (G.2 1) (n0, .inr (.inl g0))) (vp_cell (G.2 1) (n1, .inr (.inl g1))) sp dp n = vp_cell (G.2 1) (n1, .inr (.inl (va_cpy g0 g1 sp.toNatClampNeg dp.toNatClampNeg n.toNatClampNeg))) := va_copied (fun z => .long z) (G.2 1) (G.2 1) g0 g1 h4
  rw [e1] at X' step
  have hlt : a < H.size := (Array.getElem?_eq_some_iff.mp hc1).1
  have hheap : ((T.setVm vm').setCell a (vp_cell (G.2 1) (n1, .inr (.inl (va_cpy g0 g1 sp.toNatClampNeg dp.toNatClampNeg n.toNatClampNeg))))).heap = H.setIfInBounds a (vp_cell (G.2 1) (n1, .inr (.inl (va_cpy g0 g1 sp.toNatClampNeg dp.toNatClampNeg n.toNatClampNeg)))) := by rw [← hT]; rfl
  obtain ⟨t, a1, b1⟩ := kk _ _ (fx_setL (x := oJ n1 (va_cpy g0 g1 sp.toNatClampNeg dp.toNatClampNeg n.toNatClampNeg)) hH ha1 (show (H.setIfInBounds a _)[a]? = some _ by simp [Array.getElem?_setIfInBounds, hlt]) (by simp) (fun q hq => by simp [Array.getElem?_setIfInBounds, Ne.symm hq]) (fun q hq => by
      obtain ⟨z, -, hz⟩ := List.mem_map.mp hq
      rw [← hz])) _ hheap X'
  exact ⟨t, step t a1, b1⟩
end FZ
