/-- as fx_of, for a method of the JDK -/
theorem fx_ofJ {G : GG} {base : Nat} {l : Launch} {y : MethodName} {cc : ByteArray} {nL : Nat} {ret : Option FieldType} {rm : Room} {av : List Value} {f f' : Hp} {sz sz' : Nat} {v : Option Value} (hy : plainFor y = true) (hlen : (lg_sl av).length ≤ nL)
    (body : ∀ (p : Program) (e : Env) (s : State) (m : MethodId) (args : Array Value) (below : List Frame) (meth : Method) (c : Code), fx_C G p s m c cc nL y.cls → meth.sig.returnType = ret → meth.locks = false → meth.name = y.name → fx_H G base s f sz s.heap [] → ∀ ls : Array Slot, lv_has ls nL (lv_args 0 av) →
      W p l e rm s m args below meth c s.heap [] 0 0 (MQ below (fx_Q G base v f' sz') args s rm.cells rm.slots (fun q => base ≤ q)) (F0 m 0 ls [])) : fx_M G base l y cc nL ret rm av f sz v f' sz' := by
  unfold fx_M Met
  refine MetFree.of_bodySF (code := cc) (maxLocals := nL) (ret := ret) hy ?_ ?_
  · intro args s m h hn
    obtain ⟨meth, c, h1, h2, h3, h4, h5, h6, -, -⟩ := Cond.code_spec hn (atoms_spec (ws := [Cond.code y cc nL ret]) h _ List.mem_cons_self)
    exact ⟨meth, c, h1, h2, h3, h4, h5, h6⟩
  · intro p e s m args below meth c s₁ B hml hv _
    obtain ⟨ha, hE, hW, hz, hbz⟩ := hv
    subst ha
    have hh0 : s₁.heap = s.heap := by rw [B.state]; rfl
    have K : W p l e rm s m av.toArray below meth c s.heap [] 0 0 (MQ below (fx_Q G base v f' sz') av.toArray s rm.cells rm.slots (fun q => base ≤ q)) (entryFrame m av.toArray nL) := by
      rw [lg_entry_eq]
      exact body p e s m av.toArray below meth c ⟨B.exec, B.bytes, hml, findClass_of_methodNamed B.named, hE⟩ B.returns B.notSynchronized (name_of_methodNamed B.named B.method).1 ⟨hW, hz, hbz, va_S.rf⟩ _ (lv_entry av hlen)
    obtain ⟨t, a1, o, b1, b2, b3⟩ := K s₁ hh0 (Stand.of_body B)
    exact ⟨t, o, a1, b1, b2, ⟨b3.1, b3.2⟩⟩
theorem pf_fm : plainFor yJ9_floorMod_7cf53 = true := by decide +kernel
theorem pf_abs : plainFor yJ9_abs_0f7a4 = true := by decide +kernel
theorem pf_max : plainFor yJ9_max_7cf53 = true := by decide +kernel
theorem pf_min : plainFor yJ9_min_7cf53 = true := by decide +kernel
