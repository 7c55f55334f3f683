/-! ===== a heap told by a function: cells by their addresses; every method has one contract: what it answers, what the heap is then ===== -/
abbrev CE : Type := (Nat × vp_A) ⊕ (Nat × List Value)
abbrev Hp : Type := Nat → Option CE
abbrev GG : Type := va_G × (Nat → ClassId)
def fx_e (G : GG) (e : CE) : va_E := match e with
  | .inl x => .inl (G.2 x.1, x.2)
  | .inr o => .inr o
def fx_W (G : GG) (base : Nat) (f : Hp) (H : Heap) : Prop := ∀ (a : Nat) (e : CE), f a = some e → base ≤ a ∧ va_at G.1 vwCl (a, fx_e G e) H
def fx_up (f : Hp) (a : Nat) (e : CE) : Hp := fun b => if b = a then some e else f b
theorem fx_up_s (f : Hp) (a : Nat) (e : CE) : fx_up f a e a = some e := by simp [fx_up]
theorem fx_up_n (f : Hp) {a b : Nat} (e : CE) (h : b ≠ a) : fx_up f a e b = f b := by simp [fx_up, h]
theorem fx_up_up (f : Hp) (a : Nat) (e e' : CE) : fx_up (fx_up f a e) a e' = fx_up f a e' := by
  funext b
  by_cases h : b = a <;> simp [fx_up, h]
theorem fx_up_c (f : Hp) {a b : Nat} (e e' : CE) (h : a ≠ b) : fx_up (fx_up f a e) b e' = fx_up (fx_up f b e') a e := by
  funext q
  by_cases h1 : q = a <;> by_cases h2 : q = b
  · exact absurd (h1.symm.trans h2) h
  · subst h1; simp [fx_up, h]
  · subst h2; simp [fx_up, Ne.symm h]
  · simp [fx_up, h1, h2]
theorem fx_up_id {f : Hp} {a : Nat} {e : CE} (h : f a = some e) : fx_up f a e = f := by
  funext b
  by_cases hb : b = a
  · subst hb; simp [fx_up, h]
  · simp [fx_up, hb]
def fx_k (e : CE) : Nat := match e with
  | .inl x => 100 + x.1
  | .inr o => o.1
theorem fx_ne {f : Hp} {a b : Nat} {e e' : CE} (ha : f a = some e) (hb : f b = some e') (h : Nat.beq (fx_k e) (fx_k e') = false) : a ≠ b := by
  intro hab
  subst hab
  have h1 := Option.some.inj (ha.symm.trans hb)
  subst h1
  exact absurd (Nat.beq_refl (fx_k e)) (by rw [h]; decide)
/-- int rows, long rows, boolean rows, rows of references, objects -/
abbrev oI (n : Nat) (g : Nat → Int32) : CE := .inl (0, n, .inl g)
abbrev oJ (n : Nat) (g : Nat → Int64) : CE := .inl (1, n, .inr (.inl g))
abbrev oZ (n : Nat) (g : Nat → Int32) : CE := .inl (2, n, .inl g)
abbrev oR (t n : Nat) (g : Nat → Option Nat) : CE := .inl (t, n, .inr (.inr (.inr (.inr g))))
abbrev oO (ci : Nat) (fs : List Value) : CE := .inr (ci, fs)
abbrev fx_tys (G : GG) : List (ClassId × FieldType) := [(G.2 0, .int), (G.2 1, .long), (G.2 2, .boolean), (G.2 3, .object "TapeEnd$Roll"), (G.2 4, .object "TapeEnd$Row"), (G.2 5, .object "TapeEnd$Seeker")]
abbrev fx_nc : List (String × String) := [("TapeEnd$Back", "TapeEnd$Lamp"), ("TapeEnd$Back", "TapeEnd$Likeliest"), ("TapeEnd$Back", "TapeEnd$Tabs"), ("TapeEnd$Lamp", "TapeEnd$Back"), ("TapeEnd$Lamp", "TapeEnd$Likeliest"), ("TapeEnd$Lamp", "TapeEnd$Tabs"), ("TapeEnd$Likeliest", "TapeEnd$Round"), ("TapeEnd$Likeliest", "TapeEnd$Back"), ("TapeEnd$Likeliest", "TapeEnd$Lamp"), ("TapeEnd$Likeliest", "TapeEnd$Tabs"), ("TapeEnd$Round", "TapeEnd$Back"), ("TapeEnd$Round", "TapeEnd$Lamp"), ("TapeEnd$Round", "TapeEnd$Likeliest"), ("TapeEnd$Round", "TapeEnd$Tabs"), ("TapeEnd$Tabs", "TapeEnd$Round"), ("TapeEnd$Tabs", "TapeEnd$Back"), ("TapeEnd$Tabs", "TapeEnd$Lamp")]
def fx_good (w : Cond) : Bool := match w with
  | .methodLinkNest _ _ _ _ => true
  | .declares _ => true
  | .castable _ _ => true
  | .arrayOver (.object _) => true
  | w => goodWord w
/-- what is known of the tables, everywhere -/
def fx_E (G : GG) (s : State) : Prop := (∀ w ∈ lw_tbl, fx_good w = true → ∀ a : Array Value, w.before a s = true) ∧ va_K G.1 vwCl (fx_tys G) s ∧ ∀ q ∈ fx_nc, va_Nc q.1 q.2 s
theorem fx_warm {w : Cond} (hg : fx_good w = true) {s U : State} (hW : s.WarmedH U.vm) (h : ∀ a : Array Value, w.before a s = true) (a : Array Value) : w.before a U = true := by
  by_cases hgw : goodWord w = true
  · exact word_at hW (good_of_word hgw) (h #[])
  · cases w <;> first
      | exact va_Nw.use rfl (va_Nw.warmM hW (h #[]))
      | exact va_Nw.use rfl (va_Nw.warmD hW (h #[]))
      | exact va_Nw.use rfl (va_Nw.warmC hW (h #[]))
      | exact absurd hg hgw
      | (rename_i t; cases t <;> first | exact va_AO.use (va_AO.moved hW.alike (h #[])) | exact absurd hg hgw)
theorem fx_E.warm {G : GG} {s U : State} (hW : s.WarmedH U.vm) (h : fx_E G s) : fx_E G U :=
  ⟨fun w hw hg a => fx_warm hg hW (h.1 w hw hg) a, va_K.moved hW.alike h.2.1, fun q hq => (h.2.2 q hq).moved hW.alike⟩
theorem fx_E.calling {G : GG} {U : State} {g : JFrame} {mk : MethodId} {a : Array Value} (h : fx_E G U) : fx_E G (U.calling g mk a) :=
  ⟨fun w hw hg x => fx_warm (U := U.calling g mk a) hg (State.WarmedH.refl U) (h.1 w hw hg) x, va_K.moved (u := U) (Vm.Alike.refl U.vm) h.2.1, fun q hq => (h.2.2 q hq).moved (Vm.Alike.refl U.vm)⟩
/-- the machine at a method's body -/
def fx_C (G : GG) (p : Program) (s : State) (m : MethodId) (c : Code) (cc : ByteArray) (nL : Nat) (own : String) : Prop :=
  p.tables.exec = Jvm.exec ∧ c.code = cc ∧ c.maxLocals = nL ∧ s.vm.findClass own = some m.cls ∧ fx_E G s
def fx_H (G : GG) (base : Nat) (s : State) (f : Hp) (sz : Nat) (H : Heap) (locs : List Loc) : Prop :=
  fx_W G base f H ∧ H.size = sz ∧ base ≤ sz ∧ va_S (fun q => base ≤ q) s.heap H locs
def fx_P (G : GG) (base : Nat) (av : List Value) (f : Hp) (sz : Nat) : Array Value → State → Prop := fun a U => a = av.toArray ∧ fx_E G U ∧ fx_W G base f U.heap ∧ U.heap.size = sz ∧ base ≤ sz
def fx_Q (G : GG) (base : Nat) (v : Option Value) (f : Hp) (sz : Nat) : Array Value → State → Outcome → State → Prop := fun _ st oc t => oc = .returned v ∧ fx_W G base f t.heap ∧ t.heap.size = sz ∧ va_F (fun q => base ≤ q) st t
/-- a method's contract: from the arguments av and the heap f it comes to the answer v and the heap f' -/
def fx_M (G : GG) (base : Nat) (l : Launch) (y : MethodName) (cc : ByteArray) (nL : Nat) (ret : Option FieldType) (rm : Room) (av : List Value) (f : Hp) (sz : Nat) (v : Option Value) (f' : Hp) (sz' : Nat) : Prop :=
  Met l y [Cond.code y cc nL ret] rm (fx_P G base av f sz) (fx_Q G base v f' sz') rm.cells rm.slots (fun q => base ≤ q)
theorem fx_of {G : GG} {base : Nat} {l : Launch} {y : MethodName} {cc : ByteArray} {nL : Nat} {ret : Option FieldType} {rm : Room} {av : List Value} {f f' : Hp} {sz sz' : Nat} {v : Option Value} (hy : plainName y.cls = true) (hlen : (lg_sl av).length ≤ nL)
    (body : ∀ (p : Program) (e : Env) (s : State) (m : MethodId) (args : Array Value) (below : List Frame) (meth : Method) (c : Code), fx_C G p s m c cc nL y.cls → meth.sig.returnType = ret → meth.locks = false → meth.name = y.name → fx_H G base s f sz s.heap [] → ∀ ls : Array Slot, lv_has ls nL (lv_args 0 av) →
      W p l e rm s m args below meth c s.heap [] 0 0 (MQ below (fx_Q G base v f' sz') args s rm.cells rm.slots (fun q => base ≤ q)) (F0 m 0 ls [])) : fx_M G base l y cc nL ret rm av f sz v f' sz' := by
  refine Met.ofW (cc := cc) (maxL := nL) (ret := ret) hy rfl ?_
  intro p e s m args below meth c s₁ B hml hv
  obtain ⟨ha, hE, hW, hz, hbz⟩ := hv
  subst ha
  rw [lg_entry_eq]
  exact body p e s m av.toArray below meth c ⟨B.exec, B.bytes, hml, findClass_of_methodNamed B.named, hE⟩ B.returns B.notSynchronized (name_of_methodNamed B.named B.method).1 ⟨hW, hz, hbz, va_S.rf⟩ _ (lv_entry av hlen)
