/-- a field's link: what the tables say of it -/
def fx_F (own : String) (index ci k : Nat) : Prop := ∃ (C : String) (T : u_T) (N : Nat) (ref : String), vwCl[ci]? = some (C, T, N) ∧ k < N ∧ (∀ w ∈ u_ws C T N, w ∈ lw_tbl) ∧ (∀ w ∈ u_ws C T N, fx_good w = true) ∧ Cond.fieldLink own index ref (T k).2.1 (T k).2.2.1 ∈ lw_tbl ∧ (ref = (T k).1 ∨ Cond.sameField ref (T k).1 (T k).2.1 (T k).2.2.1 ∈ lw_tbl)
/-- a class that can be written: its fields' types, their names apart -/
def fx_L (ci : Nat) : Prop := ∀ (C : String) (T : u_T) (N : Nat), vwCl[ci]? = some (C, T, N) → (∀ a, a < N → ∀ b, b < N → a ≠ b → (T a).2.1 ≠ (T b).2.1) ∧ ∃ ty : Nat → FieldType, ∀ k, k < N → parseFieldDescriptor (T k).2.2.1 = some (ty k)
section FX
variable {p : Program} {l : Launch} {e : Env} {R : Room} {s : State} {m : MethodId} {args : Array Value} {below : List Frame} {meth : Method} {c : Code} {H : Heap} {locs : List Loc} {cells slots : Nat} {Q : State → Prop}
variable {cc : ByteArray} {nL pc : Nat} {own : String} {ls : Array Slot} {rest : List Value} {G : GG} {base sz : Nat} {f : Hp}
theorem fx_hts (C : fx_C G p s m c cc nL own) {w : Cond} (hw : w ∈ lw_tbl) (hg : fx_good w = true) : w.before args s = true := C.2.2.2.2.1 w hw hg args
theorem fx_one (hH : fx_H G base s f sz H locs) {a : Nat} {x : CE} (h : f a = some x) : va_P G.1 vwCl [(a, fx_e G x)] H := by
  intro k q hk
  cases k with
  | zero =>
    cases hk
    exact (hH.1 a x h).2
  | succ k => simp at hk
theorem fx_set (hH : fx_H G base s f sz H locs) {a k : Nat} {x x0 : CE} (h : f a = some x0) {H1 : Heap} (he : va_at G.1 vwCl (a, fx_e G x) H1) (hz : H1.size = H.size) (oq : ∀ q : Nat, q ≠ a → H1[q]? = H[q]?) : fx_H G base s (fx_up f a x) sz H1 (locs ++ [⟨a, k⟩]) := by
  obtain ⟨h1, h2, h3, h4⟩ := hH
  refine ⟨fun b y hb => ?_, hz.trans h2, h3, h4.put hz oq (h1 a x0 h).1⟩
  by_cases hba : b = a
  · subst hba
    rw [fx_up_s] at hb
    cases hb
    exact ⟨(h1 b x0 h).1, he⟩
  · rw [fx_up_n _ _ hba] at hb
    exact ⟨(h1 b y hb).1, (h1 b y hb).2.kept (oq b hba)⟩
theorem fx_push (hH : fx_H G base s f sz H locs) {x : CE} {H1 : Heap} (he : va_at G.1 vwCl (sz, fx_e G x) H1) (hz : H1.size = sz + 1) (oq : ∀ q : Nat, q < sz → H1[q]? = H[q]?) : fx_H G base s (fx_up f sz x) (sz + 1) H1 locs := by
  obtain ⟨h1, h2, h3, h4⟩ := hH
  refine ⟨fun b y hb => ?_, hz, by omega, ⟨by rw [hz]; exact Nat.le_trans h4.1 (by omega), fun q g1 g2 => ?_, h4.2.2⟩⟩
  · by_cases hba : b = sz
    · subst hba
      rw [fx_up_s] at hb
      cases hb
      exact ⟨h3, he⟩
    · rw [fx_up_n _ _ hba] at hb
      have hlt : b < sz := by have := (h1 b y hb).2.lt; rw [h2] at this; exact this
      exact ⟨(h1 b y hb).1, (h1 b y hb).2.kept (oq b hlt)⟩
  · rw [oq q (by have := h4.1; omega)]
    exact h4.2.1 q g1 g2
theorem fx_get (C : fx_C G p s m c cc nL own) (hH : fx_H G base s f sz H locs) {a ci index k : Nat} {fs : List Value} {v : Value} (hf : f a = some (.inr (ci, fs))) (hF : fx_F own index ci k) (hv : fs[k]? = some v) (hdg : decode cc pc = .ok (.getfield index, 3))
    (kk : W p l e R s m args below meth c H locs cells slots Q (F0 m (pc + 3) ls (v :: rest))) : W p l e R s m args below meth c H locs cells slots Q (F0 m pc ls (.ref a :: rest)) := by
  obtain ⟨Cn, T, N, ref, hc, hk, hin, hg, hl, hs⟩ := hF
  have hts : ∀ w ∈ u_ws Cn T N, w.before args s = true := fun w hw => C.2.2.2.2.1 w (hin w hw) (hg w hw) args
  refine va_get (D := G.1) (cl := vwCl) (tys := fx_tys G) (ci := ci) (C := Cn) (T := T) (N := N) (ref := ref) C.1 C.2.1 hts (fun w h => h) C.2.2.2.1 C.2.2.2.2.2.1 (fx_one hH hf) 0 rfl hc k hk (C.2.2.2.2.1 _ hl rfl args) (fun x hx => ?_) hv hdg kk
  rcases hs with hs | hs
  · rw [hs]; exact hx
  · exact u_same (C.2.2.2.2.1 _ hs rfl args) x hx
theorem fx_put (C : fx_C G p s m c cc nL own) (hH : fx_H G base s f sz H locs) {a ci index k : Nat} {fs : List Value} {v : Value} (hf : f a = some (.inr (ci, fs))) (hF : fx_F own index ci k) (hL : fx_L ci)
    (hfin : ∀ q : vw_C, vwCl[ci]? = some q → (q.2.1 k).2.2.2 = false) {ty : FieldType} (hd : ∀ q : vw_C, vwCl[ci]? = some q → parseFieldDescriptor (q.2.1 k).2.2.1 = some ty) (hn : narrow ty v = v) (hfit : fits ty v = true) (hl : k < fs.length) (hdg : decode cc pc = .ok (.putfield index, 3))
    (kk : ∀ (H1 : Heap) (locs1 : List Loc), fx_H G base s (fx_up f a (.inr (ci, fs.set k v))) sz H1 locs1 → W p l e R s m args below meth c H1 locs1 cells slots Q (F0 m (pc + 3) ls rest)) : W p l e R s m args below meth c H locs cells slots Q (F0 m pc ls (v :: .ref a :: rest)) := by
  obtain ⟨Cn, T, N, ref, hc, hk, hin, hg, hlk, hs⟩ := hF
  obtain ⟨hnm, ty0, hty⟩ := hL Cn T N hc
  have hts : ∀ w ∈ u_ws Cn T N, w.before args s = true := fun w hw => C.2.2.2.2.1 w (hin w hw) (hg w hw) args
  have hK := C.2.2.2.2.2.1
  have hap := va_apart (own := own) (D := G.1) (cl := vwCl) (tys := fx_tys G) (ci := ci) (C := Cn) (T := T) (N := N) hts (fun w h => h) ty0 hty hnm hK hc
  obtain ⟨r, h1, cell, q1, q2, q3, q4⟩ := (hH.1 a _ hf).2
  have hr : r = (Cn, T, N) := Option.some.inj (h1.symm.trans hc)
  subst hr
  obtain ⟨hS, hfc, kC, hkC, hkind⟩ := hK.1 ci _ hc
  obtain ⟨cf, kf, fi, fd, hi, hsl⟩ := hS k hk
  have hlay := hts _ (u_in_lay hk)
  unfold u_lay at hlay
  rw [if_neg (by rw [hfin _ hc]; decide)] at hlay
  have hst := (u_facts hfc hkC (u_lays hts (fun w h => h) hk) hi).1
  have h6 := u_store hfc hkC hkind hlay hi (hd _ hc) hn hfit
  have hsame : s.fieldFound? ref (T k).2.1 (T k).2.2.1 = some (cf, kf, fi, fd) := by
    rcases hs with hs | hs
    · rw [hs]; exact hi
    · exact u_same (C.2.2.2.2.1 _ hs rfl args) _ hi
  refine W.putK C.1 C.2.1 (f := fd) ⟨C.2.2.2.1, C.2.2.2.2.1 _ hlk rfl args, ⟨_, _, _, hsame⟩, hst⟩ (by rw [q2]; exact h6) q1 q3 (by rw [hsl]; exact k2_hasslot (q4 k hk)) rfl rfl hdg fun H' e1 e2 e3 => ?_
  rw [hsl] at e1 ⊢
  exact kk H' _ (fx_set hH hf ⟨_, hc, t_OB.to (V := updV (vp_V fs) k v) ⟨_, e1, q2, q3, t_set q4 hap hk v⟩ (fun j _ => vp_updV_set hl v j)⟩ e2 e3)
theorem fx_putF (C : fx_C G p s m c cc nL own) (hH : fx_H G base s f sz H locs) (hin2 : meth.name = "<init>") {a ci index k : Nat} {fs : List Value} {v : Value} (hf : f a = some (.inr (ci, fs))) (hF : fx_F own index ci k) (hL : fx_L ci)
    (hfin : ∀ q : vw_C, vwCl[ci]? = some q → (q.2.1 k).2.2.2 = true ∧ (q.2.1 k).1 = own) {ty : FieldType} (hd : ∀ q : vw_C, vwCl[ci]? = some q → parseFieldDescriptor (q.2.1 k).2.2.1 = some ty) (hn : narrow ty v = v) (hfit : fits ty v = true) (hl : k < fs.length) (hdg : decode cc pc = .ok (.putfield index, 3))
    (kk : ∀ (H1 : Heap) (locs1 : List Loc), fx_H G base s (fx_up f a (.inr (ci, fs.set k v))) sz H1 locs1 → W p l e R s m args below meth c H1 locs1 cells slots Q (F0 m (pc + 3) ls rest)) : W p l e R s m args below meth c H locs cells slots Q (F0 m pc ls (v :: .ref a :: rest)) := by
  obtain ⟨Cn, T, N, ref, hc, hk, hin, hg, hlk, hs⟩ := hF
  obtain ⟨hnm, ty0, hty⟩ := hL Cn T N hc
  have hts : ∀ w ∈ u_ws Cn T N, w.before args s = true := fun w hw => C.2.2.2.2.1 w (hin w hw) (hg w hw) args
  have hK := C.2.2.2.2.2.1
  have hap := va_apart (own := own) (D := G.1) (cl := vwCl) (tys := fx_tys G) (ci := ci) (C := Cn) (T := T) (N := N) hts (fun w h => h) ty0 hty hnm hK hc
  obtain ⟨r, h1, cell, q1, q2, q3, q4⟩ := (hH.1 a _ hf).2
  have hr : r = (Cn, T, N) := Option.some.inj (h1.symm.trans hc)
  subst hr
  obtain ⟨hS, hfc, kC, hkC, hkind⟩ := hK.1 ci _ hc
  obtain ⟨cf, kf, fi, fd, hi, hsl⟩ := hS k hk
  have hlay := hts _ (u_in_lay hk)
  unfold u_lay at hlay
  rw [if_pos (hfin _ hc).1] at hlay
  have hst := (u_facts hfc hkC (u_lays hts (fun w h => h) hk) hi).1
  have hcf : m.cls = cf := by
    obtain ⟨_, _, c', _, _, _, -, -, hf', -, -, -, hown2, -⟩ := Cond.laysFinal_spec hlay
    have e1 : c' = cf := by have := hi.symm.trans hf'; simp at this; exact this.1.symm
    have hdecl : (T k).1 = own := (hfin _ hc).2
    rw [hdecl] at hown2
    rw [← e1]; exact Option.some.inj (C.2.2.2.1.symm.trans hown2)
  have h6 := u_fits hfc hkC hkind (Or.inr hlay) hi (hd _ hc) hn hfit
  have hsame : s.fieldFound? ref (T k).2.1 (T k).2.2.1 = some (cf, kf, fi, fd) := by
    rcases hs with hs | hs
    · rw [hs]; exact hi
    · exact u_same (C.2.2.2.2.1 _ hs rfl args) _ hi
  refine W.putFinK C.1 C.2.1 C.2.2.2.1 (C.2.2.2.2.1 _ hlk rfl args) hsame hst hcf hin2 (by rw [q2]; exact h6) q1 q3 (by rw [hsl]; exact k2_hasslot (q4 k hk)) rfl rfl hdg fun H' e1 e2 e3 => ?_
  rw [hsl] at e1 ⊢
  exact kk H' _ (fx_set hH hf ⟨_, hc, t_OB.to (V := updV (vp_V fs) k v) ⟨_, e1, q2, q3, t_set q4 hap hk v⟩ (fun j _ => vp_updV_set hl v j)⟩ e2 e3)
theorem fx_iald (C : fx_C G p s m c cc nL own) (hH : fx_H G base s f sz H locs) {a n : Nat} {g : Nat → Int32} (hf : f a = some (oI n g)) {i : Int32} (hin : vp_in i n) (hdg : decode cc pc = .ok (.iaload, 1))
    (kk : W p l e R s m args below meth c H locs cells slots Q (F0 m (pc + 1) ls (.int (g i.toNatClampNeg) :: rest))) : W p l e R s m args below meth c H locs cells slots Q (F0 m pc ls (.int i :: .ref a :: rest)) :=
  va_iald (D := G.1) (cl := vwCl) (tys := fx_tys G) C.1 C.2.1 C.2.2.2.2.2.1 (fx_one hH hf) 0 0 rfl rfl hin hdg kk
theorem fx_lald (C : fx_C G p s m c cc nL own) (hH : fx_H G base s f sz H locs) {a n : Nat} {g : Nat → Int64} (hf : f a = some (oJ n g)) {i : Int32} (hin : vp_in i n) (hdg : decode cc pc = .ok (.laload, 1))
    (kk : W p l e R s m args below meth c H locs cells slots Q (F0 m (pc + 1) ls (.long (g i.toNatClampNeg) :: rest))) : W p l e R s m args below meth c H locs cells slots Q (F0 m pc ls (.int i :: .ref a :: rest)) :=
  va_lald (D := G.1) (cl := vwCl) (tys := fx_tys G) C.1 C.2.1 C.2.2.2.2.2.1 (fx_one hH hf) 0 1 rfl rfl hin hdg kk
theorem fx_zald (C : fx_C G p s m c cc nL own) (hH : fx_H G base s f sz H locs) {a n : Nat} {g : Nat → Int32} (hf : f a = some (oZ n g)) {i : Int32} (hin : vp_in i n) (hdg : decode cc pc = .ok (.baload, 1))
    (kk : W p l e R s m args below meth c H locs cells slots Q (F0 m (pc + 1) ls (.int (g i.toNatClampNeg) :: rest))) : W p l e R s m args below meth c H locs cells slots Q (F0 m pc ls (.int i :: .ref a :: rest)) :=
  va_zald (D := G.1) (cl := vwCl) (tys := fx_tys G) C.1 C.2.1 C.2.2.2.2.2.1 (fx_one hH hf) 0 2 rfl rfl hin hdg kk
theorem fx_aald (C : fx_C G p s m c cc nL own) (hH : fx_H G base s f sz H locs) {a n t : Nat} {g : Nat → Option Nat} {D : String} (ht : (fx_tys G)[t]? = some (G.2 t, .object D)) (hf : f a = some (oR t n g)) {i : Int32} (hin : vp_in i n) {v : Value} (hv : va_rf (g i.toNatClampNeg) = v) (hdg : decode cc pc = .ok (.aaload, 1))
    (kk : W p l e R s m args below meth c H locs cells slots Q (F0 m (pc + 1) ls (v :: rest))) : W p l e R s m args below meth c H locs cells slots Q (F0 m pc ls (.int i :: .ref a :: rest)) := by
  subst hv
  exact va_aldq (D := G.1) (cl := vwCl) (tys := fx_tys G) C.1 C.2.1 C.2.2.2.2.2.1 (fx_one hH hf) 0 t rfl ht hin hdg kk
theorem fx_iast (C : fx_C G p s m c cc nL own) (hH : fx_H G base s f sz H locs) {a n : Nat} {g : Nat → Int32} (hf : f a = some (oI n g)) {i x : Int32} (hin : vp_in i n) (hdg : decode cc pc = .ok (.iastore, 1))
    (kk : ∀ (H1 : Heap) (locs1 : List Loc), fx_H G base s (fx_up f a (oI n (upd g i.toNatClampNeg x))) sz H1 locs1 → W p l e R s m args below meth c H1 locs1 cells slots Q (F0 m (pc + 1) ls rest)) : W p l e R s m args below meth c H locs cells slots Q (F0 m pc ls (.int x :: .int i :: .ref a :: rest)) := by
  refine W.iast C.1 C.2.1 ((fx_one hH hf) 0 _ rfl) ((C.2.2.2.2.2.1.2 0 _ rfl).1 n (fun j => .int (g j))) (fun q => by cases q) (by show ¬ (i < 0 ∨ (arrV _ _ _).slots.size ≤ _); rw [arrV_size]; exact hin) rfl rfl hdg fun H1 e1 z oq => ?_
  refine kk H1 _ (fx_set hH hf ?_ z oq)
  show H1[a]? = some (vp_cell _ _)
  rw [e1, show vp_cell (G.2 0) (n, .inl g) = arrV (G.2 0) n (fun j => .int (g j)) from rfl, arrV_store]
  rw [vp_cell_i]
  congr 2
  funext q
  by_cases hq : q = i.toNatClampNeg
  · subst hq
    simp [updV, upd]
  · simp [updV, upd, hq]
theorem fx_last (C : fx_C G p s m c cc nL own) (hH : fx_H G base s f sz H locs) {a n : Nat} {g : Nat → Int64} (hf : f a = some (oJ n g)) {i : Int32} {x : Int64} (hin : vp_in i n) (hdg : decode cc pc = .ok (.lastore, 1))
    (kk : ∀ (H1 : Heap) (locs1 : List Loc), fx_H G base s (fx_up f a (oJ n (vp_updL g i.toNatClampNeg x))) sz H1 locs1 → W p l e R s m args below meth c H1 locs1 cells slots Q (F0 m (pc + 1) ls rest)) : W p l e R s m args below meth c H locs cells slots Q (F0 m pc ls (.long x :: .int i :: .ref a :: rest)) := by
  refine W.last C.1 C.2.1 ((fx_one hH hf) 0 _ rfl) ((C.2.2.2.2.2.1.2 1 _ rfl).1 n (fun j => .long (g j))) (fun q => by cases q) (by show ¬ (i < 0 ∨ (arrV _ _ _).slots.size ≤ _); rw [arrV_size]; exact hin) rfl rfl hdg fun H1 e1 z oq => ?_
  refine kk H1 _ (fx_set hH hf ?_ z oq)
  show H1[a]? = some (vp_cell _ _)
  rw [e1, show vp_cell (G.2 1) (n, .inr (.inl g)) = arrV (G.2 1) n (fun j => .long (g j)) from rfl, arrV_store]
  rw [vp_cell_l]
  congr 2
  funext q
  by_cases hq : q = i.toNatClampNeg
  · subst hq
    simp [updV, vp_updL]
  · simp [updV, vp_updL, hq]
theorem fx_zast (C : fx_C G p s m c cc nL own) (hH : fx_H G base s f sz H locs) {a n : Nat} {g : Nat → Int32} (hf : f a = some (oZ n g)) {i x : Int32} (hx : narrow .boolean (.int x) = .int x) (hin : vp_in i n) (hdg : decode cc pc = .ok (.bastore, 1))
    (kk : ∀ (H1 : Heap) (locs1 : List Loc), fx_H G base s (fx_up f a (oZ n (upd g i.toNatClampNeg x))) sz H1 locs1 → W p l e R s m args below meth c H1 locs1 cells slots Q (F0 m (pc + 1) ls rest)) : W p l e R s m args below meth c H locs cells slots Q (F0 m pc ls (.int x :: .int i :: .ref a :: rest)) := by
  refine W.zast C.1 C.2.1 ((fx_one hH hf) 0 _ rfl) ((C.2.2.2.2.2.1.2 2 _ rfl).1 n (fun j => .int (g j))) (fun q => by cases q) (by show ¬ (i < 0 ∨ (arrV _ _ _).slots.size ≤ _); rw [arrV_size]; exact hin) rfl rfl hdg fun H1 e1 z oq => ?_
  refine kk H1 _ (fx_set hH hf ?_ z oq)
  show H1[a]? = some (vp_cell _ _)
  rw [e1, hx, show vp_cell (G.2 2) (n, .inl g) = arrV (G.2 2) n (fun j => .int (g j)) from rfl, arrV_store]
  rw [vp_cell_i]
  congr 2
  funext q
  by_cases hq : q = i.toNatClampNeg
  · subst hq
    simp [updV, upd]
  · simp [updV, upd, hq]
end FX
