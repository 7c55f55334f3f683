/-! ===== the class beside the model: what holds between two calls ===== -/
abbrev xC (b oa ak : Nat) (fa fi : Int32) : CE := oO 10 [.ref (b + 1), .ref (b + 2), .ref (b + 4), .ref (b + 12), .ref (b + 14), .ref (b + 6), .ref (b + 7), .int (nI oa), .int (nI ak), .int fa, .int fi]
abbrev mC (b : Nat) (th sa ac tn cu sr tk va ft fA lt tt : Int32) : CE := oO 11 [.int th, .int sa, .ref (b + 85), .ref (b + 86), .ref (b + 87), .ref (b + 88), .ref (b + 89), .ref (b + 90), .ref (b + 91), .ref (b + 92), .int ac, .ref (b + 93), .int tn, .int cu, .int sr, .int tk, .int va, .int ft, .int fA, .int lt, .ref (b + 94), .ref (b + 95), .ref (b + 96), .ref (b + 97), .ref (b + 98), .int tt]
abbrev rC (k w : Nat) (pl wy se to lf ta : Int32) : CE := oO 4 [.ref k, .ref w, .int pl, .int wy, .int se, .int to, .int lf, .int ta]
/-- where laws lie -/
def inL (b a : Nat) : Prop := b + 8 ≤ a ∧ a < b + 12 ∨ b + 99 ≤ a
/-- a law of the class beside a row of the model -/
def LW (b : Nat) (f : Hp) (w : Nat) (r : Nat → Int32) (P wt ch sk st mi ri tl : Nat) (ov : Int32) (gw gc : Nat → Int32) (gs : Nat → Option Nat) (os Ks wis ags wn cvf : Nat → Nat) : Prop :=
  (f w = some (oO 2 [.ref wt, .ref ch, .ref sk, .int (nI P), .int (nI st), .int ov, .int (nI mi), .int (nI ri), .int (nI tl)]) ∧ f wt = some (oI 12 gw) ∧ f ch = some (oI 12 gc) ∧ f sk = some (oR 5 4 gs)) ∧
  (inL b w ∧ inL b wt ∧ inL b ch ∧ inL b sk ∧ wt ≠ ch) ∧
  (r 0 = nI P ∧ r 1 = nI st ∧ r 2 = ov ∧ r 3 = nI mi ∧ r 4 = nI ri ∧ r 5 = nI tl) ∧
  ((P = 0 ∧ tl = 0 ∨ 4 ≤ P ∧ P ≤ 12) ∧ tl ≤ 4 ∧ st ≤ 9 ∧ mi ≤ 9) ∧
  (∀ z, z < P → gw z = nI (wn z) ∧ r (12 + z) = nI (wn z) ∧ 1 ≤ wn z ∧ wn z ≤ 9) ∧
  (∀ z, z < P → gc z = nI (cvf z) ∧ r (24 + z) = nI (cvf z) ∧ cvf z ≤ 10) ∧
  (∀ j, j < tl → gs j = some (os j) ∧ inL b (os j) ∧ f (os j) = some (skC (Ks j) (nI j) (nI (wis j)) (nI (ags j))) ∧ r (36 + 3 * j + 0) = nI (Ks j) ∧ r (36 + 3 * j + 1) = nI (wis j) ∧ r (36 + 3 * j + 2) = nI (ags j) ∧ (1 ≤ Ks j ∧ Ks j ≤ 5) ∧ wis j ≤ 10 ∧ ags j ≤ 10)
/-- a roll of the class beside a row of the model -/
def RO (P pl to lf : Nat) (wy se ta : Int32) (q : Nat → Int64) (r : Nat → Int32) (lm : Nat → Int64) (v : Nat → Nat) : Prop :=
  0 < P → (pl < P ∧ to ≤ 10 ∧ lf ≤ 1 ∧ (wy = nI 1 ∨ wy = -1)) ∧ (r 6 = nI pl ∧ r 7 = wy ∧ r 8 = se ∧ r 9 = nI to ∧ r 10 = nI lf ∧ r 11 = ta) ∧ (ta = (-1000000) ∨ ∃ t, t < P ∧ ta = nI t) ∧ (∀ i, i ≤ P → q i = lN (v i) ∧ lm i = lN (v i) ∧ v i ≤ 9 * 10 ^ to) ∧ 0 < sN v (P + 1)
def RR (b : Nat) (f : Hp) (ad : Nat) (r : Nat → Int32) (lm : Nat → Int64) : Prop :=
  ∃ (w pl to lf : Nat) (wy se ta : Int32) (q : Nat → Int64) (P wt ch sk st mi ri tl : Nat) (ov : Int32) (gw gc : Nat → Int32) (gs : Nat → Option Nat) (os Ks wis ags wn cvf v : Nat → Nat),
    f (b + ad) = some (rC (b + ad + 1) w (nI pl) wy se (nI to) (nI lf) ta) ∧ f (b + ad + 1) = some (oJ 13 q) ∧ LW b f w r P wt ch sk st mi ri tl ov gw gc gs os Ks wis ags wn cvf ∧ RO P pl to lf wy se ta q r lm v
def RX (b : Nat) (f : Hp) (ad : Nat) : Prop := ∃ (w : Nat) (pl wy se to lf ta : Int32) (q : Nat → Int64), f (b + ad) = some (rC (b + ad + 1) w pl wy se to lf ta) ∧ f (b + ad + 1) = some (oJ 13 q)
theorem LW_c {b : Nat} {f f' : Hp} {w : Nat} {r r' : Nat → Int32} {P wt ch sk st mi ri tl : Nat} {ov : Int32} {gw gc : Nat → Int32} {gs : Nat → Option Nat} {os Ks wis ags wn cvf : Nat → Nat} (h : LW b f w r P wt ch sk st mi ri tl ov gw gc gs os Ks wis ags wn cvf) (e : ∀ a, inL b a → f' a = f a) (er : ∀ x, x < 48 → x < 6 ∨ 12 ≤ x → r' x = r x) : LW b f' w r' P wt ch sk st mi ri tl ov gw gc gs os Ks wis ags wn cvf := by
  obtain ⟨⟨a1, a2, a3, a4⟩, ⟨b1, b2, b3, b4, b5⟩, ⟨c0, c1, c2, c3, c4, c5⟩, ⟨d1, d2, d3, d4⟩, e1, e2, e3⟩ := h
  refine ⟨⟨(e _ b1).trans a1, (e _ b2).trans a2, (e _ b3).trans a3, (e _ b4).trans a4⟩, ⟨b1, b2, b3, b4, b5⟩, ⟨(er 0 (by omega) (by omega)).trans c0, (er 1 (by omega) (by omega)).trans c1, (er 2 (by omega) (by omega)).trans c2, (er 3 (by omega) (by omega)).trans c3, (er 4 (by omega) (by omega)).trans c4, (er 5 (by omega) (by omega)).trans c5⟩, ⟨d1, d2, d3, d4⟩, ?_, ?_, ?_⟩
  · intro z hz
    have h9 := e1 z hz
    exact ⟨h9.1, (er (12 + z) (by omega) (by omega)).trans h9.2.1, h9.2.2⟩
  · intro z hz
    have h9 := e2 z hz
    exact ⟨h9.1, (er (24 + z) (by omega) (by omega)).trans h9.2.1, h9.2.2⟩
  · intro j hj
    obtain ⟨g1, g2, g3, g4, g5, g6, g7⟩ := e3 j hj
    exact ⟨g1, g2, (e _ g2).trans g3, (er (36 + 3 * j + 0) (by omega) (by omega)).trans g4, (er (36 + 3 * j + 1) (by omega) (by omega)).trans g5, (er (36 + 3 * j + 2) (by omega) (by omega)).trans g6, g7⟩
theorem LW_P {b : Nat} {f : Hp} {w : Nat} {r : Nat → Int32} {P wt ch sk st mi ri tl : Nat} {ov : Int32} {gw gc : Nat → Int32} {gs : Nat → Option Nat} {os Ks wis ags wn cvf : Nat → Nat} (h : LW b f w r P wt ch sk st mi ri tl ov gw gc gs os Ks wis ags wn cvf) : P ≤ 12 := by
  have := h.2.2.2.1.1
  omega
theorem RO_c {P pl to lf : Nat} {wy se ta : Int32} {q q' : Nat → Int64} {r r' : Nat → Int32} {lm lm' : Nat → Int64} {v : Nat → Nat} (h : RO P pl to lf wy se ta q r lm v) (hP : P ≤ 12) (er : ∀ x, 6 ≤ x → x < 12 → r' x = r x) (eq : ∀ i, i < 13 → q' i = q i) (el : ∀ i, i < 13 → lm' i = lm i) : RO P pl to lf wy se ta q' r' lm' v := by
  intro h0
  obtain ⟨h1, ⟨c6, c7, c8, c9, c10, c11⟩, h3, h4, h5⟩ := h h0
  exact ⟨h1, ⟨(er 6 (by omega) (by omega)).trans c6, (er 7 (by omega) (by omega)).trans c7, (er 8 (by omega) (by omega)).trans c8, (er 9 (by omega) (by omega)).trans c9, (er 10 (by omega) (by omega)).trans c10, (er 11 (by omega) (by omega)).trans c11⟩, h3, fun i hi => ⟨(eq i (by omega)).trans (h4 i hi).1, (el i (by omega)).trans (h4 i hi).2.1, (h4 i hi).2.2⟩, h5⟩
theorem RR_c {b : Nat} {f f' : Hp} {ad : Nat} {r r' : Nat → Int32} {lm lm' : Nat → Int64} (h : RR b f ad r lm) (e : ∀ a, a = b + ad ∨ a = b + ad + 1 ∨ inL b a → f' a = f a) (er : ∀ x, x < 48 → r' x = r x) (el : ∀ i, i < 13 → lm' i = lm i) : RR b f' ad r' lm' := by
  obtain ⟨w, pl, to, lf, wy, se, ta, q, P, wt, ch, sk, st, mi, ri, tl, ov, gw, gc, gs, os, Ks, wis, ags, wn, cvf, v, h1, h2, h3, h4⟩ := h
  exact ⟨w, pl, to, lf, wy, se, ta, q, P, wt, ch, sk, st, mi, ri, tl, ov, gw, gc, gs, os, Ks, wis, ags, wn, cvf, v, (e _ (Or.inl rfl)).trans h1, (e _ (Or.inr (Or.inl rfl))).trans h2, LW_c h3 (fun a ha => e a (Or.inr (Or.inr ha))) (fun x hx _ => er x hx), RO_c h4 (LW_P h3) (fun x _ hx => er x (by omega)) (fun i _ => rfl) el⟩
theorem RX_c {b : Nat} {f f' : Hp} {ad : Nat} (h : RX b f ad) (e : ∀ a, a = b + ad ∨ a = b + ad + 1 → f' a = f a) : RX b f' ad := by
  obtain ⟨w, pl, wy, se, to, lf, ta, q, h1, h2⟩ := h
  exact ⟨w, pl, wy, se, to, lf, ta, q, (e _ (Or.inl rfl)).trans h1, (e _ (Or.inr rfl)).trans h2⟩
theorem RR.rx {b : Nat} {f : Hp} {ad : Nat} {r : Nat → Int32} {lm : Nat → Int64} (h : RR b f ad r lm) : RX b f ad := by
  obtain ⟨w, pl, to, lf, wy, se, ta, q, P, wt, ch, sk, st, mi, ri, tl, ov, gw, gc, gs, os, Ks, wis, ags, wn, cvf, v, h1, h2, h3, h4⟩ := h
  exact ⟨w, _, wy, se, _, _, ta, q, h1, h2⟩
/-- rows -/
def rRows (b : Nat) (f : Hp) : Prop := ∃ (mis las : Nat → Int32) (sns : Nat → Nat) (gis : Nat → Nat → Int32) (gr : Nat → Option Nat) (gla gma git : Nat → Int32),
  f (b + 1) = some (oR 4 8 gr) ∧ (∀ i, i < 8 → gr i = some (b + (16 + 2 * i))) ∧ (∀ i, i < 8 → f (b + (16 + 2 * i)) = some (oO 6 [.ref (b + (16 + 2 * i) + 1), .int (mis i), .int (las i), .int (nI (sns i))])) ∧ (∀ i, i < 8 → f (b + (16 + 2 * i) + 1) = some (oI 40 (gis i))) ∧
  f (b + 85) = some (oI 8 gla) ∧ f (b + 86) = some (oI 8 gma) ∧ f (b + 87) = some (oI 320 git) ∧
  (∀ i, i < 8 → mis i = 0 ∧ gla i = las i ∧ 0 ≤ gla i ∨ ¬ mis i = 0 ∧ ¬ 0 ≤ gla i) ∧ (∀ i, i < 8 → sns i ≤ 40 ∧ gma i = nI (sns i)) ∧ (∀ i, i < 8 → ∀ z, z < 40 → git (40 * i + z) = gis i z)
def rTape (b : Nat) (f : Hp) (tn : Nat) : Prop := ∃ (at_ wr : Int32) (g : Nat → Int32), f (b + 2) = some (oO 8 [.ref (b + 3), .int (nI tn), .int at_, .int wr]) ∧ f (b + 3) = some (oI 120 g) ∧ f (b + 93) = some (oI 120 g) ∧ tn ≤ 120
def rTrace (b : Nat) (f : Hp) (tt : Nat) : Prop := ∃ g : Nat → Int32, f (b + 4) = some (oO 9 [.ref (b + 5), .int (nI tt)]) ∧ f (b + 5) = some (oI 16 g) ∧ f (b + 98) = some (oI 16 g) ∧ tt ≤ 16
def rMain (b : Nat) (f : Hp) : Prop := ∃ (r : Nat → Int32) (lm : Nat → Int64), f (b + 88) = some (oI 48 r) ∧ f (b + 90) = some (oJ 13 lm) ∧ RR b f 12 r lm
def rTrial (b : Nat) (f : Hp) : Prop := RX b f 14 ∧ (∃ g : Nat → Int64, f (b + 94) = some (oJ 13 g)) ∧ ∃ g : Nat → Int32, f (b + 89) = some (oI 48 g)
def rImg (b : Nat) (f : Hp) : Prop := ∃ (gi : Nat → Option Nat) (gik gkp : Nat → Int32) (gkl : Nat → Int64), f (b + 6) = some (oR 3 2 gi) ∧ (∀ k, k < 2 → gi k = some (b + (32 + 2 * k))) ∧ f (b + 95) = some (oZ 2 gik) ∧ f (b + 96) = some (oI 96 gkp) ∧ f (b + 97) = some (oJ 26 gkl) ∧
  ∀ k, k < 2 → ∃ (r : Nat → Int32) (lm : Nat → Int64), RR b f (32 + 2 * k) r lm ∧ (gik k = 0 ↔ r 0 = nI 0) ∧ (¬ gik k = 0 → (∀ z, z < 48 → r z = gkp (48 * k + z)) ∧ ∀ z, z < 13 → lm z = gkl (13 * k + z))
def rActs (b : Nat) (f : Hp) (oa ak : Nat) : Prop := oa < 24 ∧ ak ≤ 24 ∧ ∃ (ga : Nat → Option Nat) (gwa : Nat → Int32) (gld : Nat → Int64), f (b + 7) = some (oR 3 24 ga) ∧ (∀ i, i < 24 → ga i = some (b + (36 + 2 * i))) ∧ f (b + 91) = some (oI 1152 gwa) ∧ f (b + 92) = some (oJ 312 gld) ∧ (∀ i, i < 24 → RX b f (36 + 2 * i)) ∧
  ∀ j, j < ak → RR b f (36 + 2 * ((oa + j) % 24)) (fun z => gwa (48 * j + z)) (fun z => gld (13 * j + z))
theorem rRows_c {b : Nat} {f f' : Hp} (h : rRows b f) (e : ∀ a, a = b + 1 ∨ b + 16 ≤ a ∧ a < b + 32 ∨ b + 85 ≤ a ∧ a < b + 88 → f' a = f a) : rRows b f' := by
  obtain ⟨mis, las, sns, gis, gr, gla, gma, git, h1, h2, h3, h4, h5, h6, h7, h8⟩ := h
  exact ⟨mis, las, sns, gis, gr, gla, gma, git, (e _ (by omega)).trans h1, h2, fun i hi => (e _ (by omega)).trans (h3 i hi), fun i hi => (e _ (by omega)).trans (h4 i hi), (e _ (by omega)).trans h5, (e _ (by omega)).trans h6, (e _ (by omega)).trans h7, h8⟩
theorem rTape_c {b : Nat} {f f' : Hp} {tn : Nat} (h : rTape b f tn) (e : ∀ a, a = b + 2 ∨ a = b + 3 ∨ a = b + 93 → f' a = f a) : rTape b f' tn := by
  obtain ⟨at_, wr, g, h1, h2, h3, h4⟩ := h
  exact ⟨at_, wr, g, (e _ (by omega)).trans h1, (e _ (by omega)).trans h2, (e _ (by omega)).trans h3, h4⟩
theorem rTrace_c {b : Nat} {f f' : Hp} {tt : Nat} (h : rTrace b f tt) (e : ∀ a, a = b + 4 ∨ a = b + 5 ∨ a = b + 98 → f' a = f a) : rTrace b f' tt := by
  obtain ⟨g, h1, h2, h3, h4⟩ := h
  exact ⟨g, (e _ (by omega)).trans h1, (e _ (by omega)).trans h2, (e _ (by omega)).trans h3, h4⟩
theorem rMain_c {b : Nat} {f f' : Hp} (h : rMain b f) (e : ∀ a, a = b + 12 ∨ a = b + 13 ∨ a = b + 88 ∨ a = b + 90 ∨ b + 8 ≤ a ∧ a < b + 12 ∨ b + 99 ≤ a → f' a = f a) : rMain b f' := by
  obtain ⟨r, lm, h1, h2, h3⟩ := h
  exact ⟨r, lm, (e _ (by omega)).trans h1, (e _ (by omega)).trans h2, RR_c h3 (fun a ha => e a (by unfold inL at ha; omega)) (fun _ _ => rfl) (fun _ _ => rfl)⟩
theorem rTrial_c {b : Nat} {f f' : Hp} (h : rTrial b f) (e : ∀ a, a = b + 14 ∨ a = b + 15 ∨ a = b + 89 ∨ a = b + 94 → f' a = f a) : rTrial b f' := by
  obtain ⟨h1, ⟨g1, h2⟩, g2, h3⟩ := h
  exact ⟨RX_c h1 (fun a ha => e a (by omega)), ⟨g1, (e _ (by omega)).trans h2⟩, g2, (e _ (by omega)).trans h3⟩
theorem rImg_c {b : Nat} {f f' : Hp} (h : rImg b f) (e : ∀ a, a = b + 6 ∨ b + 32 ≤ a ∧ a < b + 36 ∨ b + 95 ≤ a ∧ a < b + 98 ∨ b + 8 ≤ a ∧ a < b + 12 ∨ b + 99 ≤ a → f' a = f a) : rImg b f' := by
  obtain ⟨gi, gik, gkp, gkl, h1, h2, h3, h4, h5, h6⟩ := h
  refine ⟨gi, gik, gkp, gkl, (e _ (by omega)).trans h1, h2, (e _ (by omega)).trans h3, (e _ (by omega)).trans h4, (e _ (by omega)).trans h5, fun k hk => ?_⟩
  obtain ⟨r, lm, g1, g2⟩ := h6 k hk
  exact ⟨r, lm, RR_c g1 (fun a ha => e a (by unfold inL at ha; omega)) (fun _ _ => rfl) (fun _ _ => rfl), g2⟩
theorem rActs_c {b : Nat} {f f' : Hp} {oa ak : Nat} (h : rActs b f oa ak) (e : ∀ a, a = b + 7 ∨ b + 36 ≤ a ∧ a < b + 84 ∨ a = b + 91 ∨ a = b + 92 ∨ b + 8 ≤ a ∧ a < b + 12 ∨ b + 99 ≤ a → f' a = f a) : rActs b f' oa ak := by
  obtain ⟨h1, h2, ga, gwa, gld, h3, h4, h5, h6, h7, h8⟩ := h
  refine ⟨h1, h2, ga, gwa, gld, (e _ (by omega)).trans h3, h4, (e _ (by omega)).trans h5, (e _ (by omega)).trans h6, fun i hi => RX_c (h7 i hi) (fun a ha => e a (by omega)), fun j hj => ?_⟩
  have h24 : (oa + j) % 24 < 24 := Nat.mod_lt _ (by omega)
  exact RR_c (h8 j hj) (fun a ha => e a (by unfold inL at ha; omega)) (fun _ _ => rfl) (fun _ _ => rfl)
def RELp (b : Nat) (f : Hp) (sz oa ak tn tt : Nat) (fa fi : Int32) : Prop :=
  f b = some (xC b oa ak fa fi) ∧ (∃ th cu sr tk va ft fA : Int32, f (b + 84) = some (mC b th fi (nI ak) (nI tn) cu sr tk va ft fA fa (nI tt))) ∧ rRows b f ∧ rTape b f tn ∧ rTrace b f tt ∧ rMain b f ∧ rTrial b f ∧ rImg b f ∧ rActs b f oa ak ∧ b + 99 ≤ sz
def REL (b : Nat) (f : Hp) (sz : Nat) : Prop := ∃ (oa ak tn tt : Nat) (fa fi : Int32), RELp b f sz oa ak tn tt fa fi
/-- the model alone is another, by what nobody sees -/
theorem REL_m {b : Nat} {f : Hp} {sz oa ak tn tt : Nat} {fa fi : Int32} (h : RELp b f sz oa ak tn tt fa fi) {th cu sr tk va ft fA : Int32} : REL b (fx_up f (b + 84) (mC b th fi (nI ak) (nI tn) cu sr tk va ft fA fa (nI tt))) sz := by
  obtain ⟨h1, -, h3, h4, h5, h6, h7, h8, h9, h10⟩ := h
  have e : ∀ a, a ≠ b + 84 → fx_up f (b + 84) (mC b th fi (nI ak) (nI tn) cu sr tk va ft fA fa (nI tt)) a = f a := fun a ha => fx_up_n _ _ ha
  exact ⟨oa, ak, tn, tt, fa, fi, (e b (by omega)).trans h1, ⟨th, cu, sr, tk, va, ft, fA, fx_up_s _ _ _⟩, rRows_c h3 (fun a ha => e a (by omega)), rTape_c h4 (fun a ha => e a (by omega)), rTrace_c h5 (fun a ha => e a (by omega)), rMain_c h6 (fun a ha => e a (by omega)), rTrial_c h7 (fun a ha => e a (by omega)), rImg_c h8 (fun a ha => e a (by omega)), rActs_c h9 (fun a ha => e a (by omega)), h10⟩
/-- the findings are others -/
theorem REL_xm {b : Nat} {f : Hp} {sz oa ak tn tt : Nat} {fa fi : Int32} (h : RELp b f sz oa ak tn tt fa fi) {fj th cu sr tk va ft fA : Int32} : REL b (fx_up (fx_up f b (xC b oa ak fa fj)) (b + 84) (mC b th fj (nI ak) (nI tn) cu sr tk va ft fA fa (nI tt))) sz := by
  obtain ⟨h1, -, h3, h4, h5, h6, h7, h8, h9, h10⟩ := h
  have e : ∀ a, a ≠ b + 84 → a ≠ b → fx_up (fx_up f b (xC b oa ak fa fj)) (b + 84) (mC b th fj (nI ak) (nI tn) cu sr tk va ft fA fa (nI tt)) a = f a := fun a ha hb => (fx_up_n _ _ ha).trans (fx_up_n _ _ hb)
  exact ⟨oa, ak, tn, tt, fa, fj, (fx_up_n _ _ (by omega)).trans (fx_up_s _ _ _), ⟨th, cu, sr, tk, va, ft, fA, fx_up_s _ _ _⟩, rRows_c h3 (fun a ha => e a (by omega) (by omega)), rTape_c h4 (fun a ha => e a (by omega) (by omega)), rTrace_c h5 (fun a ha => e a (by omega) (by omega)), rMain_c h6 (fun a ha => e a (by omega) (by omega)), rTrial_c h7 (fun a ha => e a (by omega) (by omega)), rImg_c h8 (fun a ha => e a (by omega) (by omega)), rActs_c h9 (fun a ha => e a (by omega) (by omega)), h10⟩
/-- a call of the class, then the same call of the model: one answer -/
def opI (G : GG) (base : Nat) (l : Launch) (y y' : MethodName) (c c' : ByteArray) (n n' : Nat) (rm rm' : Room) (as : List Value) (b : Nat) (f : Hp) (sz : Nat) : Prop :=
  fx_MP G base l y c n (some .int) rm (.ref b :: as) f sz (fun v f' sz' => ∃ a : Int32, v = some (.int a) ∧ (∃ fs, f' (b + 84) = some (.inr (11, fs))) ∧ fx_MP G base l y' c' n' (some .int) rm' (.ref (b + 84) :: as) f' sz' (fun v' f'' sz'' => v' = some (.int a) ∧ REL b f'' sz''))
def opJ (G : GG) (base : Nat) (l : Launch) (y y' : MethodName) (c c' : ByteArray) (n n' : Nat) (rm rm' : Room) (as : List Value) (b : Nat) (f : Hp) (sz : Nat) : Prop :=
  fx_MP G base l y c n (some .long) rm (.ref b :: as) f sz (fun v f' sz' => ∃ a : Int64, v = some (.long a) ∧ (∃ fs, f' (b + 84) = some (.inr (11, fs))) ∧ fx_MP G base l y' c' n' (some .long) rm' (.ref (b + 84) :: as) f' sz' (fun v' f'' sz'' => v' = some (.long a) ∧ REL b f'' sz''))
/-- a cell behind an update elsewhere -/
theorem up_o {f : Hp} {a c : Nat} {e : CE} {x : Option CE} (h : f c = x) (hn : c ≠ a) : fx_up f a e c = x := (fx_up_n _ _ hn).trans h
