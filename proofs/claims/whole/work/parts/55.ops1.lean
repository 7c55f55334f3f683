/-! ===== calls, one after the other: rows, tape, small ones ===== -/
theorem rRows_up {b kk : Nat} {f f' : Hp} {mis las : Nat → Int32} {sns : Nat → Nat} {gis : Nat → Nat → Int32} {gr : Nat → Option Nat} {gla gma git : Nat → Int32} (hk : kk < 8) (hgr : ∀ i, i < 8 → gr i = some (b + (16 + 2 * i))) (hrow : ∀ i, i < 8 → f (b + (16 + 2 * i)) = some (oO 6 [.ref (b + (16 + 2 * i) + 1), .int (mis i), .int (las i), .int (nI (sns i))])) (hit : ∀ i, i < 8 → f (b + (16 + 2 * i) + 1) = some (oI 40 (gis i))) (hml : ∀ i, i < 8 → mis i = 0 ∧ gla i = las i ∧ 0 ≤ gla i ∨ ¬ mis i = 0 ∧ ¬ 0 ≤ gla i) (hsn : ∀ i, i < 8 → sns i ≤ 40 ∧ gma i = nI (sns i)) (hgi : ∀ i, i < 8 → ∀ z, z < 40 → git (40 * i + z) = gis i z)
    {mi la : Int32} {sn : Nat} {g gla' gma' git' : Nat → Int32} (h1 : f' (b + 1) = some (oR 4 8 gr)) (e : ∀ a, b + 16 ≤ a ∧ a < b + 32 → a ≠ b + (16 + 2 * kk) → a ≠ b + (16 + 2 * kk) + 1 → f' a = f a) (h2 : f' (b + (16 + 2 * kk)) = some (oO 6 [.ref (b + (16 + 2 * kk) + 1), .int mi, .int la, .int (nI sn)])) (h3 : f' (b + (16 + 2 * kk) + 1) = some (oI 40 g)) (h4 : f' (b + 85) = some (oI 8 gla')) (h5 : f' (b + 86) = some (oI 8 gma')) (h6 : f' (b + 87) = some (oI 320 git'))
    (g1 : mi = 0 ∧ gla' kk = la ∧ 0 ≤ gla' kk ∨ ¬ mi = 0 ∧ ¬ 0 ≤ gla' kk) (g2 : sn ≤ 40 ∧ gma' kk = nI sn) (g3 : ∀ z, z < 40 → git' (40 * kk + z) = g z) (o1 : ∀ i, i < 8 → i ≠ kk → gla' i = gla i ∧ gma' i = gma i ∧ ∀ z, z < 40 → git' (40 * i + z) = git (40 * i + z)) : rRows b f' := by
  refine ⟨fun i => if i = kk then mi else mis i, fun i => if i = kk then la else las i, fun i => if i = kk then sn else sns i, fun i => if i = kk then g else gis i, gr, gla', gma', git', h1, hgr, ?_, ?_, h4, h5, h6, ?_, ?_, ?_⟩
  · intro i hi
    by_cases q : i = kk
    · subst q; simpa using h2
    · simp only [if_neg q]; exact (e _ (by omega) (by omega) (by omega)).trans (hrow i hi)
  · intro i hi
    by_cases q : i = kk
    · subst q; simpa using h3
    · simp only [if_neg q]; exact (e _ (by omega) (by omega) (by omega)).trans (hit i hi)
  · intro i hi
    by_cases q : i = kk
    · subst q; simpa using g1
    · simp only [if_neg q]; rw [(o1 i hi q).1]; exact hml i hi
  · intro i hi
    by_cases q : i = kk
    · subst q; simpa using g2
    · simp only [if_neg q]; rw [(o1 i hi q).2.1]; exact hsn i hi
  · intro i hi z hz
    by_cases q : i = kk
    · subst q; simpa using g3 z hz
    · simp only [if_neg q]; rw [(o1 i hi q).2.2 z hz]; exact hgi i hi z hz
theorem pe_le0 {n : Int32} (h : (0 : Int32) ≤ n) : ¬ n < nI 0 := by
  show ¬ n < 0
  rw [fa_le] at h; rw [fa_lt]; omega
theorem pe_nle {n m : Int32} (h : n ≤ m) : ¬ m < n := by
  rw [fa_le] at h; rw [fa_lt]; omega
theorem pe_lt0 {n : Int32} (h : ¬ n < 0) : (0 : Int32) ≤ n := by
  rw [fa_lt] at h; rw [fa_le]; omega
theorem pe_cn {mis las gla : Nat → Int32} : ∀ {n : Nat}, (∀ i, i < n → mis i = 0 ∧ gla i = las i ∧ 0 ≤ gla i ∨ ¬ mis i = 0 ∧ ¬ 0 ≤ gla i) → cnL gla n = cnR mis n
  | 0, _ => rfl
  | n + 1, h => by
    rw [cnL, cnR, pe_cn (n := n) (fun i hi => h i (by omega))]
    rcases h n (by omega) with k | k
    · rw [if_pos k.2.2, if_pos k.1]
    · rw [if_neg k.2, if_neg k.1]
theorem pe_cp {gis : Nat → Nat → Int32} {git : Nat → Int32} {kk k2 ix jx n : Nat} (hk : kk < 8) (hk2 : k2 < 8) (hix : ix + n ≤ 40) (hjx : jx + n ≤ 40) (hgi : ∀ i, i < 8 → ∀ z, z < 40 → git (40 * i + z) = gis i z) : (∀ z, z < 40 → cpG git (40 * kk + ix) (40 * k2 + jx) 0 n (40 * k2 + z) = va_cpy (gis kk) (gis k2) ix jx n z) ∧ ∀ i, i < 8 → i ≠ k2 → ∀ z, z < 40 → cpG git (40 * kk + ix) (40 * k2 + jx) 0 n (40 * i + z) = git (40 * i + z) := by
  constructor
  · intro z hz
    unfold cpG va_cpy
    by_cases h : jx ≤ z ∧ z < jx + n
    · rw [if_pos (by omega), if_pos h, show 40 * kk + ix + (40 * k2 + z - (40 * k2 + jx)) = 40 * kk + (ix + (z - jx)) by omega]
      exact hgi kk hk _ (by omega)
    · rw [if_neg (by omega), if_neg h]; exact hgi k2 hk2 z hz
  · intro i hi hne z hz
    unfold cpG
    rw [if_neg (by omega)]
theorem pe_64 {x y : Int64} : ¬ x < y ↔ y ≤ x := by
  rw [fa_lt64, fa_le64]; omega
theorem pe_64' {x y : Int64} : ¬ y ≤ x ↔ x < y := by
  rw [fa_lt64, fa_le64]; omega
set_option maxHeartbeats 4000000 in
set_option maxRecDepth 100000 in
theorem op_row {G : GG} {base : Nat} {l : Launch} {b : Nat} {f : Hp} {sz : Nat} (h : REL b f sz) (r ln n : Int32) : opI G base l yX11_row yX12_row cX11_row cX12_row 5 5 rm_X11_row rm_X12_row [.int r, .int ln, .int n] b f sz := by
  obtain ⟨oa, ak, tn, tt, fa, fi, hR⟩ := h
  obtain ⟨h_x, ⟨th, cu, sr, tk, va, ft, fA, h_mo⟩, hRow, hTap, hTrc, hMai, hTri, hImg, hAct, hsz⟩ := id hR
  by_cases hr : ¬ r < nI 0 ∧ ¬ nI 7 < r
  case neg => exact c_X11_row_n h_x hr ⟨_, rfl, ⟨_, h_mo⟩, c_X12_row_n h_mo hr ⟨rfl, REL_m hR⟩⟩
  obtain ⟨kk, hkk, rfl⟩ := rng (N := 7) (by omega) hr.1 hr.2
  have hk8 : kk < 8 := by omega
  obtain ⟨mis, las, sns, gis, gr, gla, gma, git, h_ra, hgr, hrow, hit, h_la, h_ma, h_it, hml, hsn, hgi⟩ := id hRow

  refine c_X11_row_k h_x h_ra (hrow kk hk8) (hit kk hk8) hk8 (hgr kk hk8) (hsn kk hk8).1 ?_ ?_ ?_ ?_
  · intro c18
    refine ⟨_, rfl, ⟨_, h_mo⟩, c_X12_row_k h_mo h_la h_ma h_it (by omega) (by omega) (by omega) hk8 ?_ ?_ ?_ ?_⟩
    all_goals (intros; first | contradiction | omega | exact ⟨rfl, REL_m hR⟩)
  · intro c18 c24 c31
    refine ⟨_, rfl, ⟨_, (up_o (up_o (up_o (h_mo) (by omega)) (by omega)) (by omega))⟩, c_X12_row_k (up_o (up_o (up_o (h_mo) (by omega)) (by omega)) (by omega)) (up_o (up_o (up_o (h_la) (by omega)) (by omega)) (by omega)) (up_o (up_o (up_o (h_ma) (by omega)) (by omega)) (by omega)) (up_o (up_o (up_o (h_it) (by omega)) (by omega)) (by omega)) (by omega) (by omega) (by omega) hk8 (fun c21 => absurd c18 c21) ?_ (fun _ _ c39 => absurd c31 c39) (fun _ c27 => absurd c24 c27)⟩
    intro _ _ _ i1 hi1 c69
    have hi40 : i1 = 40 := by omega
    subst hi40
    obtain ⟨nn, hnn, rfl⟩ := rng (N := 40) (by omega) (pe_le0 c31) (pe_nle c24)
    exact ⟨rfl, ⟨oa, ak, tn, tt, fa, nI 0, (up_o (up_o (up_o (up_o (fx_up_s _ _ _) (by omega)) (by omega)) (by omega)) (by omega)), ⟨_, _, _, _, _, _, _, (up_o (up_o (up_o (fx_up_s _ _ _) (by omega)) (by omega)) (by omega))⟩, rRows_up hk8 hgr hrow hit hml hsn hgi (up_o (up_o (up_o (up_o (up_o (up_o (up_o (h_ra) (by omega)) (by omega)) (by omega)) (by omega)) (by omega)) (by omega)) (by omega)) (fun a ha h1 h2 => (fx_up_n _ _ (by omega)).trans ((fx_up_n _ _ (by omega)).trans ((fx_up_n _ _ (by omega)).trans ((fx_up_n _ _ (by omega)).trans ((fx_up_n _ _ (by omega)).trans ((fx_up_n _ _ (by omega)).trans ((fx_up_n _ _ (by omega)).trans (rfl)))))))) (up_o (up_o (up_o (up_o (up_o (up_o (fx_up_s _ _ _) (by omega)) (by omega)) (by omega)) (by omega)) (by omega)) (by omega)) (up_o (up_o (up_o (up_o (up_o (fx_up_s _ _ _) (by omega)) (by omega)) (by omega)) (by omega)) (by omega)) (up_o (up_o (fx_up_s _ _ _) (by omega)) (by omega)) (up_o (fx_up_s _ _ _) (by omega)) (fx_up_s _ _ _) (Or.inl ⟨rfl, pk_us, by rw [pk_us]; exact pe_lt0 c18.1⟩) (⟨hnn, pk_us⟩) (fun z hz => by rw [fI_at, fI_at, if_pos (by omega), if_pos (by omega)]) (fun i hi q => ⟨pk_un q, pk_un q, fun z hz => by rw [fI_at, if_neg (by omega)]⟩), rTape_c hTap (fun a ha => (fx_up_n _ _ (by omega)).trans ((fx_up_n _ _ (by omega)).trans ((fx_up_n _ _ (by omega)).trans ((fx_up_n _ _ (by omega)).trans ((fx_up_n _ _ (by omega)).trans ((fx_up_n _ _ (by omega)).trans ((fx_up_n _ _ (by omega)).trans (rfl)))))))), rTrace_c hTrc (fun a ha => (fx_up_n _ _ (by omega)).trans ((fx_up_n _ _ (by omega)).trans ((fx_up_n _ _ (by omega)).trans ((fx_up_n _ _ (by omega)).trans ((fx_up_n _ _ (by omega)).trans ((fx_up_n _ _ (by omega)).trans ((fx_up_n _ _ (by omega)).trans (rfl)))))))), rMain_c hMai (fun a ha => (fx_up_n _ _ (by omega)).trans ((fx_up_n _ _ (by omega)).trans ((fx_up_n _ _ (by omega)).trans ((fx_up_n _ _ (by omega)).trans ((fx_up_n _ _ (by omega)).trans ((fx_up_n _ _ (by omega)).trans ((fx_up_n _ _ (by omega)).trans (rfl)))))))), rTrial_c hTri (fun a ha => (fx_up_n _ _ (by omega)).trans ((fx_up_n _ _ (by omega)).trans ((fx_up_n _ _ (by omega)).trans ((fx_up_n _ _ (by omega)).trans ((fx_up_n _ _ (by omega)).trans ((fx_up_n _ _ (by omega)).trans ((fx_up_n _ _ (by omega)).trans (rfl)))))))), rImg_c hImg (fun a ha => (fx_up_n _ _ (by omega)).trans ((fx_up_n _ _ (by omega)).trans ((fx_up_n _ _ (by omega)).trans ((fx_up_n _ _ (by omega)).trans ((fx_up_n _ _ (by omega)).trans ((fx_up_n _ _ (by omega)).trans ((fx_up_n _ _ (by omega)).trans (rfl)))))))), rActs_c hAct (fun a ha => (fx_up_n _ _ (by omega)).trans ((fx_up_n _ _ (by omega)).trans ((fx_up_n _ _ (by omega)).trans ((fx_up_n _ _ (by omega)).trans ((fx_up_n _ _ (by omega)).trans ((fx_up_n _ _ (by omega)).trans ((fx_up_n _ _ (by omega)).trans (rfl)))))))), hsz⟩⟩
  · intro c18 c24 c31
    refine ⟨_, rfl, ⟨_, (up_o (h_mo) (by omega))⟩, c_X12_row_k (up_o (h_mo) (by omega)) (up_o (h_la) (by omega)) (up_o (h_ma) (by omega)) (up_o (h_it) (by omega)) (by omega) (by omega) (by omega) hk8 (fun c21 => absurd c18 c21) (fun _ _ c39 => absurd c39 c31) (fun _ _ _ => ⟨rfl, REL_xm hR⟩) (fun _ c27 => absurd c24 c27)⟩
  · intro c18 c24
    refine ⟨_, rfl, ⟨_, h_mo⟩, c_X12_row_k h_mo h_la h_ma h_it (by omega) (by omega) (by omega) hk8 ?_ ?_ ?_ ?_⟩
    all_goals (intros; first | contradiction | omega | exact ⟨rfl, REL_m hR⟩)
set_option maxHeartbeats 4000000 in
set_option maxRecDepth 100000 in
theorem op_set {G : GG} {base : Nat} {l : Launch} {b : Nat} {f : Hp} {sz : Nat} (h : REL b f sz) (r i v : Int32) : opI G base l yX11_set yX12_set cX11_set cX12_set 5 4 rm_X11_set rm_X12_set [.int r, .int i, .int v] b f sz := by
  obtain ⟨oa, ak, tn, tt, fa, fi, hR⟩ := h
  obtain ⟨h_x, ⟨th, cu, sr, tk, va, ft, fA, h_mo⟩, hRow, hTap, hTrc, hMai, hTri, hImg, hAct, hsz⟩ := id hR
  by_cases hr : ¬ r < nI 0 ∧ ¬ nI 7 < r
  case neg => exact c_X11_set_n h_x hr ⟨_, rfl, ⟨_, h_mo⟩, c_X12_set_n h_mo hr ⟨rfl, REL_m hR⟩⟩
  obtain ⟨kk, hkk, rfl⟩ := rng (N := 7) (by omega) hr.1 hr.2
  have hk8 : kk < 8 := by omega
  obtain ⟨mis, las, sns, gis, gr, gla, gma, git, h_ra, hgr, hrow, hit, h_la, h_ma, h_it, hml, hsn, hgi⟩ := id hRow

  refine c_X11_set_k h_x h_ra (hrow kk hk8) (hit kk hk8) hk8 (hgr kk hk8) (hsn kk hk8).1 ?_ ?_ ?_
  · intro c20 c36 ix hix hie
    subst hie
    have hla : mis kk = 0 ∧ gla kk = las kk ∧ 0 ≤ gla kk := (hml kk hk8).resolve_right (fun k => k.1 c20)
    have hin : ¬ nI ix < nI 0 ∧ ¬ nI (sns kk) - nI 1 < nI ix := rngS' (by have := (hsn kk hk8).1; omega) (by omega)
    have hs40 := (hsn kk hk8).1
    refine ⟨_, rfl, ⟨_, (up_o (up_o (h_mo) (by omega)) (by omega))⟩, c_X12_set_k (up_o (up_o (h_mo) (by omega)) (by omega)) (up_o (up_o (h_la) (by omega)) (by omega)) (up_o (up_o (h_ma) (by omega)) (by omega)) (up_o (up_o (h_it) (by omega)) (by omega)) (by omega) (by omega) (by omega) hk8 (hsn kk hk8).2 (hsn kk hk8).1 ?_ ?_ ?_ (fun _ k => absurd hin k) (fun k => absurd hla.2.2 k)⟩
    · intro _ _ ix2 hix2 hie2 n0 n1
      have e2 : ix = ix2 := (nI_eq (by omega) (by omega)).mp hie2
      subst e2
      have hpv : pv (las kk) v = v := by rw [pv, ← hla.2.1, if_neg n0, if_neg n1]
      exact ⟨by rw [hpv], ⟨oa, ak, tn, tt, fa, nI 0, (up_o (up_o (fx_up_s _ _ _) (by omega)) (by omega)), ⟨_, _, _, _, _, _, _, (up_o (fx_up_s _ _ _) (by omega))⟩, rRows_up hk8 hgr hrow hit hml hsn hgi (up_o (up_o (up_o (up_o (h_ra) (by omega)) (by omega)) (by omega)) (by omega)) (fun a ha h1 h2 => (fx_up_n _ _ (by omega)).trans ((fx_up_n _ _ (by omega)).trans ((fx_up_n _ _ (by omega)).trans ((fx_up_n _ _ (by omega)).trans (rfl))))) (up_o (up_o (up_o (up_o (hrow kk hk8) (by omega)) (by omega)) (by omega)) (by omega)) (up_o (up_o (up_o (fx_up_s _ _ _) (by omega)) (by omega)) (by omega)) (up_o (up_o (up_o (up_o (h_la) (by omega)) (by omega)) (by omega)) (by omega)) (up_o (up_o (up_o (up_o (h_ma) (by omega)) (by omega)) (by omega)) (by omega)) (fx_up_s _ _ _) (hml kk hk8) (hsn kk hk8) (fun z hz => by
      by_cases q : z = ix
      · subst q; rw [pk_us, pk_us, hpv]
      · rw [pk_un (by omega), pk_un q]; exact hgi kk hk8 z hz) (fun i hi q => ⟨rfl, rfl, fun z hz => pk_un (by omega)⟩), rTape_c hTap (fun a ha => (fx_up_n _ _ (by omega)).trans ((fx_up_n _ _ (by omega)).trans ((fx_up_n _ _ (by omega)).trans ((fx_up_n _ _ (by omega)).trans (rfl))))), rTrace_c hTrc (fun a ha => (fx_up_n _ _ (by omega)).trans ((fx_up_n _ _ (by omega)).trans ((fx_up_n _ _ (by omega)).trans ((fx_up_n _ _ (by omega)).trans (rfl))))), rMain_c hMai (fun a ha => (fx_up_n _ _ (by omega)).trans ((fx_up_n _ _ (by omega)).trans ((fx_up_n _ _ (by omega)).trans ((fx_up_n _ _ (by omega)).trans (rfl))))), rTrial_c hTri (fun a ha => (fx_up_n _ _ (by omega)).trans ((fx_up_n _ _ (by omega)).trans ((fx_up_n _ _ (by omega)).trans ((fx_up_n _ _ (by omega)).trans (rfl))))), rImg_c hImg (fun a ha => (fx_up_n _ _ (by omega)).trans ((fx_up_n _ _ (by omega)).trans ((fx_up_n _ _ (by omega)).trans ((fx_up_n _ _ (by omega)).trans (rfl))))), rActs_c hAct (fun a ha => (fx_up_n _ _ (by omega)).trans ((fx_up_n _ _ (by omega)).trans ((fx_up_n _ _ (by omega)).trans ((fx_up_n _ _ (by omega)).trans (rfl))))), hsz⟩⟩
    · intro _ _ ix2 hix2 hie2 n0 n1
      have e2 : ix = ix2 := (nI_eq (by omega) (by omega)).mp hie2
      subst e2
      have hpv : pv (las kk) v = v.toInt16.toInt32 := by rw [pv, ← hla.2.1, if_neg n0, if_pos n1]
      exact ⟨by rw [hpv], ⟨oa, ak, tn, tt, fa, nI 0, (up_o (up_o (fx_up_s _ _ _) (by omega)) (by omega)), ⟨_, _, _, _, _, _, _, (up_o (fx_up_s _ _ _) (by omega))⟩, rRows_up hk8 hgr hrow hit hml hsn hgi (up_o (up_o (up_o (up_o (h_ra) (by omega)) (by omega)) (by omega)) (by omega)) (fun a ha h1 h2 => (fx_up_n _ _ (by omega)).trans ((fx_up_n _ _ (by omega)).trans ((fx_up_n _ _ (by omega)).trans ((fx_up_n _ _ (by omega)).trans (rfl))))) (up_o (up_o (up_o (up_o (hrow kk hk8) (by omega)) (by omega)) (by omega)) (by omega)) (up_o (up_o (up_o (fx_up_s _ _ _) (by omega)) (by omega)) (by omega)) (up_o (up_o (up_o (up_o (h_la) (by omega)) (by omega)) (by omega)) (by omega)) (up_o (up_o (up_o (up_o (h_ma) (by omega)) (by omega)) (by omega)) (by omega)) (fx_up_s _ _ _) (hml kk hk8) (hsn kk hk8) (fun z hz => by
      by_cases q : z = ix
      · subst q; rw [pk_us, pk_us, hpv]
      · rw [pk_un (by omega), pk_un q]; exact hgi kk hk8 z hz) (fun i hi q => ⟨rfl, rfl, fun z hz => pk_un (by omega)⟩), rTape_c hTap (fun a ha => (fx_up_n _ _ (by omega)).trans ((fx_up_n _ _ (by omega)).trans ((fx_up_n _ _ (by omega)).trans ((fx_up_n _ _ (by omega)).trans (rfl))))), rTrace_c hTrc (fun a ha => (fx_up_n _ _ (by omega)).trans ((fx_up_n _ _ (by omega)).trans ((fx_up_n _ _ (by omega)).trans ((fx_up_n _ _ (by omega)).trans (rfl))))), rMain_c hMai (fun a ha => (fx_up_n _ _ (by omega)).trans ((fx_up_n _ _ (by omega)).trans ((fx_up_n _ _ (by omega)).trans ((fx_up_n _ _ (by omega)).trans (rfl))))), rTrial_c hTri (fun a ha => (fx_up_n _ _ (by omega)).trans ((fx_up_n _ _ (by omega)).trans ((fx_up_n _ _ (by omega)).trans ((fx_up_n _ _ (by omega)).trans (rfl))))), rImg_c hImg (fun a ha => (fx_up_n _ _ (by omega)).trans ((fx_up_n _ _ (by omega)).trans ((fx_up_n _ _ (by omega)).trans ((fx_up_n _ _ (by omega)).trans (rfl))))), rActs_c hAct (fun a ha => (fx_up_n _ _ (by omega)).trans ((fx_up_n _ _ (by omega)).trans ((fx_up_n _ _ (by omega)).trans ((fx_up_n _ _ (by omega)).trans (rfl))))), hsz⟩⟩
    · intro _ _ ix2 hix2 hie2 n0
      have e2 : ix = ix2 := (nI_eq (by omega) (by omega)).mp hie2
      subst e2
      have hpv : pv (las kk) v = v.toInt8.toInt32 := by rw [pv, ← hla.2.1, if_pos n0]
      exact ⟨by rw [hpv], ⟨oa, ak, tn, tt, fa, nI 0, (up_o (up_o (fx_up_s _ _ _) (by omega)) (by omega)), ⟨_, _, _, _, _, _, _, (up_o (fx_up_s _ _ _) (by omega))⟩, rRows_up hk8 hgr hrow hit hml hsn hgi (up_o (up_o (up_o (up_o (h_ra) (by omega)) (by omega)) (by omega)) (by omega)) (fun a ha h1 h2 => (fx_up_n _ _ (by omega)).trans ((fx_up_n _ _ (by omega)).trans ((fx_up_n _ _ (by omega)).trans ((fx_up_n _ _ (by omega)).trans (rfl))))) (up_o (up_o (up_o (up_o (hrow kk hk8) (by omega)) (by omega)) (by omega)) (by omega)) (up_o (up_o (up_o (fx_up_s _ _ _) (by omega)) (by omega)) (by omega)) (up_o (up_o (up_o (up_o (h_la) (by omega)) (by omega)) (by omega)) (by omega)) (up_o (up_o (up_o (up_o (h_ma) (by omega)) (by omega)) (by omega)) (by omega)) (fx_up_s _ _ _) (hml kk hk8) (hsn kk hk8) (fun z hz => by
      by_cases q : z = ix
      · subst q; rw [pk_us, pk_us, hpv]
      · rw [pk_un (by omega), pk_un q]; exact hgi kk hk8 z hz) (fun i hi q => ⟨rfl, rfl, fun z hz => pk_un (by omega)⟩), rTape_c hTap (fun a ha => (fx_up_n _ _ (by omega)).trans ((fx_up_n _ _ (by omega)).trans ((fx_up_n _ _ (by omega)).trans ((fx_up_n _ _ (by omega)).trans (rfl))))), rTrace_c hTrc (fun a ha => (fx_up_n _ _ (by omega)).trans ((fx_up_n _ _ (by omega)).trans ((fx_up_n _ _ (by omega)).trans ((fx_up_n _ _ (by omega)).trans (rfl))))), rMain_c hMai (fun a ha => (fx_up_n _ _ (by omega)).trans ((fx_up_n _ _ (by omega)).trans ((fx_up_n _ _ (by omega)).trans ((fx_up_n _ _ (by omega)).trans (rfl))))), rTrial_c hTri (fun a ha => (fx_up_n _ _ (by omega)).trans ((fx_up_n _ _ (by omega)).trans ((fx_up_n _ _ (by omega)).trans ((fx_up_n _ _ (by omega)).trans (rfl))))), rImg_c hImg (fun a ha => (fx_up_n _ _ (by omega)).trans ((fx_up_n _ _ (by omega)).trans ((fx_up_n _ _ (by omega)).trans ((fx_up_n _ _ (by omega)).trans (rfl))))), rActs_c hAct (fun a ha => (fx_up_n _ _ (by omega)).trans ((fx_up_n _ _ (by omega)).trans ((fx_up_n _ _ (by omega)).trans ((fx_up_n _ _ (by omega)).trans (rfl))))), hsz⟩⟩
  · intro c20 c36
    have hla : mis kk = 0 ∧ gla kk = las kk ∧ 0 ≤ gla kk := (hml kk hk8).resolve_right (fun k => k.1 c20)
    have hin : ¬ (¬ i < nI 0 ∧ ¬ nI (sns kk) - nI 1 < i) := fun k => by
      have hs40 := (hsn kk hk8).1
      obtain ⟨ix, hix, rfl⟩ := rngS (by omega) k
      exact c36 (hldN (by omega) (by omega) (by omega) (by omega))
    exact ⟨_, rfl, ⟨_, (up_o (h_mo) (by omega))⟩, c_X12_set_k (up_o (h_mo) (by omega)) (up_o (h_la) (by omega)) (up_o (h_ma) (by omega)) (up_o (h_it) (by omega)) (by omega) (by omega) (by omega) hk8 (hsn kk hk8).2 (hsn kk hk8).1 (fun _ k => absurd k hin) (fun _ k => absurd k hin) (fun _ k => absurd k hin) (fun _ _ => ⟨rfl, REL_xm hR⟩) (fun k => absurd hla.2.2 k)⟩
  · intro c20
    have hla : ¬ 0 ≤ gla kk := ((hml kk hk8).resolve_left (fun k => c20 k.1)).2
    exact ⟨_, rfl, ⟨_, (up_o (h_mo) (by omega))⟩, c_X12_set_k (up_o (h_mo) (by omega)) (up_o (h_la) (by omega)) (up_o (h_ma) (by omega)) (up_o (h_it) (by omega)) (by omega) (by omega) (by omega) hk8 (hsn kk hk8).2 (hsn kk hk8).1 (fun k => absurd k hla) (fun k => absurd k hla) (fun k => absurd k hla) (fun k => absurd k hla) (fun _ => ⟨rfl, REL_xm hR⟩)⟩
set_option maxHeartbeats 4000000 in
set_option maxRecDepth 100000 in
theorem op_drop {G : GG} {base : Nat} {l : Launch} {b : Nat} {f : Hp} {sz : Nat} (h : REL b f sz) (r : Int32) : opI G base l yX11_drop yX12_drop cX11_drop cX12_drop 3 2 rm_X11_drop rm_X12_drop [.int r] b f sz := by
  obtain ⟨oa, ak, tn, tt, fa, fi, hR⟩ := h
  obtain ⟨h_x, ⟨th, cu, sr, tk, va, ft, fA, h_mo⟩, hRow, hTap, hTrc, hMai, hTri, hImg, hAct, hsz⟩ := id hR
  by_cases hr : ¬ r < nI 0 ∧ ¬ nI 7 < r
  case neg => exact c_X11_drop_n h_x hr ⟨_, rfl, ⟨_, h_mo⟩, c_X12_drop_n h_mo hr ⟨rfl, REL_m hR⟩⟩
  obtain ⟨kk, hkk, rfl⟩ := rng (N := 7) (by omega) hr.1 hr.2
  have hk8 : kk < 8 := by omega
  obtain ⟨mis, las, sns, gis, gr, gla, gma, git, h_ra, hgr, hrow, hit, h_la, h_ma, h_it, hml, hsn, hgi⟩ := id hRow

  refine c_X11_drop_k h_x h_ra (hrow kk hk8) (hit kk hk8) hk8 (hgr kk hk8) (hsn kk hk8).1 ?_ ?_
  · intro c20
    have hla : mis kk = 0 ∧ gla kk = las kk ∧ 0 ≤ gla kk := (hml kk hk8).resolve_right (fun k => k.1 c20)
    refine ⟨_, rfl, ⟨_, (up_o (up_o (h_mo) (by omega)) (by omega))⟩, c_X12_drop_k (up_o (up_o (h_mo) (by omega)) (by omega)) (up_o (up_o (h_la) (by omega)) (by omega)) (up_o (up_o (h_ma) (by omega)) (by omega)) (by omega) hk8 ?_ (fun k => absurd hla.2.2 k)⟩
    intro _
    exact ⟨by rw [(hsn kk hk8).2], ⟨oa, ak, tn, tt, fa, nI 0, (up_o (up_o (fx_up_s _ _ _) (by omega)) (by omega)), ⟨_, _, _, _, _, _, _, (up_o (fx_up_s _ _ _) (by omega))⟩, rRows_up hk8 hgr hrow hit hml hsn hgi (up_o (up_o (up_o (up_o (h_ra) (by omega)) (by omega)) (by omega)) (by omega)) (fun a ha h1 h2 => (fx_up_n _ _ (by omega)).trans ((fx_up_n _ _ (by omega)).trans ((fx_up_n _ _ (by omega)).trans ((fx_up_n _ _ (by omega)).trans (rfl))))) (up_o (up_o (up_o (fx_up_s _ _ _) (by omega)) (by omega)) (by omega)) (up_o (up_o (up_o (up_o (hit kk hk8) (by omega)) (by omega)) (by omega)) (by omega)) (fx_up_s _ _ _) (up_o (up_o (up_o (up_o (h_ma) (by omega)) (by omega)) (by omega)) (by omega)) (up_o (up_o (up_o (up_o (h_it) (by omega)) (by omega)) (by omega)) (by omega)) (Or.inr ⟨by decide, by rw [pk_us]; decide⟩) (hsn kk hk8) (hgi kk hk8) (fun i hi q => ⟨pk_un q, rfl, fun z hz => rfl⟩), rTape_c hTap (fun a ha => (fx_up_n _ _ (by omega)).trans ((fx_up_n _ _ (by omega)).trans ((fx_up_n _ _ (by omega)).trans ((fx_up_n _ _ (by omega)).trans (rfl))))), rTrace_c hTrc (fun a ha => (fx_up_n _ _ (by omega)).trans ((fx_up_n _ _ (by omega)).trans ((fx_up_n _ _ (by omega)).trans ((fx_up_n _ _ (by omega)).trans (rfl))))), rMain_c hMai (fun a ha => (fx_up_n _ _ (by omega)).trans ((fx_up_n _ _ (by omega)).trans ((fx_up_n _ _ (by omega)).trans ((fx_up_n _ _ (by omega)).trans (rfl))))), rTrial_c hTri (fun a ha => (fx_up_n _ _ (by omega)).trans ((fx_up_n _ _ (by omega)).trans ((fx_up_n _ _ (by omega)).trans ((fx_up_n _ _ (by omega)).trans (rfl))))), rImg_c hImg (fun a ha => (fx_up_n _ _ (by omega)).trans ((fx_up_n _ _ (by omega)).trans ((fx_up_n _ _ (by omega)).trans ((fx_up_n _ _ (by omega)).trans (rfl))))), rActs_c hAct (fun a ha => (fx_up_n _ _ (by omega)).trans ((fx_up_n _ _ (by omega)).trans ((fx_up_n _ _ (by omega)).trans ((fx_up_n _ _ (by omega)).trans (rfl))))), hsz⟩⟩
  · intro c20
    have hla : ¬ 0 ≤ gla kk := ((hml kk hk8).resolve_left (fun k => c20 k.1)).2
    exact ⟨_, rfl, ⟨_, (up_o (h_mo) (by omega))⟩, c_X12_drop_k (up_o (h_mo) (by omega)) (up_o (h_la) (by omega)) (up_o (h_ma) (by omega)) (by omega) hk8 (fun k => absurd k hla) (fun _ => ⟨rfl, REL_xm hR⟩)⟩
set_option maxHeartbeats 4000000 in
set_option maxRecDepth 100000 in
theorem op_feed {G : GG} {base : Nat} {l : Launch} {b : Nat} {f : Hp} {sz : Nat} (h : REL b f sz) (bt : Int32) : opI G base l yX11_feed yX12_feed cX11_feed cX12_feed 2 2 rm_X11_feed rm_X12_feed [.int bt] b f sz := by
  obtain ⟨oa, ak, tn, tt, fa, fi, hR⟩ := h
  obtain ⟨h_x, ⟨th, cu, sr, tk, va, ft, fA, h_mo⟩, hRow, hTap, hTrc, hMai, hTri, hImg, hAct, hsz⟩ := id hR
  obtain ⟨at_, wr, g, h_tp, h_by, h_tq, htn⟩ := id hTap
  refine c_X11_feed h_x h_tp h_by htn ?_ ?_ ?_
  · intro c8 c23
    refine ⟨_, rfl, ⟨_, (up_o (up_o (h_mo) (by omega)) (by omega))⟩, c_X12_feed (up_o (up_o (h_mo) (by omega)) (by omega)) (up_o (up_o (h_tq) (by omega)) (by omega)) htn ?_ (fun _ k => absurd k (by omega)) (fun k => absurd c8 k)⟩
    intro _ _
    exact ⟨rfl, ⟨oa, ak, tn + 1, tt, fa, fi, (up_o (up_o (up_o (up_o (h_x) (by omega)) (by omega)) (by omega)) (by omega)), ⟨_, _, _, _, _, _, _, (up_o (fx_up_s _ _ _) (by omega))⟩, rRows_c hRow (fun a ha => (fx_up_n _ _ (by omega)).trans ((fx_up_n _ _ (by omega)).trans ((fx_up_n _ _ (by omega)).trans ((fx_up_n _ _ (by omega)).trans (rfl))))), ⟨at_, wr, upd g tn bt, (up_o (up_o (fx_up_s _ _ _) (by omega)) (by omega)), (up_o (up_o (up_o (fx_up_s _ _ _) (by omega)) (by omega)) (by omega)), (fx_up_s _ _ _), by omega⟩, rTrace_c hTrc (fun a ha => (fx_up_n _ _ (by omega)).trans ((fx_up_n _ _ (by omega)).trans ((fx_up_n _ _ (by omega)).trans ((fx_up_n _ _ (by omega)).trans (rfl))))), rMain_c hMai (fun a ha => (fx_up_n _ _ (by omega)).trans ((fx_up_n _ _ (by omega)).trans ((fx_up_n _ _ (by omega)).trans ((fx_up_n _ _ (by omega)).trans (rfl))))), rTrial_c hTri (fun a ha => (fx_up_n _ _ (by omega)).trans ((fx_up_n _ _ (by omega)).trans ((fx_up_n _ _ (by omega)).trans ((fx_up_n _ _ (by omega)).trans (rfl))))), rImg_c hImg (fun a ha => (fx_up_n _ _ (by omega)).trans ((fx_up_n _ _ (by omega)).trans ((fx_up_n _ _ (by omega)).trans ((fx_up_n _ _ (by omega)).trans (rfl))))), rActs_c hAct (fun a ha => (fx_up_n _ _ (by omega)).trans ((fx_up_n _ _ (by omega)).trans ((fx_up_n _ _ (by omega)).trans ((fx_up_n _ _ (by omega)).trans (rfl))))), hsz⟩⟩
  · intro c8 c23
    exact ⟨_, rfl, ⟨_, h_mo⟩, c_X12_feed h_mo h_tq htn (fun _ k => absurd (show tn = 120 by omega) k) (fun _ _ => ⟨rfl, REL_m hR⟩) (fun k => absurd c8 k)⟩
  · intro c8
    exact ⟨_, rfl, ⟨_, h_mo⟩, c_X12_feed h_mo h_tq htn (fun k => absurd k c8) (fun k => absurd k c8) (fun _ => ⟨rfl, REL_m hR⟩)⟩
set_option maxHeartbeats 4000000 in
set_option maxRecDepth 100000 in
theorem op_fault {G : GG} {base : Nat} {l : Launch} {b : Nat} {f : Hp} {sz : Nat} (h : REL b f sz)  : opI G base l yX11_fault yX12_fault cX11_fault cX12_fault 1 1 rm_X11_fault rm_X12_fault [] b f sz := by
  obtain ⟨oa, ak, tn, tt, fa, fi, hR⟩ := h
  obtain ⟨h_x, ⟨th, cu, sr, tk, va, ft, fA, h_mo⟩, hRow, hTap, hTrc, hMai, hTri, hImg, hAct, hsz⟩ := id hR
  exact c_X11_fault h_x ⟨_, rfl, ⟨_, h_mo⟩, c_X12_fault h_mo ⟨rfl, REL_m hR⟩⟩
set_option maxHeartbeats 4000000 in
set_option maxRecDepth 100000 in
theorem op_status {G : GG} {base : Nat} {l : Launch} {b : Nat} {f : Hp} {sz : Nat} (h : REL b f sz)  : opI G base l yX11_status yX12_status cX11_status cX12_status 1 1 rm_X11_status rm_X12_status [] b f sz := by
  obtain ⟨oa, ak, tn, tt, fa, fi, hR⟩ := h
  obtain ⟨h_x, ⟨th, cu, sr, tk, va, ft, fA, h_mo⟩, hRow, hTap, hTrc, hMai, hTri, hImg, hAct, hsz⟩ := id hR
  exact c_X11_status h_x ⟨_, rfl, ⟨_, h_mo⟩, c_X12_status h_mo ⟨rfl, REL_m hR⟩⟩
set_option maxHeartbeats 4000000 in
set_option maxRecDepth 100000 in
theorem op_width {G : GG} {base : Nat} {l : Launch} {b : Nat} {f : Hp} {sz : Nat} (h : REL b f sz) (w sl sd n : Int32) : opI G base l yX11_width yX12_width cX11_width cX12_width 5 5 rm_X11_width rm_X12_width [.int w, .int sl, .int sd, .int n] b f sz := by
  obtain ⟨oa, ak, tn, tt, fa, fi, hR⟩ := h
  obtain ⟨h_x, ⟨th, cu, sr, tk, va, ft, fA, h_mo⟩, hRow, hTap, hTrc, hMai, hTri, hImg, hAct, hsz⟩ := id hR
  refine c_X11_width ?_ ?_ ?_
  · intro c6
    exact ⟨_, rfl, ⟨_, h_mo⟩, c_X12_width h_mo (fun _ => ⟨rfl, REL_m hR⟩) (fun k => absurd k c6) (fun k => absurd k c6)⟩
  · intro c6 c17
    refine ⟨_, rfl, ⟨_, h_mo⟩, c_X12_width h_mo (fun k => absurd c6 k) (fun _ k => absurd c17 k) (fun _ _ => ⟨?_, REL_m hR⟩)⟩
    obtain ⟨x1, x2, x3, y1, y2, y3, rfl, rfl, rfl⟩ := spl3 c6
    obtain ⟨nn, hnn, rfl⟩ := rng (N := 40) (by omega) c17.1 c17.2
    rw [wdN_c (by omega) (by omega) y3 hnn, wdN_m (by omega) (by omega) y3 hnn]
  · intro c6 c17
    exact ⟨_, rfl, ⟨_, h_mo⟩, c_X12_width h_mo (fun k => absurd c6 k) (fun _ _ => ⟨rfl, REL_m hR⟩) (fun _ k => absurd k c17)⟩
set_option maxHeartbeats 4000000 in
set_option maxRecDepth 100000 in
theorem op_lost {G : GG} {base : Nat} {l : Launch} {b : Nat} {f : Hp} {sz : Nat} (h : REL b f sz) (w sl sd : Int32) : opI G base l yX11_lost yX12_lost cX11_lost cX12_lost 7 6 rm_X11_lost rm_X12_lost [.int w, .int sl, .int sd] b f sz := by
  obtain ⟨oa, ak, tn, tt, fa, fi, hR⟩ := h
  obtain ⟨h_x, ⟨th, cu, sr, tk, va, ft, fA, h_mo⟩, hRow, hTap, hTrc, hMai, hTri, hImg, hAct, hsz⟩ := id hR
  refine c_X11_lost ?_ ?_ ?_ ?_
  · intro c6 a_ b_ d_ ha_ hb_ hd_ ea_ eb_ ed_ i1 hi1 hall c22
    exact absurd (hall 19 (by omega)) (fun k => by have := wdN_19 (d := d_) ha_.1 ha_.2 hb_.1; omega)
  · intro c6 a_ b_ d_ ha_ hb_ hd_ ea_ eb_ ed_ i1 hi1 hall c22 c37
    exact ⟨_, rfl, ⟨_, h_mo⟩, c_X12_lost h_mo (fun _ a2 b2 d2 x1 x2 x3 e1 e2 e3 i2 h2 c39 => by
      have k1 := (nI_eq (by omega) (by omega)).mp (ea_.symm.trans e1)
      have k2 := (nI_eq (by omega) (by omega)).mp (eb_.symm.trans e2)
      have k3 := (nI_eq (by omega) (by omega)).mp (ed_.symm.trans e3)
      subst k1; subst k2; subst k3
      have hii : i1 = i2 := pe_first (p := fun z => 1 ≤ wdN a_ b_ d_ z ∧ wdN a_ b_ d_ z ≤ 19) (fun z hz => by have := hall z hz; exact ⟨by omega, by omega⟩) (fun k => absurd k.1 (by omega)) h2 c39
      rw [hii]; exact ⟨rfl, REL_m hR⟩) (fun k => absurd c6 k)⟩
  · intro c6 a_ b_ d_ ha_ hb_ hd_ ea_ eb_ ed_ i1 hi1 hall c22 c37 c44
    exact ⟨_, rfl, ⟨_, h_mo⟩, c_X12_lost h_mo (fun _ a2 b2 d2 x1 x2 x3 e1 e2 e3 i2 h2 c39 => by
      have k1 := (nI_eq (by omega) (by omega)).mp (ea_.symm.trans e1)
      have k2 := (nI_eq (by omega) (by omega)).mp (eb_.symm.trans e2)
      have k3 := (nI_eq (by omega) (by omega)).mp (ed_.symm.trans e3)
      subst k1; subst k2; subst k3
      have hii : i1 = i2 := pe_first (p := fun z => 1 ≤ wdN a_ b_ d_ z ∧ wdN a_ b_ d_ z ≤ 19) (fun z hz => by have := hall z hz; exact ⟨by omega, by omega⟩) (fun k => absurd k.2 (by omega)) h2 c39
      rw [hii]; exact ⟨rfl, REL_m hR⟩) (fun k => absurd c6 k)⟩
  · intro c6
    exact ⟨_, rfl, ⟨_, h_mo⟩, c_X12_lost h_mo (fun k => absurd k c6) (fun _ => ⟨rfl, REL_m hR⟩)⟩
set_option maxHeartbeats 4000000 in
set_option maxRecDepth 100000 in
theorem op_trace {G : GG} {base : Nat} {l : Launch} {b : Nat} {f : Hp} {sz : Nat} (h : REL b f sz) (i : Int32) : opI G base l yX11_trace yX12_trace cX11_trace cX12_trace 2 2 rm_X11_trace rm_X12_trace [.int i] b f sz := by
  obtain ⟨oa, ak, tn, tt, fa, fi, hR⟩ := h
  obtain ⟨h_x, ⟨th, cu, sr, tk, va, ft, fA, h_mo⟩, hRow, hTap, hTrc, hMai, hTri, hImg, hAct, hsz⟩ := id hR
  obtain ⟨g, h_tc, h_u, h_tm, htt⟩ := id hTrc
  refine c_X11_trace h_x h_tc h_u htt ?_ ?_
  · intro c14
    exact ⟨_, rfl, ⟨_, h_mo⟩, c_X12_trace h_mo h_tm htt (fun _ => ⟨rfl, REL_m hR⟩) (fun k => absurd k c14)⟩
  · intro c14 ix hix hie
    refine ⟨_, rfl, ⟨_, h_mo⟩, c_X12_trace h_mo h_tm htt (fun k => absurd c14 k) (fun _ i2 h2 e2 => ?_)⟩
    have k1 := (nI_eq (by omega) (by omega)).mp (hie.symm.trans e2)
    subst k1
    exact ⟨rfl, REL_m hR⟩
set_option maxHeartbeats 4000000 in
set_option maxRecDepth 100000 in
theorem op_count {G : GG} {base : Nat} {l : Launch} {b : Nat} {f : Hp} {sz : Nat} (h : REL b f sz) (wh : Int32) : opI G base l yX11_count yX12_count cX11_count cX12_count 2 4 rm_X11_count rm_X12_count [.int wh] b f sz := by
  obtain ⟨oa, ak, tn, tt, fa, fi, hR⟩ := h
  obtain ⟨h_x, ⟨th, cu, sr, tk, va, ft, fA, h_mo⟩, hRow, hTap, hTrc, hMai, hTri, hImg, hAct, hsz⟩ := id hR
  obtain ⟨mis, las, sns, gis, gr, gla, gma, git, h_ra, hgr, hrow, hit, h_la, h_ma, h_it, hml, hsn, hgi⟩ := id hRow
  obtain ⟨rho, lam, h_rl, h_li, w, pl, to, lf, wy, se, ta, q, P, wt, ch, sk, st, mi, ri, tl, ov, gw, gc, gs, os, Ks, wis, ags, wn, cvf, v, h_ro, h_k, hLW, hRO⟩ := id hMai
  obtain ⟨⟨h_w, h_wt, h_ch, h_sk⟩, ⟨iw, iwt, ich, isk, hwc⟩, ⟨r0, r1, r2, r3, r4, r5⟩, ⟨hPt, htl, hst, hmi⟩, hwn, hcf, hsk⟩ := id hLW
  have hP12 : P ≤ 12 := LW_P hLW

  obtain ⟨at_, wr, g, h_tp, h_by, h_tq, htn⟩ := id hTap
  refine c_X11_count (ad := fun i => b + (16 + 2 * i)) (it := fun i => b + (16 + 2 * i) + 1) (mis := mis) (las := las) (sis := fun i => nI (sns i)) h_x h_ro h_w h_ra h_tp hgr hrow ?_ ?_ ?_ ?_ ?_ ?_ ?_
  · intro s0
    exact ⟨_, rfl, ⟨_, h_mo⟩, c_X12_count h_mo h_la h_rl (by omega) (fun _ i1 hi1 c53 => ⟨by rw [show i1 = 8 from (by omega), pe_cn hml], REL_m hR⟩) (fun k => absurd (s0.symm.trans k) (by decide)) (fun k => absurd (s0.symm.trans k) (by decide)) (fun k => absurd (s0.symm.trans k) (by decide)) (fun k => absurd (s0.symm.trans k) (by decide)) (fun k => absurd (s0.symm.trans k) (by decide)) (fun n0 n1 n2 n3 n4 n5 => absurd s0 n0)⟩
  · intro s0
    exact ⟨_, rfl, ⟨_, h_mo⟩, c_X12_count h_mo h_la h_rl (by omega) (fun k => absurd (s0.symm.trans k) (by decide)) (fun _ => ⟨by rw [r0], REL_m hR⟩) (fun k => absurd (s0.symm.trans k) (by decide)) (fun k => absurd (s0.symm.trans k) (by decide)) (fun k => absurd (s0.symm.trans k) (by decide)) (fun k => absurd (s0.symm.trans k) (by decide)) (fun n0 n1 n2 n3 n4 n5 => absurd s0 n1)⟩
  · intro s0
    exact ⟨_, rfl, ⟨_, h_mo⟩, c_X12_count h_mo h_la h_rl (by omega) (fun k => absurd (s0.symm.trans k) (by decide)) (fun k => absurd (s0.symm.trans k) (by decide)) (fun _ => ⟨by rw [r4], REL_m hR⟩) (fun k => absurd (s0.symm.trans k) (by decide)) (fun k => absurd (s0.symm.trans k) (by decide)) (fun k => absurd (s0.symm.trans k) (by decide)) (fun n0 n1 n2 n3 n4 n5 => absurd s0 n2)⟩
  · intro s0
    exact ⟨_, rfl, ⟨_, h_mo⟩, c_X12_count h_mo h_la h_rl (by omega) (fun k => absurd (s0.symm.trans k) (by decide)) (fun k => absurd (s0.symm.trans k) (by decide)) (fun k => absurd (s0.symm.trans k) (by decide)) (fun _ => ⟨by rw [r5], REL_m hR⟩) (fun k => absurd (s0.symm.trans k) (by decide)) (fun k => absurd (s0.symm.trans k) (by decide)) (fun n0 n1 n2 n3 n4 n5 => absurd s0 n3)⟩
  · intro s0
    exact ⟨_, rfl, ⟨_, h_mo⟩, c_X12_count h_mo h_la h_rl (by omega) (fun k => absurd (s0.symm.trans k) (by decide)) (fun k => absurd (s0.symm.trans k) (by decide)) (fun k => absurd (s0.symm.trans k) (by decide)) (fun k => absurd (s0.symm.trans k) (by decide)) (fun _ => ⟨rfl, REL_m hR⟩) (fun k => absurd (s0.symm.trans k) (by decide)) (fun n0 n1 n2 n3 n4 n5 => absurd s0 n4)⟩
  · intro s0
    exact ⟨_, rfl, ⟨_, h_mo⟩, c_X12_count h_mo h_la h_rl (by omega) (fun k => absurd (s0.symm.trans k) (by decide)) (fun k => absurd (s0.symm.trans k) (by decide)) (fun k => absurd (s0.symm.trans k) (by decide)) (fun k => absurd (s0.symm.trans k) (by decide)) (fun k => absurd (s0.symm.trans k) (by decide)) (fun _ => ⟨rfl, REL_m hR⟩) (fun n0 n1 n2 n3 n4 n5 => absurd s0 n5)⟩
  · intro n0 n1 n2 n3 n4 n5
    exact ⟨_, rfl, ⟨_, h_mo⟩, c_X12_count h_mo h_la h_rl (by omega) (fun k => absurd k n0) (fun k => absurd k n1) (fun k => absurd k n2) (fun k => absurd k n3) (fun k => absurd k n4) (fun k => absurd k n5) (fun _ _ _ _ _ _ => ⟨rfl, REL_m hR⟩)⟩
set_option maxHeartbeats 4000000 in
set_option maxRecDepth 100000 in
theorem op_nail {G : GG} {base : Nat} {l : Launch} {b : Nat} {f : Hp} {sz : Nat} (h : REL b f sz) (wh : Int32) : opI G base l yX11_nail yX12_nail cX11_nail cX12_nail 2 2 rm_X11_nail rm_X12_nail [.int wh] b f sz := by
  obtain ⟨oa, ak, tn, tt, fa, fi, hR⟩ := h
  obtain ⟨h_x, ⟨th, cu, sr, tk, va, ft, fA, h_mo⟩, hRow, hTap, hTrc, hMai, hTri, hImg, hAct, hsz⟩ := id hR
  obtain ⟨rho, lam, h_rl, h_li, w, pl, to, lf, wy, se, ta, q, P, wt, ch, sk, st, mi, ri, tl, ov, gw, gc, gs, os, Ks, wis, ags, wn, cvf, v, h_ro, h_k, hLW, hRO⟩ := id hMai
  obtain ⟨⟨h_w, h_wt, h_ch, h_sk⟩, ⟨iw, iwt, ich, isk, hwc⟩, ⟨r0, r1, r2, r3, r4, r5⟩, ⟨hPt, htl, hst, hmi⟩, hwn, hcf, hsk⟩ := id hLW
  have hP12 : P ≤ 12 := LW_P hLW

  refine c_X11_nail h_x h_ro h_w hP12 ?_ ?_ ?_ ?_ ?_ ?_ ?_ ?_
  · intro c4 s0
    obtain ⟨-, ⟨c6, c7, c8, c9, c10, c11⟩, -, -, -⟩ := hRO (by omega)
    refine ⟨_, rfl, ⟨_, h_mo⟩, c_X12_nail h_mo h_rl r0 hP12 (fun _ k => absurd (by rw [s0]; exact rng1' (by omega) (by omega) (by omega)) k) (fun _ _ wz hwz e => ?_) (fun k => absurd (show 0 < P by omega) k)⟩
    have hz : wz = 0 := (nI_eq (by omega) (by omega)).mp (e.symm.trans s0)
    subst hz
    exact ⟨by rw [show 6 + 0 = 6 from rfl, c6], REL_m hR⟩
  · intro c4 s0
    obtain ⟨-, ⟨c6, c7, c8, c9, c10, c11⟩, -, -, -⟩ := hRO (by omega)
    refine ⟨_, rfl, ⟨_, h_mo⟩, c_X12_nail h_mo h_rl r0 hP12 (fun _ k => absurd (by rw [s0]; exact rng1' (by omega) (by omega) (by omega)) k) (fun _ _ wz hwz e => ?_) (fun k => absurd (show 0 < P by omega) k)⟩
    have hz : wz = 1 := (nI_eq (by omega) (by omega)).mp (e.symm.trans s0)
    subst hz
    exact ⟨by rw [show 6 + 1 = 7 from rfl, c7], REL_m hR⟩
  · intro c4 s0
    obtain ⟨-, ⟨c6, c7, c8, c9, c10, c11⟩, -, -, -⟩ := hRO (by omega)
    refine ⟨_, rfl, ⟨_, h_mo⟩, c_X12_nail h_mo h_rl r0 hP12 (fun _ k => absurd (by rw [s0]; exact rng1' (by omega) (by omega) (by omega)) k) (fun _ _ wz hwz e => ?_) (fun k => absurd (show 0 < P by omega) k)⟩
    have hz : wz = 2 := (nI_eq (by omega) (by omega)).mp (e.symm.trans s0)
    subst hz
    exact ⟨by rw [show 6 + 2 = 8 from rfl, c8], REL_m hR⟩
  · intro c4 s0
    obtain ⟨-, ⟨c6, c7, c8, c9, c10, c11⟩, -, -, -⟩ := hRO (by omega)
    refine ⟨_, rfl, ⟨_, h_mo⟩, c_X12_nail h_mo h_rl r0 hP12 (fun _ k => absurd (by rw [s0]; exact rng1' (by omega) (by omega) (by omega)) k) (fun _ _ wz hwz e => ?_) (fun k => absurd (show 0 < P by omega) k)⟩
    have hz : wz = 3 := (nI_eq (by omega) (by omega)).mp (e.symm.trans s0)
    subst hz
    exact ⟨by rw [show 6 + 3 = 9 from rfl, c9], REL_m hR⟩
  · intro c4 s0
    obtain ⟨-, ⟨c6, c7, c8, c9, c10, c11⟩, -, -, -⟩ := hRO (by omega)
    refine ⟨_, rfl, ⟨_, h_mo⟩, c_X12_nail h_mo h_rl r0 hP12 (fun _ k => absurd (by rw [s0]; exact rng1' (by omega) (by omega) (by omega)) k) (fun _ _ wz hwz e => ?_) (fun k => absurd (show 0 < P by omega) k)⟩
    have hz : wz = 4 := (nI_eq (by omega) (by omega)).mp (e.symm.trans s0)
    subst hz
    exact ⟨by rw [show 6 + 4 = 10 from rfl, c10], REL_m hR⟩
  · intro c4 s0
    obtain ⟨-, ⟨c6, c7, c8, c9, c10, c11⟩, -, -, -⟩ := hRO (by omega)
    refine ⟨_, rfl, ⟨_, h_mo⟩, c_X12_nail h_mo h_rl r0 hP12 (fun _ k => absurd (by rw [s0]; exact rng1' (by omega) (by omega) (by omega)) k) (fun _ _ wz hwz e => ?_) (fun k => absurd (show 0 < P by omega) k)⟩
    have hz : wz = 5 := (nI_eq (by omega) (by omega)).mp (e.symm.trans s0)
    subst hz
    exact ⟨by rw [show 6 + 5 = 11 from rfl, c11], REL_m hR⟩
  · intro c4 n0 n1 n2 n3 n4 n5
    refine ⟨_, rfl, ⟨_, h_mo⟩, c_X12_nail h_mo h_rl r0 hP12 (fun _ _ => ⟨rfl, REL_m hR⟩) (fun _ _ wz hwz e => ?_) (fun k => absurd (show 0 < P by omega) k)⟩
    have h6 : wz = 0 ∨ wz = 1 ∨ wz = 2 ∨ wz = 3 ∨ wz = 4 ∨ wz = 5 := by omega
    rcases h6 with rfl | rfl | rfl | rfl | rfl | rfl <;> contradiction
  · intro c4
    exact ⟨_, rfl, ⟨_, h_mo⟩, c_X12_nail h_mo h_rl r0 hP12 (fun k => absurd k (by omega)) (fun k => absurd k (by omega)) (fun _ => ⟨rfl, REL_m hR⟩)⟩
set_option maxHeartbeats 4000000 in
set_option maxRecDepth 100000 in
theorem op_place {G : GG} {base : Nat} {l : Launch} {b : Nat} {f : Hp} {sz : Nat} (h : REL b f sz) (pp wh : Int32) : opI G base l yX11_place yX12_place cX11_place cX12_place 3 3 rm_X11_place rm_X12_place [.int pp, .int wh] b f sz := by
  obtain ⟨oa, ak, tn, tt, fa, fi, hR⟩ := h
  obtain ⟨h_x, ⟨th, cu, sr, tk, va, ft, fA, h_mo⟩, hRow, hTap, hTrc, hMai, hTri, hImg, hAct, hsz⟩ := id hR
  obtain ⟨rho, lam, h_rl, h_li, w, pl, to, lf, wy, se, ta, q, P, wt, ch, sk, st, mi, ri, tl, ov, gw, gc, gs, os, Ks, wis, ags, wn, cvf, v, h_ro, h_k, hLW, hRO⟩ := id hMai
  obtain ⟨⟨h_w, h_wt, h_ch, h_sk⟩, ⟨iw, iwt, ich, isk, hwc⟩, ⟨r0, r1, r2, r3, r4, r5⟩, ⟨hPt, htl, hst, hmi⟩, hwn, hcf, hsk⟩ := id hLW
  have hP12 : P ≤ 12 := LW_P hLW

  refine c_X11_place h_x h_ro h_w h_wt h_ch hwc hP12 ?_ ?_ ?_ ?_
  · intro c5
    exact ⟨_, rfl, ⟨_, h_mo⟩, c_X12_place h_mo h_rl r0 hP12 (fun _ => ⟨rfl, REL_m hR⟩) (fun k => absurd k c5) (fun k => absurd k c5)⟩
  · intro c5 c14 px hpx hpe c21
    refine ⟨_, rfl, ⟨_, h_mo⟩, c_X12_place h_mo h_rl r0 hP12 (fun k => absurd c5 k) (fun _ k => absurd c14 k) (fun _ _ p2 h2 e2 wz hwz e3 => ?_)⟩
    have k1 := (nI_eq (by omega) (by omega)).mp (hpe.symm.trans e2)
    subst k1
    have k2 : wz = 1 := by
      rcases Nat.eq_zero_or_pos wz with k | k
      · subst k; exact absurd e3 c21
      · omega
    subst k2
    exact ⟨by rw [show 12 + 12 * 1 + px = 24 + px from rfl, (hcf px hpx).2.1, (hcf px hpx).1], REL_m hR⟩
  · intro c5 c14 px hpx hpe c21
    refine ⟨_, rfl, ⟨_, h_mo⟩, c_X12_place h_mo h_rl r0 hP12 (fun k => absurd c5 k) (fun _ k => absurd c14 k) (fun _ _ p2 h2 e2 wz hwz e3 => ?_)⟩
    have k1 := (nI_eq (by omega) (by omega)).mp (hpe.symm.trans e2)
    subst k1
    have k2 : wz = 0 := (nI_eq (b := 0) (by omega) (by omega)).mp (e3.symm.trans c21)
    subst k2
    exact ⟨by rw [show 12 + 12 * 0 + px = 12 + px from rfl, (hwn px hpx).2.1, (hwn px hpx).1], REL_m hR⟩
  · intro c5 c14
    exact ⟨_, rfl, ⟨_, h_mo⟩, c_X12_place h_mo h_rl r0 hP12 (fun k => absurd c5 k) (fun _ _ => ⟨rfl, REL_m hR⟩) (fun _ k => absurd k c14)⟩
set_option maxHeartbeats 4000000 in
set_option maxRecDepth 100000 in
theorem op_copy {G : GG} {base : Nat} {l : Launch} {b : Nat} {f : Hp} {sz : Nat} (h : REL b f sz) (r i r2 j n : Int32) : opI G base l yX11_copy yX12_copy cX11_copy cX12_copy 8 9 rm_X11_copy rm_X12_copy [.int r, .int i, .int r2, .int j, .int n] b f sz := by
  obtain ⟨oa, ak, tn, tt, fa, fi, hR⟩ := h
  obtain ⟨h_x, ⟨th, cu, sr, tk, va, ft, fA, h_mo⟩, hRow, hTap, hTrc, hMai, hTri, hImg, hAct, hsz⟩ := id hR
  by_cases hr : ¬ r < nI 0 ∧ ¬ nI 7 < r
  case neg =>
    by_cases hr2 : ¬ r2 < nI 0 ∧ ¬ nI 7 < r2
    case neg => exact c_X11_copy_nn h_x hr hr2 ⟨_, rfl, ⟨_, h_mo⟩, c_X12_copy_n h_mo hr ⟨rfl, REL_m hR⟩⟩
    obtain ⟨k2, hkk2, rfl⟩ := rng (N := 7) (by omega) hr2.1 hr2.2
    have hk82 : k2 < 8 := by omega
    obtain ⟨mis, las, sns, gis, gr, gla, gma, git, h_ra, hgr, hrow, hit, h_la, h_ma, h_it, hml, hsn, hgi⟩ := id hRow
    exact c_X11_copy_nk h_x h_ra (hrow k2 hk82) (hit k2 hk82) hr hk82 (hgr k2 hk82) (hsn k2 hk82).1 ⟨_, rfl, ⟨_, h_mo⟩, c_X12_copy_n h_mo hr ⟨rfl, REL_m hR⟩⟩
  obtain ⟨kk, hkk, rfl⟩ := rng (N := 7) (by omega) hr.1 hr.2
  have hk8 : kk < 8 := by omega
  obtain ⟨mis, las, sns, gis, gr, gla, gma, git, h_ra, hgr, hrow, hit, h_la, h_ma, h_it, hml, hsn, hgi⟩ := id hRow
  by_cases hr2 : ¬ r2 < nI 0 ∧ ¬ nI 7 < r2
  case neg => exact c_X11_copy_kn h_x h_ra (hrow kk hk8) (hit kk hk8) hk8 (hgr kk hk8) (hsn kk hk8).1 hr2 ⟨_, rfl, ⟨_, h_mo⟩, c_X12_copy_kn h_mo hk8 hr2 ⟨rfl, REL_m hR⟩⟩
  obtain ⟨k2, hkk2, rfl⟩ := rng (N := 7) (by omega) hr2.1 hr2.2
  have hk82 : k2 < 8 := by omega
  by_cases hkq : kk = k2
  case pos =>
    subst hkq
    refine c_X11_copy_k h_x h_ra (hrow kk hk8) (hit kk hk8) hk8 (hgr kk hk8) (hsn kk hk8).1 ?_ ?_ ?_ ?_ (fun _ _ k => absurd rfl k) (fun c32 c40 => absurd c32 c40)
    · intro c32
      have g1 : gla kk < 0 := by
        have := ((hml kk hk8).resolve_left (fun k => c32 k.1)).2
        rw [fa_le] at this; rw [fa_lt]; omega
      exact ⟨_, rfl, ⟨_, (up_o (h_mo) (by omega))⟩, c_X12_copy_kk (up_o (h_mo) (by omega)) (up_o (h_la) (by omega)) (up_o (h_ma) (by omega)) (up_o (h_it) (by omega)) (by omega) (by omega) (by omega) hk8 (hsn kk hk8).2 (hsn kk hk8).1 hk8 (hsn kk hk8).2 (hsn kk hk8).1 (fun _ => ⟨rfl, REL_xm hR⟩) (fun k => absurd g1 k) (fun k => absurd g1 k) (fun k => absurd g1 k) (fun k => absurd g1 k) (fun k => absurd g1 k) (fun k => absurd g1 k) (fun k => absurd g1 k) (fun k => absurd g1 k) (fun k => absurd g1 k)⟩
    · intro c32 c40 c59 c76
      have a1 := (hml kk hk8).resolve_right (fun k => k.1 c32)
      have a2 := (hml kk hk8).resolve_right (fun k => k.1 c40)
      have g1 : ¬ gla kk < 0 := by
        have := a1.2.2
        rw [fa_le] at this; rw [fa_lt]; omega
      have g2 := a2.2.2
      have g3 : gla kk = gla kk := by first | rfl | (rw [a1.2.1, a2.2.1]; exact c59)
      refine ⟨_, rfl, ⟨_, (up_o (h_mo) (by omega))⟩, c_X12_copy_kk (up_o (h_mo) (by omega)) (up_o (h_la) (by omega)) (up_o (h_ma) (by omega)) (up_o (h_it) (by omega)) (by omega) (by omega) (by omega) hk8 (hsn kk hk8).2 (hsn kk hk8).1 hk8 (hsn kk hk8).2 (hsn kk hk8).1 (fun k => absurd k g1) (fun _ _ _ _ => ⟨rfl, REL_xm hR⟩) (fun _ _ _ _ _ => ⟨rfl, REL_xm hR⟩) (fun _ _ _ _ _ _ => ⟨rfl, REL_xm hR⟩) (fun _ _ _ _ _ _ _ => ⟨rfl, REL_xm hR⟩) (fun _ _ _ a1 _ a3 a4 => ?_) (fun _ _ _ a1 _ a3 a4 => ?_) (fun _ _ _ _ _ _ _ _ => ⟨rfl, REL_xm hR⟩) (fun _ _ k => absurd g3 k) (fun _ k => absurd g2 k)⟩
      · exact absurd ⟨a1, a3, by rw [← (hsn kk hk8).2]; exact a4⟩ c76
      · exact absurd ⟨a1, a3, by rw [← (hsn kk hk8).2]; exact a4⟩ c76
    · intro c32 c40 c59 c76 c88 ix n2 jx hix hjx hie hne hje
      have a1 := (hml kk hk8).resolve_right (fun k => k.1 c32)
      have a2 := (hml kk hk8).resolve_right (fun k => k.1 c40)
      have g1 : ¬ gla kk < 0 := by
        have := a1.2.2
        rw [fa_le] at this; rw [fa_lt]; omega
      have g2 := a2.2.2
      have g3 : gla kk = gla kk := by first | rfl | (rw [a1.2.1, a2.2.1]; exact c59)
      have hs40 := (hsn kk hk8).1
      have ht40 := (hsn kk hk8).1
      refine ⟨_, rfl, ⟨_, (up_o (up_o (h_mo) (by omega)) (by omega))⟩, c_X12_copy_kk (up_o (up_o (h_mo) (by omega)) (by omega)) (up_o (up_o (h_la) (by omega)) (by omega)) (up_o (up_o (h_ma) (by omega)) (by omega)) (up_o (up_o (h_it) (by omega)) (by omega)) (by omega) (by omega) (by omega) hk8 (hsn kk hk8).2 (hsn kk hk8).1 hk8 (hsn kk hk8).2 (hsn kk hk8).1 (fun k => absurd k g1) (fun _ _ _ k => absurd k c76.1) (fun _ _ _ _ k => absurd k c88.1) (fun _ _ _ _ _ k => absurd k c76.2.1) (fun _ _ _ _ _ _ k => absurd (by rw [← (hsn kk hk8).2]; exact k) c76.2.2) ?_ ?_ (fun _ _ _ _ _ _ _ k => absurd (pe_64.mp (by rw [(hsn kk hk8).2]; exact c88.2.2)) k) (fun _ _ k => absurd g3 k) (fun _ k => absurd g2 k)⟩
      · intro _ _ _ _ _ _ _ _ i9 n9 j9 hi9 hj9 e1 e2 e3 _ k_ hk_ c147
        have q1 := (nI_eq (by omega) (by omega)).mp (hie.symm.trans e1)
        have q2 := (nI_eq (by omega) (by omega)).mp (hne.symm.trans e2)
        have q3 := (nI_eq (by omega) (by omega)).mp (hje.symm.trans e3)
        subst q1; subst q2; subst q3
        have q4 : n2 - k_ = 0 := by omega
        rw [q4]
        exact ⟨rfl, ⟨oa, ak, tn, tt, fa, nI 0, (up_o (up_o (fx_up_s _ _ _) (by omega)) (by omega)), ⟨_, _, _, _, _, _, _, (up_o (fx_up_s _ _ _) (by omega))⟩, rRows_up hk8 hgr hrow hit hml hsn hgi (up_o (up_o (up_o (up_o (h_ra) (by omega)) (by omega)) (by omega)) (by omega)) (fun a ha h1 h2 => (fx_up_n _ _ (by omega)).trans ((fx_up_n _ _ (by omega)).trans ((fx_up_n _ _ (by omega)).trans ((fx_up_n _ _ (by omega)).trans (rfl))))) (up_o (up_o (up_o (up_o (hrow kk hk8) (by omega)) (by omega)) (by omega)) (by omega)) (up_o (up_o (up_o (fx_up_s _ _ _) (by omega)) (by omega)) (by omega)) (up_o (up_o (up_o (up_o (h_la) (by omega)) (by omega)) (by omega)) (by omega)) (up_o (up_o (up_o (up_o (h_ma) (by omega)) (by omega)) (by omega)) (by omega)) (fx_up_s _ _ _) (hml kk hk8) (hsn kk hk8) (pe_cp hk8 hk8 (by omega) (by omega) hgi).1 (fun i hi q => ⟨rfl, rfl, fun z hz => (pe_cp hk8 hk8 (by omega) (by omega) hgi).2 i hi q z hz⟩), rTape_c hTap (fun a ha => (fx_up_n _ _ (by omega)).trans ((fx_up_n _ _ (by omega)).trans ((fx_up_n _ _ (by omega)).trans ((fx_up_n _ _ (by omega)).trans (rfl))))), rTrace_c hTrc (fun a ha => (fx_up_n _ _ (by omega)).trans ((fx_up_n _ _ (by omega)).trans ((fx_up_n _ _ (by omega)).trans ((fx_up_n _ _ (by omega)).trans (rfl))))), rMain_c hMai (fun a ha => (fx_up_n _ _ (by omega)).trans ((fx_up_n _ _ (by omega)).trans ((fx_up_n _ _ (by omega)).trans ((fx_up_n _ _ (by omega)).trans (rfl))))), rTrial_c hTri (fun a ha => (fx_up_n _ _ (by omega)).trans ((fx_up_n _ _ (by omega)).trans ((fx_up_n _ _ (by omega)).trans ((fx_up_n _ _ (by omega)).trans (rfl))))), rImg_c hImg (fun a ha => (fx_up_n _ _ (by omega)).trans ((fx_up_n _ _ (by omega)).trans ((fx_up_n _ _ (by omega)).trans ((fx_up_n _ _ (by omega)).trans (rfl))))), rActs_c hAct (fun a ha => (fx_up_n _ _ (by omega)).trans ((fx_up_n _ _ (by omega)).trans ((fx_up_n _ _ (by omega)).trans ((fx_up_n _ _ (by omega)).trans (rfl))))), hsz⟩⟩
      · intro _ _ _ _ _ _ _ _ i9 n9 j9 hi9 hj9 e1 e2 e3 _ k_ hk_ c147
        have q1 := (nI_eq (by omega) (by omega)).mp (hie.symm.trans e1)
        have q2 := (nI_eq (by omega) (by omega)).mp (hne.symm.trans e2)
        have q3 := (nI_eq (by omega) (by omega)).mp (hje.symm.trans e3)
        subst q1; subst q2; subst q3
        have q4 : k_ = n2 := by omega
        rw [q4]
        exact ⟨rfl, ⟨oa, ak, tn, tt, fa, nI 0, (up_o (up_o (fx_up_s _ _ _) (by omega)) (by omega)), ⟨_, _, _, _, _, _, _, (up_o (fx_up_s _ _ _) (by omega))⟩, rRows_up hk8 hgr hrow hit hml hsn hgi (up_o (up_o (up_o (up_o (h_ra) (by omega)) (by omega)) (by omega)) (by omega)) (fun a ha h1 h2 => (fx_up_n _ _ (by omega)).trans ((fx_up_n _ _ (by omega)).trans ((fx_up_n _ _ (by omega)).trans ((fx_up_n _ _ (by omega)).trans (rfl))))) (up_o (up_o (up_o (up_o (hrow kk hk8) (by omega)) (by omega)) (by omega)) (by omega)) (up_o (up_o (up_o (fx_up_s _ _ _) (by omega)) (by omega)) (by omega)) (up_o (up_o (up_o (up_o (h_la) (by omega)) (by omega)) (by omega)) (by omega)) (up_o (up_o (up_o (up_o (h_ma) (by omega)) (by omega)) (by omega)) (by omega)) (fx_up_s _ _ _) (hml kk hk8) (hsn kk hk8) (pe_cp hk8 hk8 (by omega) (by omega) hgi).1 (fun i hi q => ⟨rfl, rfl, fun z hz => (pe_cp hk8 hk8 (by omega) (by omega) hgi).2 i hi q z hz⟩), rTape_c hTap (fun a ha => (fx_up_n _ _ (by omega)).trans ((fx_up_n _ _ (by omega)).trans ((fx_up_n _ _ (by omega)).trans ((fx_up_n _ _ (by omega)).trans (rfl))))), rTrace_c hTrc (fun a ha => (fx_up_n _ _ (by omega)).trans ((fx_up_n _ _ (by omega)).trans ((fx_up_n _ _ (by omega)).trans ((fx_up_n _ _ (by omega)).trans (rfl))))), rMain_c hMai (fun a ha => (fx_up_n _ _ (by omega)).trans ((fx_up_n _ _ (by omega)).trans ((fx_up_n _ _ (by omega)).trans ((fx_up_n _ _ (by omega)).trans (rfl))))), rTrial_c hTri (fun a ha => (fx_up_n _ _ (by omega)).trans ((fx_up_n _ _ (by omega)).trans ((fx_up_n _ _ (by omega)).trans ((fx_up_n _ _ (by omega)).trans (rfl))))), rImg_c hImg (fun a ha => (fx_up_n _ _ (by omega)).trans ((fx_up_n _ _ (by omega)).trans ((fx_up_n _ _ (by omega)).trans ((fx_up_n _ _ (by omega)).trans (rfl))))), rActs_c hAct (fun a ha => (fx_up_n _ _ (by omega)).trans ((fx_up_n _ _ (by omega)).trans ((fx_up_n _ _ (by omega)).trans ((fx_up_n _ _ (by omega)).trans (rfl))))), hsz⟩⟩
    · intro c32 c40 c59 c76 c88
      have a1 := (hml kk hk8).resolve_right (fun k => k.1 c32)
      have a2 := (hml kk hk8).resolve_right (fun k => k.1 c40)
      have g1 : ¬ gla kk < 0 := by
        have := a1.2.2
        rw [fa_le] at this; rw [fa_lt]; omega
      have g2 := a2.2.2
      have g3 : gla kk = gla kk := by first | rfl | (rw [a1.2.1, a2.2.1]; exact c59)
      refine ⟨_, rfl, ⟨_, (up_o (h_mo) (by omega))⟩, c_X12_copy_kk (up_o (h_mo) (by omega)) (up_o (h_la) (by omega)) (up_o (h_ma) (by omega)) (up_o (h_it) (by omega)) (by omega) (by omega) (by omega) hk8 (hsn kk hk8).2 (hsn kk hk8).1 hk8 (hsn kk hk8).2 (hsn kk hk8).1 (fun k => absurd k g1) (fun _ _ _ _ => ⟨rfl, REL_xm hR⟩) (fun _ _ _ _ _ => ⟨rfl, REL_xm hR⟩) (fun _ _ _ _ _ _ => ⟨rfl, REL_xm hR⟩) (fun _ _ _ _ _ _ _ => ⟨rfl, REL_xm hR⟩) (fun _ _ _ _ a1 a3 _ a4 => ?_) (fun _ _ _ _ a1 a3 _ a4 => ?_) (fun _ _ _ _ _ _ _ _ => ⟨rfl, REL_xm hR⟩) (fun _ _ k => absurd g3 k) (fun _ k => absurd g2 k)⟩
      · exact absurd ⟨a1, a3, by rw [← (hsn kk hk8).2]; exact pe_64.mpr a4⟩ c88
      · exact absurd ⟨a1, a3, by rw [← (hsn kk hk8).2]; exact pe_64.mpr a4⟩ c88
  refine c_X11_copy_kk h_x h_ra (hrow kk hk8) (hit kk hk8) (hrow k2 hk82) (hit k2 hk82) (by omega) (by omega) hk8 (hgr kk hk8) (hsn kk hk8).1 hk82 (hgr k2 hk82) (hsn k2 hk82).1 ?_ ?_ ?_ ?_ ?_ ?_
  · intro c32
    have g1 : gla kk < 0 := by
      have := ((hml kk hk8).resolve_left (fun k => c32 k.1)).2
      rw [fa_le] at this; rw [fa_lt]; omega
    exact ⟨_, rfl, ⟨_, (up_o (h_mo) (by omega))⟩, c_X12_copy_kk (up_o (h_mo) (by omega)) (up_o (h_la) (by omega)) (up_o (h_ma) (by omega)) (up_o (h_it) (by omega)) (by omega) (by omega) (by omega) hk8 (hsn kk hk8).2 (hsn kk hk8).1 hk82 (hsn k2 hk82).2 (hsn k2 hk82).1 (fun _ => ⟨rfl, REL_xm hR⟩) (fun k => absurd g1 k) (fun k => absurd g1 k) (fun k => absurd g1 k) (fun k => absurd g1 k) (fun k => absurd g1 k) (fun k => absurd g1 k) (fun k => absurd g1 k) (fun k => absurd g1 k) (fun k => absurd g1 k)⟩
  · intro c32 c40 c59 c76
    have a1 := (hml kk hk8).resolve_right (fun k => k.1 c32)
    have a2 := (hml k2 hk82).resolve_right (fun k => k.1 c40)
    have g1 : ¬ gla kk < 0 := by
      have := a1.2.2
      rw [fa_le] at this; rw [fa_lt]; omega
    have g2 := a2.2.2
    have g3 : gla kk = gla k2 := by first | rfl | (rw [a1.2.1, a2.2.1]; exact c59)
    refine ⟨_, rfl, ⟨_, (up_o (h_mo) (by omega))⟩, c_X12_copy_kk (up_o (h_mo) (by omega)) (up_o (h_la) (by omega)) (up_o (h_ma) (by omega)) (up_o (h_it) (by omega)) (by omega) (by omega) (by omega) hk8 (hsn kk hk8).2 (hsn kk hk8).1 hk82 (hsn k2 hk82).2 (hsn k2 hk82).1 (fun k => absurd k g1) (fun _ _ _ _ => ⟨rfl, REL_xm hR⟩) (fun _ _ _ _ _ => ⟨rfl, REL_xm hR⟩) (fun _ _ _ _ _ _ => ⟨rfl, REL_xm hR⟩) (fun _ _ _ _ _ _ _ => ⟨rfl, REL_xm hR⟩) (fun _ _ _ a1 _ a3 a4 => ?_) (fun _ _ _ a1 _ a3 a4 => ?_) (fun _ _ _ _ _ _ _ _ => ⟨rfl, REL_xm hR⟩) (fun _ _ k => absurd g3 k) (fun _ k => absurd g2 k)⟩
    · exact absurd ⟨a1, a3, by rw [← (hsn kk hk8).2]; exact a4⟩ c76
    · exact absurd ⟨a1, a3, by rw [← (hsn kk hk8).2]; exact a4⟩ c76
  · intro c32 c40 c59 c76 c88 ix n2 jx hix hjx hie hne hje
    have a1 := (hml kk hk8).resolve_right (fun k => k.1 c32)
    have a2 := (hml k2 hk82).resolve_right (fun k => k.1 c40)
    have g1 : ¬ gla kk < 0 := by
      have := a1.2.2
      rw [fa_le] at this; rw [fa_lt]; omega
    have g2 := a2.2.2
    have g3 : gla kk = gla k2 := by first | rfl | (rw [a1.2.1, a2.2.1]; exact c59)
    have hs40 := (hsn kk hk8).1
    have ht40 := (hsn k2 hk82).1
    refine ⟨_, rfl, ⟨_, (up_o (up_o (h_mo) (by omega)) (by omega))⟩, c_X12_copy_kk (up_o (up_o (h_mo) (by omega)) (by omega)) (up_o (up_o (h_la) (by omega)) (by omega)) (up_o (up_o (h_ma) (by omega)) (by omega)) (up_o (up_o (h_it) (by omega)) (by omega)) (by omega) (by omega) (by omega) hk8 (hsn kk hk8).2 (hsn kk hk8).1 hk82 (hsn k2 hk82).2 (hsn k2 hk82).1 (fun k => absurd k g1) (fun _ _ _ k => absurd k c76.1) (fun _ _ _ _ k => absurd k c88.1) (fun _ _ _ _ _ k => absurd k c76.2.1) (fun _ _ _ _ _ _ k => absurd (by rw [← (hsn kk hk8).2]; exact k) c76.2.2) ?_ ?_ (fun _ _ _ _ _ _ _ k => absurd (pe_64.mp (by rw [(hsn k2 hk82).2]; exact c88.2.2)) k) (fun _ _ k => absurd g3 k) (fun _ k => absurd g2 k)⟩
    · intro _ _ _ _ _ _ _ _ i9 n9 j9 hi9 hj9 e1 e2 e3 _ k_ hk_ c147
      have q1 := (nI_eq (by omega) (by omega)).mp (hie.symm.trans e1)
      have q2 := (nI_eq (by omega) (by omega)).mp (hne.symm.trans e2)
      have q3 := (nI_eq (by omega) (by omega)).mp (hje.symm.trans e3)
      subst q1; subst q2; subst q3
      have q4 : n2 - k_ = 0 := by omega
      rw [q4]
      exact ⟨rfl, ⟨oa, ak, tn, tt, fa, nI 0, (up_o (up_o (fx_up_s _ _ _) (by omega)) (by omega)), ⟨_, _, _, _, _, _, _, (up_o (fx_up_s _ _ _) (by omega))⟩, rRows_up hk82 hgr hrow hit hml hsn hgi (up_o (up_o (up_o (up_o (h_ra) (by omega)) (by omega)) (by omega)) (by omega)) (fun a ha h1 h2 => (fx_up_n _ _ (by omega)).trans ((fx_up_n _ _ (by omega)).trans ((fx_up_n _ _ (by omega)).trans ((fx_up_n _ _ (by omega)).trans (rfl))))) (up_o (up_o (up_o (up_o (hrow k2 hk82) (by omega)) (by omega)) (by omega)) (by omega)) (up_o (up_o (up_o (fx_up_s _ _ _) (by omega)) (by omega)) (by omega)) (up_o (up_o (up_o (up_o (h_la) (by omega)) (by omega)) (by omega)) (by omega)) (up_o (up_o (up_o (up_o (h_ma) (by omega)) (by omega)) (by omega)) (by omega)) (fx_up_s _ _ _) (hml k2 hk82) (hsn k2 hk82) (pe_cp hk8 hk82 (by omega) (by omega) hgi).1 (fun i hi q => ⟨rfl, rfl, fun z hz => (pe_cp hk8 hk82 (by omega) (by omega) hgi).2 i hi q z hz⟩), rTape_c hTap (fun a ha => (fx_up_n _ _ (by omega)).trans ((fx_up_n _ _ (by omega)).trans ((fx_up_n _ _ (by omega)).trans ((fx_up_n _ _ (by omega)).trans (rfl))))), rTrace_c hTrc (fun a ha => (fx_up_n _ _ (by omega)).trans ((fx_up_n _ _ (by omega)).trans ((fx_up_n _ _ (by omega)).trans ((fx_up_n _ _ (by omega)).trans (rfl))))), rMain_c hMai (fun a ha => (fx_up_n _ _ (by omega)).trans ((fx_up_n _ _ (by omega)).trans ((fx_up_n _ _ (by omega)).trans ((fx_up_n _ _ (by omega)).trans (rfl))))), rTrial_c hTri (fun a ha => (fx_up_n _ _ (by omega)).trans ((fx_up_n _ _ (by omega)).trans ((fx_up_n _ _ (by omega)).trans ((fx_up_n _ _ (by omega)).trans (rfl))))), rImg_c hImg (fun a ha => (fx_up_n _ _ (by omega)).trans ((fx_up_n _ _ (by omega)).trans ((fx_up_n _ _ (by omega)).trans ((fx_up_n _ _ (by omega)).trans (rfl))))), rActs_c hAct (fun a ha => (fx_up_n _ _ (by omega)).trans ((fx_up_n _ _ (by omega)).trans ((fx_up_n _ _ (by omega)).trans ((fx_up_n _ _ (by omega)).trans (rfl))))), hsz⟩⟩
    · intro _ _ _ _ _ _ _ _ i9 n9 j9 hi9 hj9 e1 e2 e3 _ k_ hk_ c147
      have q1 := (nI_eq (by omega) (by omega)).mp (hie.symm.trans e1)
      have q2 := (nI_eq (by omega) (by omega)).mp (hne.symm.trans e2)
      have q3 := (nI_eq (by omega) (by omega)).mp (hje.symm.trans e3)
      subst q1; subst q2; subst q3
      have q4 : k_ = n2 := by omega
      rw [q4]
      exact ⟨rfl, ⟨oa, ak, tn, tt, fa, nI 0, (up_o (up_o (fx_up_s _ _ _) (by omega)) (by omega)), ⟨_, _, _, _, _, _, _, (up_o (fx_up_s _ _ _) (by omega))⟩, rRows_up hk82 hgr hrow hit hml hsn hgi (up_o (up_o (up_o (up_o (h_ra) (by omega)) (by omega)) (by omega)) (by omega)) (fun a ha h1 h2 => (fx_up_n _ _ (by omega)).trans ((fx_up_n _ _ (by omega)).trans ((fx_up_n _ _ (by omega)).trans ((fx_up_n _ _ (by omega)).trans (rfl))))) (up_o (up_o (up_o (up_o (hrow k2 hk82) (by omega)) (by omega)) (by omega)) (by omega)) (up_o (up_o (up_o (fx_up_s _ _ _) (by omega)) (by omega)) (by omega)) (up_o (up_o (up_o (up_o (h_la) (by omega)) (by omega)) (by omega)) (by omega)) (up_o (up_o (up_o (up_o (h_ma) (by omega)) (by omega)) (by omega)) (by omega)) (fx_up_s _ _ _) (hml k2 hk82) (hsn k2 hk82) (pe_cp hk8 hk82 (by omega) (by omega) hgi).1 (fun i hi q => ⟨rfl, rfl, fun z hz => (pe_cp hk8 hk82 (by omega) (by omega) hgi).2 i hi q z hz⟩), rTape_c hTap (fun a ha => (fx_up_n _ _ (by omega)).trans ((fx_up_n _ _ (by omega)).trans ((fx_up_n _ _ (by omega)).trans ((fx_up_n _ _ (by omega)).trans (rfl))))), rTrace_c hTrc (fun a ha => (fx_up_n _ _ (by omega)).trans ((fx_up_n _ _ (by omega)).trans ((fx_up_n _ _ (by omega)).trans ((fx_up_n _ _ (by omega)).trans (rfl))))), rMain_c hMai (fun a ha => (fx_up_n _ _ (by omega)).trans ((fx_up_n _ _ (by omega)).trans ((fx_up_n _ _ (by omega)).trans ((fx_up_n _ _ (by omega)).trans (rfl))))), rTrial_c hTri (fun a ha => (fx_up_n _ _ (by omega)).trans ((fx_up_n _ _ (by omega)).trans ((fx_up_n _ _ (by omega)).trans ((fx_up_n _ _ (by omega)).trans (rfl))))), rImg_c hImg (fun a ha => (fx_up_n _ _ (by omega)).trans ((fx_up_n _ _ (by omega)).trans ((fx_up_n _ _ (by omega)).trans ((fx_up_n _ _ (by omega)).trans (rfl))))), rActs_c hAct (fun a ha => (fx_up_n _ _ (by omega)).trans ((fx_up_n _ _ (by omega)).trans ((fx_up_n _ _ (by omega)).trans ((fx_up_n _ _ (by omega)).trans (rfl))))), hsz⟩⟩
  · intro c32 c40 c59 c76 c88
    have a1 := (hml kk hk8).resolve_right (fun k => k.1 c32)
    have a2 := (hml k2 hk82).resolve_right (fun k => k.1 c40)
    have g1 : ¬ gla kk < 0 := by
      have := a1.2.2
      rw [fa_le] at this; rw [fa_lt]; omega
    have g2 := a2.2.2
    have g3 : gla kk = gla k2 := by first | rfl | (rw [a1.2.1, a2.2.1]; exact c59)
    refine ⟨_, rfl, ⟨_, (up_o (h_mo) (by omega))⟩, c_X12_copy_kk (up_o (h_mo) (by omega)) (up_o (h_la) (by omega)) (up_o (h_ma) (by omega)) (up_o (h_it) (by omega)) (by omega) (by omega) (by omega) hk8 (hsn kk hk8).2 (hsn kk hk8).1 hk82 (hsn k2 hk82).2 (hsn k2 hk82).1 (fun k => absurd k g1) (fun _ _ _ _ => ⟨rfl, REL_xm hR⟩) (fun _ _ _ _ _ => ⟨rfl, REL_xm hR⟩) (fun _ _ _ _ _ _ => ⟨rfl, REL_xm hR⟩) (fun _ _ _ _ _ _ _ => ⟨rfl, REL_xm hR⟩) (fun _ _ _ _ a1 a3 _ a4 => ?_) (fun _ _ _ _ a1 a3 _ a4 => ?_) (fun _ _ _ _ _ _ _ _ => ⟨rfl, REL_xm hR⟩) (fun _ _ k => absurd g3 k) (fun _ k => absurd g2 k)⟩
    · exact absurd ⟨a1, a3, by rw [← (hsn k2 hk82).2]; exact pe_64.mpr a4⟩ c88
    · exact absurd ⟨a1, a3, by rw [← (hsn k2 hk82).2]; exact pe_64.mpr a4⟩ c88
  · intro c32 c40 c59
    have a1 := (hml kk hk8).resolve_right (fun k => k.1 c32)
    have a2 := (hml k2 hk82).resolve_right (fun k => k.1 c40)
    have g1 : ¬ gla kk < 0 := by
      have := a1.2.2
      rw [fa_le] at this; rw [fa_lt]; omega
    have g2 := a2.2.2
    have g3 : ¬ gla kk = gla k2 := by rw [a1.2.1, a2.2.1]; exact c59
    exact ⟨_, rfl, ⟨_, (up_o (h_mo) (by omega))⟩, c_X12_copy_kk (up_o (h_mo) (by omega)) (up_o (h_la) (by omega)) (up_o (h_ma) (by omega)) (up_o (h_it) (by omega)) (by omega) (by omega) (by omega) hk8 (hsn kk hk8).2 (hsn kk hk8).1 hk82 (hsn k2 hk82).2 (hsn k2 hk82).1 (fun k => absurd k g1) (fun _ _ k => absurd k g3) (fun _ _ k => absurd k g3) (fun _ _ k => absurd k g3) (fun _ _ k => absurd k g3) (fun _ _ k => absurd k g3) (fun _ _ k => absurd k g3) (fun _ _ k => absurd k g3) (fun _ _ _ => ⟨rfl, REL_xm hR⟩) (fun _ k => absurd g2 k)⟩
  · intro c32 c40
    have a1 := (hml kk hk8).resolve_right (fun k => k.1 c32)
    have a2 := (hml k2 hk82).resolve_left (fun k => c40 k.1)
    have g1 : ¬ gla kk < 0 := by
      have := a1.2.2
      rw [fa_le] at this; rw [fa_lt]; omega
    have g2 := a2.2
    exact ⟨_, rfl, ⟨_, (up_o (h_mo) (by omega))⟩, c_X12_copy_kk (up_o (h_mo) (by omega)) (up_o (h_la) (by omega)) (up_o (h_ma) (by omega)) (up_o (h_it) (by omega)) (by omega) (by omega) (by omega) hk8 (hsn kk hk8).2 (hsn kk hk8).1 hk82 (hsn k2 hk82).2 (hsn k2 hk82).1 (fun k => absurd k g1) (fun _ k => absurd k g2) (fun _ k => absurd k g2) (fun _ k => absurd k g2) (fun _ k => absurd k g2) (fun _ k => absurd k g2) (fun _ k => absurd k g2) (fun _ k => absurd k g2) (fun _ k => absurd k g2) (fun _ _ => ⟨rfl, REL_xm hR⟩)⟩
