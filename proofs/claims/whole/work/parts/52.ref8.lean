/-! ===== PURE PART 19: the reference's reader: INNER, an item, an opening ===== -/
section RINNER
variable {N n ob hb sb base A lim np k kz pos ags : Nat} {b : Nat → Nat} {sv : Nat → Int32} {outs : List Fr} {l1 l2 : Int64} {dp it : Nat} {ia ca ga : Int32} {f0 f1 f2 f3 f4 f5 f6 f7 f8 f9 f10 f11 : Nat → Int32} {G : GS}
theorem R_inner (hsb : ∀ i, i < n → sv i = nI (b i) ∧ b i < 256) {fy : Nat → Int32} (hR : RR sv b n ob hb sb fy f1 f2 f3 f4 f5 f6 f7 f8 f9 f10 f11 (pos + 1) 0 base lim np outs A dp it ia ca ga G) (hM : Mo f0 n outs.length (A + ags) (pos + 1) 0 0 (-1) G.2.2.1 G.2.2.2.1 G.2.2.2.2.1 dp it ob hb sb ia ca ga) (hAg : AgR b f9 f10 f11 A (pos - ags) ags (G.1 - base)) (hAp : A + ags ≤ pos) (hS : Sx b n ob hb sb pos ags base lim np outs dp G) (hp : pos + 1 ≤ lim) (hk : k < kz) (hkp : n < k + (pos + 1)) :
    ∃ x0 x2 x3 x4 x5 x6 x7 x8 x9 x10 x11, bd7 (pX7_inner (nI pos) f0 l1 l2 f1 f2 f3 f4 f5 f6 f7) (fun f0_41 f2_42 f3_43 f4_44 f5_45 f6_46 f7_47 => some (f0_41, f2_42, f3_43, f4_44, f5_45, f6_46, f7_47, f8, f9, f10, f11)) = some (x0, x2, x3, x4, x5, x6, x7, x8, x9, x10, x11) ∧
      OutR sv b n ob hb sb f1 kz (spI (sp sv b n ob hb sb k) b pos ags base lim np outs dp it ia ca ga G) x0 x2 x3 x4 x5 x6 x7 x8 x9 x10 x11 := by
  obtain ⟨hsv, -, h2, h3, h30, h4, h7, hSt, -, h8, hmx, -, hnpos⟩ := hR
  obtain ⟨hW, hWS, hOU, hl, hbs, hple, hdp, hag0, hag⟩ := hS
  obtain ⟨w1, w2, w3, w4, w5, w6, w7, w8, w9, w10, w11⟩ := id hW
  have hlim := (WS_lim hWS).1
  have e0 : pX7_inner (nI pos) f0 l1 l2 f1 f2 f3 f4 f5 f6 f7 = bfX7_inner_17 (nI pos) l1 l2 f1 (fst_ ia pos) f0 f2 f3 f4 f5 f6 f7 := by
    unfold pX7_inner fst_
    rw [hM.2.2.2.2.2.2.2.2.2.2.2.2.2.2.2.1]
    split <;> rfl
  rw [e0]
  unfold bfX7_inner_17 spI
  rw [lt_x]
  have hM2 : Mo (upd f0 26 (fst_ ia pos)) n outs.length (A + ags) (pos + 1) 0 0 (-1) G.2.2.1 G.2.2.2.1 G.2.2.2.2.1 dp it ob hb sb (fst_ ia pos) ca ga := by
    obtain ⟨a1, a2, a3, a4, a5, a6, a7, a8, a9, a10, a11, a12, a13, a14, a15, a16, a17, a18⟩ := hM
    refine ⟨?_, ?_, ?_, ?_, ?_, ?_, ?_, ?_, ?_, ?_, ?_, ?_, ?_, ?_, ?_, ?_, ?_, ?_⟩ <;> first | exact us | (rw [un (by decide)]; assumption)
  generalize upd f0 26 (fst_ ia pos) = y0 at hM2 ⊢
  have hy2 := hM2.2.1
  rw [hy2, nI_1]
  by_cases c5 : outs.length = 5
  · obtain ⟨g, e1, e2⟩ := m_fault (l1 := l1) (l2 := l2) (k := 6) (p := nI pos) (kn := 6) rfl hM2
    rw [if_pos (by rw [c5]; rfl), e1, bd1_s, bd7_s, if_pos c5]
    exact ⟨_, _, _, _, _, _, _, _, _, _, _, rfl, Or.inl ⟨_, rfl, Fm_of (by omega) hW e2 h30 h8 ⟨fun h => absurd h (by omega), fun _ => Nat.zero_le _⟩⟩⟩
  rw [if_neg (by rw [k6]; intro e; have := (nI_eq (by omega) (by omega)).mp e; omega), if_neg c5]
  by_cases cl : lim < pos + 2
  · obtain ⟨g, e1, e2⟩ := m_has_f (l1 := l1) (l2 := l2) (c := 1) (f6 := f6) (outs := outs) rfl (by omega) (by omega) h4 (by omega) (by omega) (R_np hWS hSt) hM2
    have hmk : 0 < mK outs ∧ mK outs ≤ 2 := by unfold mK; split <;> omega
    replace e1 : pX7_has 1 y0 l1 l2 f4 f6 = some (0, g) := e1
    rw [e1, bd2_s, if_pos rfl, bd7_s, if_pos cl]
    exact ⟨_, _, _, _, _, _, _, _, _, _, _, rfl, Or.inl ⟨_, rfl, Fm_of (by omega) hW e2 h30 h8 ⟨fun h => absurd h (by omega), fun _ => Nat.zero_le _⟩⟩⟩
  have hh : pX7_has 1 y0 l1 l2 f4 f6 = some (1, y0) := m_has_t (c := 1) (by omega) (by omega) h4 (by omega) hM2
  have hb1 := hsb (pos + 1) (by omega)
  have hM3 : Mo (upd y0 14 (nI (pos + 1 + 1))) n outs.length (A + ags) (pos + 2) 0 0 (-1) G.2.2.1 G.2.2.2.1 G.2.2.2.2.1 dp it ob hb sb (fst_ ia pos) ca ga := by
    obtain ⟨a1, a2, a3, a4, a5, a6, a7, a8, a9, a10, a11, a12, a13, a14, a15, a16, a17, a18⟩ := hM2
    refine ⟨?_, ?_, ?_, ?_, ?_, ?_, ?_, ?_, ?_, ?_, ?_, ?_, ?_, ?_, ?_, ?_, ?_, ?_⟩ <;> first | exact us | (rw [un (by decide)]; assumption)
  rw [if_neg cl, hh, bd2_s, if_neg (by decide), lt_x, hM2.2.2.2.1, gi_ok (by omega) (by omega), ncl (by omega), hsv (pos + 1) (by omega), hb1.1, lt_x, nI_1, lt_x, hM3.2.1, gi_ok (by omega) (by omega), ncl (by omega), hM3.2.2.2.1, nI_add, h4]
  by_cases ci : lim < pos + 2 + b (pos + 1)
  · obtain ⟨g, e1, e2⟩ := m_fault (l1 := l1) (l2 := l2) (k := 2) (p := nI (pos + 1)) (kn := 2) rfl hM3
    rw [if_neg (nI_ge ci (by omega)), e1, bd1_s, bd7_s, if_pos ci]
    exact ⟨_, _, _, _, _, _, _, _, _, _, _, rfl, Or.inl ⟨_, rfl, Fm_of (by omega) hW e2 h30 h8 ⟨fun h => absurd h (by omega), fun _ => Nat.zero_le _⟩⟩⟩
  rw [if_pos (nI_le (by omega) (by omega)), if_neg ci, lt_x, nI_1]
  have hM4 : Mo (upd (upd y0 14 (nI (pos + 1 + 1))) 2 (nI (outs.length + 1))) n (outs.length + 1) (A + ags) (pos + 2) 0 0 (-1) G.2.2.1 G.2.2.2.1 G.2.2.2.2.1 dp it ob hb sb (fst_ ia pos) ca ga := by
    obtain ⟨a1, a2, a3, a4, a5, a6, a7, a8, a9, a10, a11, a12, a13, a14, a15, a16, a17, a18⟩ := hM3
    refine ⟨?_, ?_, ?_, ?_, ?_, ?_, ?_, ?_, ?_, ?_, ?_, ?_, ?_, ?_, ?_, ?_, ?_, ?_⟩ <;> first | exact us | (rw [un (by decide)]; assumption)
  generalize upd (upd y0 14 (nI (pos + 1 + 1))) 2 (nI (outs.length + 1)) = z0 at hM4 ⊢
  unfold pX7_opens bfX7_opens_42
  have ed : nI (outs.length + 1) - 1 = nI outs.length := by rw [k1, nsub (by omega)]; congr 1
  have et : nI base + nI (G.1 - base) = nI G.1 := by rw [nI_add]; congr 1; omega
  rw [hM4.2.1, if_neg (nI_ne0 (by omega) (by omega))]
  simp only [ed, gi_ok (show outs.length < 6 by omega) (show 6 < 2 ^ 31 by decide), ncl (show outs.length < 2 ^ 31 by omega), h2, h3, et, gi_ok (show outs.length + 1 < 6 by omega) (show 6 < 2 ^ 31 by decide), ncl (show outs.length + 1 < 2 ^ 31 by omega), lt_x, hM4.2.2.1, hM4.2.2.2.1, hM4.2.2.2.2.2.2.2.2.2.2.1, nI_1, nI_add]
  have fin : ∀ w0 : Nat → Int32, Mo w0 n (outs.length + 1) (A + ags) (pos + 2) 0 0 (-1) G.2.2.1 G.2.2.2.1 G.2.2.2.2.1 (max dp (outs.length + 2)) it ob hb sb (fst_ ia pos) ca ga →
      ∃ x0 x2 x3 x4 x5 x6 x7 x8 x9 x10 x11, bd7 (bd7 (some (w0, upd f2 (outs.length + 1) (nI G.1), upd f3 (outs.length + 1) 0, upd f4 (outs.length + 1) (nI (pos + 2 + b (pos + 1))), upd f5 (outs.length + 1) (nI pos), upd f6 (outs.length + 1) (nI (pos + 1)), upd f7 (outs.length + 1) (nI (A + ags)))) (fun f0_14 f2_15 f3_16 f4_17 f5_18 f6_19 f7_20 => some (f0_14, f2_15, f3_16, f4_17, f5_18, f6_19, f7_20))) (fun f0_41 f2_42 f3_43 f4_44 f5_45 f6_46 f7_47 => some (f0_41, f2_42, f3_43, f4_44, f5_45, f6_46, f7_47, f8, f9, f10, f11)) = some (x0, x2, x3, x4, x5, x6, x7, x8, x9, x10, x11) ∧
        OutR sv b n ob hb sb f1 kz (sp sv b n ob hb sb k (pos + 2) 0 G.1 (pos + 2 + b (pos + 1)) (pos + 1) ((base, lim, np, ags) :: outs) (max dp (outs.length + 2)) it (fst_ ia pos) ca ga G) x0 x2 x3 x4 x5 x6 x7 x8 x9 x10 x11 := by
    intro w0 hw0
    rw [bd7_s, bd7_s]
    have hO : isO ((base, lim, np, ags) :: outs) = false := rfl
    refine ⟨_, _, _, _, _, _, _, _, _, _, _, rfl, Or.inr ⟨k, pos + 2, 0, G.1, pos + 2 + b (pos + 1), pos + 1, (base, lim, np, ags) :: outs, A + ags, _, it, _, ca, ga, G, rfl, hk, by omega, ⟨hsv, hw0, us, ?_, ?_, us, us, ⟨us, us, ?_, ?_, ?_, by omega, ?_, ?_, by omega, ?_, ?_⟩, fun i hi => absurd hi (by omega), h8, hmx, by omega, fun _ => by omega⟩, ?_, ?_, ?_, ?_, Nat.le_refl _, by omega, by omega, by omega, fun i h1 h2 => absurd h2 (by omega)⟩⟩
    · rw [Nat.sub_self]; exact us
    · rw [un (by omega)]; exact h30
    · rw [un (by omega)]; exact h2
    · rw [un (by omega)]; exact h3
    · rw [un (by omega)]; exact h4
    · rw [un (by omega), h7]; congr 1; omega
    · intro i hi
      have := hAg i hi
      rw [show A + ags - ags = A by omega]
      exact this
    · intro h; have := hnpos h; omega
    · rw [show A + ags - ags = A by omega]
      exact StR_c (fun j hj => ⟨un (by omega), un (by omega), un (by omega), un (by omega)⟩) (fun j hj => ⟨un (by omega), un (by omega)⟩) (fun j _ => ⟨rfl, rfl, rfl⟩) hSt
    · exact ⟨w1, w2, w3, w4, w5, w6, w7, w8, w9, w10, fun h => by rw [hO] at h; cases h⟩
    · exact ⟨by omega, hbs, by omega, by omega, fun i h1 h2 => hag i (by omega) (by omega), hWS⟩
    · cases outs with
      | nil => exact w11 rfl
      | cons x y => exact hOU
    · simp only [List.length_cons]; omega
  by_cases cd : outs.length + 1 + 1 ≤ dp
  · rw [if_pos (nI_le cd (by omega))]
    refine fin _ ?_
    rw [show max dp (outs.length + 2) = dp by omega]
    obtain ⟨a1, a2, a3, a4, a5, a6, a7, a8, a9, a10, a11, a12, a13, a14, a15, a16, a17, a18⟩ := hM4
    refine ⟨?_, ?_, ?_, ?_, ?_, ?_, ?_, ?_, ?_, ?_, ?_, ?_, ?_, ?_, ?_, ?_, ?_, ?_⟩ <;> first | exact us | (rw [un (by decide)]; assumption)
  · rw [if_neg (nI_ge (by omega) (by omega))]
    refine fin _ ?_
    rw [show max dp (outs.length + 2) = outs.length + 1 + 1 by omega]
    obtain ⟨a1, a2, a3, a4, a5, a6, a7, a8, a9, a10, a11, a12, a13, a14, a15, a16, a17, a18⟩ := hM4
    refine ⟨?_, ?_, ?_, ?_, ?_, ?_, ?_, ?_, ?_, ?_, ?_, ?_, ?_, ?_, ?_, ?_, ?_, ?_⟩ <;> first | exact us | (rw [un (by decide)]; assumption)
end RINNER
