/-! ===== PURE PART 18: the reference's reader: one item, an opening ===== -/
section RITEM
variable {N n ob hb sb base A lim np k kz pos ags : Nat} {b : Nat → Nat} {sv : Nat → Int32} {outs : List Fr} {l1 l2 : Int64} {dp it : Nat} {ia ca ga : Int32} {f0 f1 f2 f3 f4 f5 f6 f7 f8 f9 f10 f11 : Nat → Int32} {G : GS}
theorem R_np (hWS : WS b n lim base np outs) (hSt : StR b f2 f3 f4 f5 f6 f7 f9 f10 f11 base np outs A) : (outs = [] → np = n) ∧ (outs ≠ [] → f6 outs.length = nI np) := by
  refine ⟨fun h => ?_, fun h => ?_⟩
  · subst h; exact hWS.2.2
  · cases outs with
    | nil => exact absurd rfl h
    | cons fr o => obtain ⟨b2, l2', n2, a2⟩ := fr; exact hSt.2.1
/-- c bytes from p on -/
theorem R_raw {c p : Nat} (hN : 1000 < N) {fy : Nat → Int32} (hR : RR sv b n ob hb sb fy f1 f2 f3 f4 f5 f6 f7 f8 f9 f10 f11 p 0 base lim np outs A dp it ia ca ga G) (hM : Mo f0 n outs.length (A + ags) p 0 0 (-1) G.2.2.1 G.2.2.2.1 G.2.2.2.2.1 dp it ob hb sb ia ca ga) (hAg : AgR b f9 f10 f11 A (pos - ags) ags (G.1 - base)) (hAp : A + ags ≤ pos) (hS : Sx b n ob hb sb pos ags base lim np outs dp G) (hpp : pos < p) (hp : p ≤ lim) (hc : c < 70000) (hk : k < kz) (hkp : n < k + p) :
    ∃ x0 x2 x3 x4 x5 x6 x7 x8 x9 x10 x11, bd3 (pX7_raw N (nI c) (nI pos) f0 l1 l2 f1 f2 f3 f4 f6 f7 f8 f9 f10 f11) (fun f0_37 f3_38 f8_39 => some (f0_37, f2, f3_38, f4, f5, f6, f7, f8_39, f9, f10, f11)) = some (x0, x2, x3, x4, x5, x6, x7, x8, x9, x10, x11) ∧
      OutR sv b n ob hb sb f1 kz (spR (sp sv b n ob hb sb k) sv b ob hb sb c p pos ags base lim np outs dp it ia ca ga G) x0 x2 x3 x4 x5 x6 x7 x8 x9 x10 x11 := by
  obtain ⟨hsv, -, h2, h3, h30, h4, h7, hSt, -, h8, hmx, -, hnpos⟩ := hR
  obtain ⟨hW, hWS, hOU, hl, hbs, hple, hdp, hag0, hag⟩ := hS
  obtain ⟨w1, w2, w3, w4, w5, w6, w7, w8, w9, w10, w11⟩ := id hW
  have hlim := (WS_lim hWS).1
  unfold pX7_raw spR
  by_cases cl : lim < p + c
  · obtain ⟨g, e1, e2⟩ := m_has_f (l1 := l1) (l2 := l2) (c := c) (f6 := f6) (outs := outs) rfl (by omega) (by omega) h4 cl (by omega) (R_np hWS hSt) hM
    have hmk : 0 < mK outs ∧ mK outs ≤ 2 := by unfold mK; split <;> omega
    rw [e1, bd2_s, if_pos rfl, bd3_s, if_pos cl]
    exact ⟨_, _, _, _, _, _, _, _, _, _, _, rfl, Or.inl ⟨_, rfl, Fm_of (by omega) hW e2 h30 h8 ⟨fun h => absurd h (by omega), fun _ => Nat.zero_le _⟩⟩⟩
  · rw [if_neg cl, m_has_t (c := c) (by omega) (by omega) h4 (by omega) hM, bd2_s, if_neg (by decide)]
    have hd0 : outs.length = 0 → G.2.2.2.2.2 = G.1 - base := by
      intro h
      cases outs with
      | nil => rw [w11 rfl, hWS.2.1]; rfl
      | cons a o => simp at h
    obtain ⟨g0, e1, e2⟩ := R_raw_loop (N := N) (l1 := l1) (l2 := l2) (f1 := f1) (f4 := f4) (f6 := f6) (f7 := f7) (f9 := f9) (f10 := f10) (f11 := f11) (p := nI pos) (c := c) (isO_dec outs) (by omega) w4 w3 w2 hc h2 N 0 p G.1 G.2.2.1 G.2.2.2.1 G.2.2.2.2.1 G.2.2.2.2.2 f0 f3 f8 (by omega) (by omega) (by omega) w6 (by omega) w9 hmx (by omega) h3 hbs (by omega) h30 hd0 hM
    simp only [Nat.sub_zero] at e1 e2
    replace e1 : bfX7_raw_11 N (nI c) (nI pos) l1 l2 f1 f2 f4 f6 f7 f9 f10 f11 N 0 f0 f3 f8 = _ := e1
    rw [e1]
    unfold bfX7_raw_56
    have hq := (aQ_le ob hb sb (isO outs) c G.2.2.1 G.2.2.2.1 G.2.2.2.2.2).1
    obtain ⟨x0, x3, x8, e3, e4⟩ := R_gD (N := N) (n := n) (sv := sv) (b := b) (outs := outs) (l1 := l1) (l2 := l2) (f1 := f1) (f5 := f5) (f6 := f6) (k := k) (kz := kz) (p2 := p + c) (c := c) (place := pos) (ags := ags) (g8 := rwR f8 G.1 f1 p (aQ ob hb sb (isO outs) c G.2.2.1 G.2.2.2.1 G.2.2.2.2.2)) (rwR G.2.1 G.1 sv p) hN hsv h2 h3 h30 h4 h7 hSt hAg hAp (by omega) (fun h => by have := hnpos h; omega) hag0 hag (fun i hi => rwR_c _ h8 (fun j h1 h2 => hsv j (by omega)) i hi) hbs hW hWS hOU hl hdp (by omega) (fun h => by have h' : aQ ob hb sb (isO outs) c G.2.2.1 G.2.2.2.1 G.2.2.2.2.2 = c := h; rw [h']) e2 hk (by omega)
    replace e3 : pX7_done N g0 l1 l2 f2 (upd f3 outs.length (nI (G.1 + aQ ob hb sb (isO outs) c G.2.2.1 G.2.2.2.1 G.2.2.2.2.2 - base))) f7 (rwR f8 G.1 f1 p (aQ ob hb sb (isO outs) c G.2.2.1 G.2.2.2.1 G.2.2.2.2.2)) f9 f10 f11 = some (x0, x3, x8) := e3
    rw [e3, bd3_s, bd3_s]
    exact ⟨_, _, _, _, _, _, _, _, _, _, _, rfl, e4⟩
/-- COPY -/
theorem R_copy (hsb : ∀ i, i < n → sv i = nI (b i) ∧ b i < 256) (hN : 1000 < N) {fy : Nat → Int32} (hR : RR sv b n ob hb sb fy f1 f2 f3 f4 f5 f6 f7 f8 f9 f10 f11 (pos + 1) 0 base lim np outs A dp it ia ca ga G) (hM : Mo f0 n outs.length (A + ags) (pos + 1) 0 0 (-1) G.2.2.1 G.2.2.2.1 G.2.2.2.2.1 dp it ob hb sb ia ca ga) (hAg : AgR b f9 f10 f11 A (pos - ags) ags (G.1 - base)) (hAp : A + ags ≤ pos) (hS : Sx b n ob hb sb pos ags base lim np outs dp G) (hp : pos + 1 ≤ lim) (ht : 64 ≤ b pos) (ht2 : b pos < 128) (hk : k < kz) (hkp : n < k + (pos + 1)) :
    ∃ x0 x2 x3 x4 x5 x6 x7 x8 x9 x10 x11, bd3 (pX7_copy N (nI (b pos - 62)) (nI pos) f0 l1 l2 f1 f2 f3 f4 f6 f7 f8 f9 f10 f11) (fun f0_50 f3_51 f8_52 => some (f0_50, f2, f3_51, f4, f5, f6, f7, f8_52, f9, f10, f11)) = some (x0, x2, x3, x4, x5, x6, x7, x8, x9, x10, x11) ∧
      OutR sv b n ob hb sb f1 kz (spC (sp sv b n ob hb sb k) b ob hb sb pos ags base lim np outs dp it ia ca ga G) x0 x2 x3 x4 x5 x6 x7 x8 x9 x10 x11 := by
  obtain ⟨hsv, -, h2, h3, h30, h4, h7, hSt, -, h8, hmx, -, hnpos⟩ := hR
  obtain ⟨hW, hWS, hOU, hl, hbs, hple, hdp, hag0, hag⟩ := hS
  obtain ⟨w1, w2, w3, w4, w5, w6, w7, w8, w9, w10, w11⟩ := id hW
  have hlim := (WS_lim hWS).1
  have e0 : pX7_copy N (nI (b pos - 62)) (nI pos) f0 l1 l2 f1 f2 f3 f4 f6 f7 f8 f9 f10 f11 = bfX7_copy_17 N (nI (b pos - 62)) (nI pos) l1 l2 f1 f2 f4 f6 f7 f9 f10 f11 (fst_ ca pos) f0 f3 f8 := by
    unfold pX7_copy fst_
    rw [hM.2.2.2.2.2.2.2.2.2.2.2.2.2.2.2.2.1]
    split <;> rfl
  rw [e0]
  unfold bfX7_copy_17 spC
  rw [lt_x]
  have hM2 : Mo (upd f0 27 (fst_ ca pos)) n outs.length (A + ags) (pos + 1) 0 0 (-1) G.2.2.1 G.2.2.2.1 G.2.2.2.2.1 dp it ob hb sb ia (fst_ ca pos) ga := by
    obtain ⟨a1, a2, a3, a4, a5, a6, a7, a8, a9, a10, a11, a12, a13, a14, a15, a16, a17, a18⟩ := hM
    refine ⟨?_, ?_, ?_, ?_, ?_, ?_, ?_, ?_, ?_, ?_, ?_, ?_, ?_, ?_, ?_, ?_, ?_, ?_⟩ <;> first | exact us | (rw [un (by decide)]; assumption)
  generalize upd f0 27 (fst_ ca pos) = y0 at hM2 ⊢
  by_cases cl : lim < pos + 2
  · obtain ⟨g, e1, e2⟩ := m_has_f (l1 := l1) (l2 := l2) (c := 1) (f6 := f6) (outs := outs) rfl (by omega) (by omega) h4 (by omega) (by omega) (R_np hWS hSt) hM2
    have hmk : 0 < mK outs ∧ mK outs ≤ 2 := by unfold mK; split <;> omega
    replace e1 : pX7_has 1 y0 l1 l2 f4 f6 = some (0, g) := e1
    rw [e1, bd2_s, if_pos rfl, bd3_s, if_pos cl]
    exact ⟨_, _, _, _, _, _, _, _, _, _, _, rfl, Or.inl ⟨_, rfl, Fm_of (by omega) hW e2 h30 h8 ⟨fun h => absurd h (by omega), fun _ => Nat.zero_le _⟩⟩⟩
  · have hh : pX7_has 1 y0 l1 l2 f4 f6 = some (1, y0) := m_has_t (c := 1) (by omega) (by omega) h4 (by omega) hM2
    have hb1 := hsb (pos + 1) (by omega)
    rw [if_neg cl, hh, bd2_s, if_neg (by decide), hM2.2.2.2.1, gi_ok (by omega) (by omega), ncl (by omega), hsv (pos + 1) (by omega), hb1.1, lt_x, nI_1, hM2.2.1, gi_ok (by omega) (by omega), ncl (by omega), h3]
    by_cases cf : G.1 - base < b (pos + 1) + 1
    · obtain ⟨g, e1, e2⟩ := m_fault (l1 := l1) (l2 := l2) (k := 3) (p := nI (pos + 1)) (kn := 3) rfl hM2
      rw [if_neg (nI_ge cf (by omega)), e1, bd1_s, bd3_s, if_pos cf]
      exact ⟨_, _, _, _, _, _, _, _, _, _, _, rfl, Or.inl ⟨_, rfl, Fm_of (by omega) hW e2 h30 h8 ⟨fun h => absurd h (by omega), fun _ => Nat.zero_le _⟩⟩⟩
    · rw [if_pos (nI_le (by omega) (by omega)), if_neg cf, lt_x, nI_1]
      have hM3 : Mo (upd y0 14 (nI (pos + 1 + 1))) n outs.length (A + ags) (pos + 2) 0 0 (-1) G.2.2.1 G.2.2.2.1 G.2.2.2.2.1 dp it ob hb sb ia (fst_ ca pos) ga := by
        obtain ⟨a1, a2, a3, a4, a5, a6, a7, a8, a9, a10, a11, a12, a13, a14, a15, a16, a17, a18⟩ := hM2
        refine ⟨?_, ?_, ?_, ?_, ?_, ?_, ?_, ?_, ?_, ?_, ?_, ?_, ?_, ?_, ?_, ?_, ?_, ?_⟩ <;> first | exact us | (rw [un (by decide)]; assumption)
      have hd0 : outs.length = 0 → G.2.2.2.2.2 = G.1 - base := by
        intro h
        cases outs with
        | nil => rw [w11 rfl, hWS.2.1]; rfl
        | cons a o => simp at h
      obtain ⟨g0, e1, e2⟩ := R_copy_loop (N := N) (l1 := l1) (l2 := l2) (f1 := f1) (f4 := f4) (f6 := f6) (f7 := f7) (f9 := f9) (f10 := f10) (f11 := f11) (p := nI pos) (c := b pos - 62) (far := b (pos + 1) + 1) (isO_dec outs) (by omega) w4 w3 w2 (by omega) h2 (by omega) N 0 (pos + 2) G.1 G.2.2.1 G.2.2.2.1 G.2.2.2.2.1 G.2.2.2.2.2 (upd y0 14 (nI (pos + 1 + 1))) f3 f8 (by omega) (by omega) w6 (by omega) w9 hmx (by omega) h3 hbs (by omega) (by omega) h30 hd0 hM3
      simp only [Nat.sub_zero] at e1 e2
      replace e1 : bfX7_copy_77 N (nI (b pos - 62)) (nI pos) l1 l2 f1 f2 f4 f6 f7 f9 f10 f11 N (nI (b (pos + 1) + 1)) 0 (upd y0 14 (nI (pos + 1 + 1))) f3 f8 = _ := e1
      rw [e1]
      unfold bfX7_copy_129
      obtain ⟨x0, x3, x8, e3, e4⟩ := R_gD (N := N) (n := n) (sv := sv) (b := b) (outs := outs) (l1 := l1) (l2 := l2) (f1 := f1) (f5 := f5) (f6 := f6) (k := k) (kz := kz) (p2 := pos + 2) (c := b pos - 62) (place := pos) (ags := ags) (g8 := cpR f8 G.1 (b (pos + 1) + 1) (aQ ob hb sb (isO outs) (b pos - 62) G.2.2.1 G.2.2.2.1 G.2.2.2.2.2)) (cpR G.2.1 G.1 (b (pos + 1) + 1)) hN hsv h2 h3 h30 h4 h7 hSt hAg hAp (by omega) (fun h => by have := hnpos h; omega) hag0 hag (fun i hi => cpR_c (by omega) (by omega) h8 _ i hi) hbs hW hWS hOU hl hdp (by omega) (fun _ => rfl) e2 hk (by omega)
      replace e3 : pX7_done N g0 l1 l2 f2 (upd f3 outs.length (nI (G.1 + aQ ob hb sb (isO outs) (b pos - 62) G.2.2.1 G.2.2.2.1 G.2.2.2.2.2 - base))) f7 (cpR f8 G.1 (b (pos + 1) + 1) (aQ ob hb sb (isO outs) (b pos - 62) G.2.2.1 G.2.2.2.1 G.2.2.2.2.2)) f9 f10 f11 = some (x0, x3, x8) := e3
      rw [e3, bd3_s, bd3_s]
      exact ⟨_, _, _, _, _, _, _, _, _, _, _, rfl, e4⟩
end RITEM
