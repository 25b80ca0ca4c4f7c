/-! ===== PURE PART 20: the reference's reader: an item, an opening ===== -/
section RIT
variable {N n ob hb sb base A lim np k pos ags : Nat} {b : Nat → Nat} {sv : Nat → Int32} {outs : List Fr} {l1 l2 : Int64} {dp it : Nat} {ia ca ga : Int32} {f0 f1 f2 f3 f4 f5 f6 f7 f8 f9 f10 f11 : Nat → Int32} {G : GS}
theorem R_item (hsb : ∀ i, i < n → sv i = nI (b i) ∧ b i < 256) (hN : 1000 < N) (hR : RR sv b n ob hb sb f0 f1 f2 f3 f4 f5 f6 f7 f8 f9 f10 f11 pos ags base lim np outs A dp it ia ca ga G) (hS : Sx b n ob hb sb pos ags base lim np outs dp G) (hkp : n < k + pos) :
    ∃ x0 x2 x3 x4 x5 x6 x7 x8 x9 x10 x11, pX7_item N f0 l1 l2 f1 f2 f3 f4 f5 f6 f7 f8 f9 f10 f11 = some (x0, x2, x3, x4, x5, x6, x7, x8, x9, x10, x11) ∧
      OutR sv b n ob hb sb f1 k (sp sv b n ob hb sb k pos ags base lim np outs dp it ia ca ga G) x0 x2 x3 x4 x5 x6 x7 x8 x9 x10 x11 := by
  obtain ⟨hsv, hM, h2, h3, h30, h4, h7, hSt, hAg, h8, hmx, hApos, hnpos⟩ := hR
  have hS0 := hS
  obtain ⟨hW, hWS, hOU, hl, hbs, hple, hdp, hag0, hag⟩ := hS
  obtain ⟨w1, w2, w3, w4, w5, w6, w7, w8, w9, w10, w11⟩ := id hW
  have hlim := (WS_lim hWS).1
  obtain ⟨k, rfl⟩ : ∃ j, k = j + 1 := ⟨k - 1, by omega⟩
  have hsp2 : sp sv b n ob hb sb (k + 1) pos ags base lim np outs dp it ia ca ga G = if lim < pos + 1 then some (rz (mK outs) (nI np) G dp it ia ca ga) else if sb ≤ G.2.2.1 then some (rz 9 (nI pos) G dp it ia ca ga) else spA (sp sv b n ob hb sb k) sv b n ob hb sb pos ags base lim np outs dp (it + 1) ia ca ga (st1 G) := rfl
  rw [hsp2]
  unfold pX7_item
  by_cases cl : lim < pos + 1
  · obtain ⟨g, e1, e2⟩ := m_has_f (l1 := l1) (l2 := l2) (c := 1) (f6 := f6) (outs := outs) rfl (by omega) (by omega) h4 cl (by omega) (R_np hWS hSt) hM
    have hmk : 0 < mK outs ∧ mK outs ≤ 2 := by unfold mK; split <;> omega
    replace e1 : pX7_has 1 f0 l1 l2 f4 f6 = some (0, g) := e1
    rw [e1, bd2_s, if_pos rfl, if_pos cl]
    exact ⟨_, _, _, _, _, _, _, _, _, _, _, rfl, Or.inl ⟨_, rfl, Fm_of (by omega) hW e2 h30 h8 ⟨fun h => absurd h (by omega), fun _ => Nat.zero_le _⟩⟩⟩
  have hh : pX7_has 1 f0 l1 l2 f4 f6 = some (1, f0) := m_has_t (c := 1) (by omega) (by omega) h4 (by omega) hM
  rw [if_neg cl, hh, bd2_s, if_neg (by decide), hM.2.2.2.1]
  by_cases cs : sb ≤ G.2.2.1
  · obtain ⟨g, e1, e2⟩ := m_steps_f (l1 := l1) (l2 := l2) (p := nI pos) (show G.2.2.1 = sb by omega) hM
    rw [e1, bd2_s, if_pos rfl, if_pos cs]
    exact ⟨_, _, _, _, _, _, _, _, _, _, _, rfl, Or.inl ⟨_, rfl, Fm_of (by omega) hW e2 h30 h8 ⟨fun h => absurd h (by omega), fun _ => Nat.zero_le _⟩⟩⟩
  rw [if_neg cs, m_steps_t (by omega) (by omega) hM, bd2_s, if_neg (by decide), lt_x, lt_x, lt_x]
  have hM1 : Mo (upd (upd f0 18 (f0 18 + 1)) 22 (upd f0 18 (f0 18 + 1) 22 + 1)) n outs.length (A + ags) pos 0 0 (-1) (G.2.2.1 + 1) G.2.2.2.1 G.2.2.2.2.1 dp (it + 1) ob hb sb ia ca ga := by
    obtain ⟨a1, a2, a3, a4, a5, a6, a7, a8, a9, a10, a11, a12, a13, a14, a15, a16, a17, a18⟩ := hM
    refine ⟨?_, ?_, ?_, ?_, ?_, ?_, ?_, ?_, ?_, ?_, ?_, ?_, ?_, ?_, ?_, ?_, ?_, ?_⟩ <;> simp [upd, nI_1, *]
  generalize upd (upd f0 18 (f0 18 + 1)) 22 (upd f0 18 (f0 18 + 1) 22 + 1) = y0 at hM1 ⊢
  have hbp := hsb pos (by omega)
  rw [hM1.2.2.2.1, gi_ok (by omega) (by omega), ncl (by omega), hsv pos (by omega), hbp.1, lt_x, lt_x, nI_1]
  have hM2 : Mo (upd y0 14 (nI (pos + 1))) n outs.length (A + ags) (pos + 1) 0 0 (-1) (G.2.2.1 + 1) G.2.2.2.1 G.2.2.2.2.1 dp (it + 1) ob hb sb ia ca ga := by
    obtain ⟨a1, a2, a3, a4, a5, a6, a7, a8, a9, a10, a11, a12, a13, a14, a15, a16, a17, a18⟩ := hM1
    refine ⟨?_, ?_, ?_, ?_, ?_, ?_, ?_, ?_, ?_, ?_, ?_, ?_, ?_, ?_, ?_, ?_, ?_, ?_⟩ <;> first | exact us | (rw [un (by decide)]; assumption)
  generalize upd y0 14 (nI (pos + 1)) = z0 at hM2 ⊢
  have hW1 : Wg n ob hb sb (isO outs) (st1 G) := ⟨w1, w2, w3, w4, w5, by show G.2.2.1 + 1 ≤ sb; omega, w7, w8, w9, w10, w11⟩
  have hS1 : Sx b n ob hb sb pos ags base lim np outs dp (st1 G) := ⟨hW1, hWS, hOU, hl, hbs, hple, hdp, hag0, hag⟩
  have hy0 : ∀ (p : Nat) (y : Nat → Int32), Mo y n outs.length (A + ags) p 0 0 (-1) (G.2.2.1 + 1) G.2.2.2.1 G.2.2.2.2.1 dp (it + 1) ob hb sb ia ca ga → pos + 1 ≤ p → RR sv b n ob hb sb (upd y 10 (nI (A + 0))) f1 f2 f3 f4 f5 f6 f7 f8 f9 f10 f11 p 0 base lim np outs A dp (it + 1) ia ca ga (st1 G) := by
    intro p y hy hp
    refine ⟨hsv, ?_, h2, h3, h30, h4, h7, hSt, fun i hi => absurd hi (by omega), h8, hmx, by omega, fun h => by have := hnpos h; omega⟩
    obtain ⟨a1, a2, a3, a4, a5, a6, a7, a8, a9, a10, a11, a12, a13, a14, a15, a16, a17, a18⟩ := hy
    refine ⟨?_, ?_, ?_, ?_, ?_, ?_, ?_, ?_, ?_, ?_, ?_, ?_, ?_, ?_, ?_, ?_, ?_, ?_⟩ <;> first | exact us | (rw [un (by decide)]; assumption)
  have hR2 := hy0 (pos + 1) z0 hM2 (Nat.le_refl _)
  unfold spA
  by_cases t0 : b pos = 0
  · rw [if_pos (by rw [t0]; rfl), if_pos t0, hM2.2.1, gi_ok (by omega) (by omega), ncl (by omega), hM2.2.2.1, h7]
    by_cases ca0 : 0 < ags
    · obtain ⟨g, e1, e2⟩ := m_fault (l1 := l1) (l2 := l2) (k := 7) (p := nI pos) (kn := 7) rfl hM2
      rw [if_neg (nI_ge (by omega) (by omega)), e1, bd1_s]
      unfold spE
      rw [if_pos ca0]
      exact ⟨_, _, _, _, _, _, _, _, _, _, _, rfl, Or.inl ⟨_, rfl, Fm_of (by omega) hW1 e2 h30 h8 ⟨fun h => absurd h (by omega), fun _ => Nat.zero_le _⟩⟩⟩
    · have ea : ags = 0 := by omega
      subst ea
      rw [if_pos (nI_le (by omega) (by omega))]
      exact R_end hsb hN ⟨hsv, hM2, h2, h3, h30, h4, h7, hSt, fun i hi => absurd hi (by omega), h8, hmx, by omega, fun h => by have := hnpos h; omega⟩ (by omega) hW1 hWS hOU hl hbs hdp (by omega) (by omega) (by omega)
  rw [if_neg (nI_ne0 (by omega) (by omega)), if_neg t0]
  by_cases t1 : b pos < 64
  · rw [if_neg (by rw [k64]; exact nI_ge t1 (by omega)), if_pos t1]
    exact R_raw hN hR2 hM2 hAg hApos hS1 (by omega) (by omega) (by omega) (by omega) (by omega)
  rw [if_pos (by rw [k64]; exact nI_le (by omega) (by omega)), if_neg t1]
  by_cases t2 : b pos < 128
  · rw [if_neg (by rw [k128]; exact nI_ge t2 (by omega)), if_pos t2, k62, nsub (by omega)]
    exact R_copy hsb hN hR2 hM2 hAg hApos hS1 (by omega) (by omega) t2 (by omega) (by omega)
  rw [if_pos (by rw [k128]; exact nI_le (by omega) (by omega)), if_neg t2]
  by_cases t3 : b pos < 192
  · rw [if_neg (by rw [k192]; exact nI_ge t3 (by omega)), if_pos t3]
    have e0 : ∀ w : Int32, w = fst_ ga pos → bfX7_item_160 N l1 l2 f1 (nI pos) (nI (b pos)) w z0 f2 f3 f4 f5 f6 f7 f8 f9 f10 f11 = some (upd (upd z0 28 (fst_ ga pos)) 10 (nI (A + ags + 1)), f2, f3, f4, f5, f6, f7, f8, upd f9 (A + ags) (nI (b pos - 126)), upd f10 (A + ags) (nI pos), upd f11 (A + ags) (nI (G.1 - base))) := by
      intro w hw
      subst hw
      unfold bfX7_item_160
      have q10 : upd z0 28 (fst_ ga pos) 10 = nI (A + ags) := by rw [un (by decide)]; exact hM2.2.2.1
      have q2 : upd z0 28 (fst_ ga pos) 2 = nI outs.length := by rw [un (by decide)]; exact hM2.2.1
      rw [lt_x, q10, q2]
      simp only [gi_ok (show A + ags < 170 by omega) (show 170 < 2 ^ 31 by decide), gi_ok (show outs.length < 6 by omega) (show 6 < 2 ^ 31 by decide), ncl (show A + ags < 2 ^ 31 by omega), ncl (show outs.length < 2 ^ 31 by omega), lt_x, h3, nI_1, k126, nsub (show 126 ≤ b pos by omega)]
    have e1 : (if z0 28 = -1 then bfX7_item_160 N l1 l2 f1 (nI pos) (nI (b pos)) (nI pos) z0 f2 f3 f4 f5 f6 f7 f8 f9 f10 f11 else bfX7_item_160 N l1 l2 f1 (nI pos) (nI (b pos)) (z0 28) z0 f2 f3 f4 f5 f6 f7 f8 f9 f10 f11) = some (upd (upd z0 28 (fst_ ga pos)) 10 (nI (A + ags + 1)), f2, f3, f4, f5, f6, f7, f8, upd f9 (A + ags) (nI (b pos - 126)), upd f10 (A + ags) (nI pos), upd f11 (A + ags) (nI (G.1 - base))) := by
      have hz := hM2.2.2.2.2.2.2.2.2.2.2.2.2.2.2.2.2.2
      rw [hz]
      by_cases c : ga = -1
      · rw [if_pos c, e0 (nI pos) (by unfold fst_; rw [if_pos c])]
      · rw [if_neg c, e0 ga (by unfold fst_; rw [if_neg c])]
    rw [e1]
    refine ⟨_, _, _, _, _, _, _, _, _, _, _, rfl, Or.inr ⟨k, pos + 1, ags + 1, base, lim, np, outs, A, dp, it + 1, ia, ca, fst_ ga pos, st1 G, rfl, by omega, by omega, ⟨hsv, ?_, h2, h3, h30, h4, h7, StR_c (fun j _ => ⟨rfl, rfl, rfl, rfl⟩) (fun j _ => ⟨rfl, rfl⟩) (fun j hj => ⟨un (by omega), un (by omega), un (by omega)⟩) hSt, ?_, h8, hmx, by omega, fun h => by have := hnpos h; omega⟩, hW1, hWS, hOU, hl, hbs, by omega, hdp, by omega, ?_⟩⟩
    · obtain ⟨a1, a2, a3, a4, a5, a6, a7, a8, a9, a10, a11, a12, a13, a14, a15, a16, a17, a18⟩ := hM2
      refine ⟨?_, ?_, ?_, ?_, ?_, ?_, ?_, ?_, ?_, ?_, ?_, ?_, ?_, ?_, ?_, ?_, ?_, ?_⟩ <;> first | exact us | (rw [un (by decide)]; exact us) | (rw [un (by decide), un (by decide)]; assumption)
    · intro i hi
      rw [show pos + 1 - (ags + 1) = pos - ags by omega]
      by_cases ci : i = ags
      · subst ci
        rw [us, us, us, show pos - i + i = pos by omega]
        exact ⟨rfl, rfl, rfl, by omega, t3⟩
      · rw [un (by omega), un (by omega), un (by omega)]
        exact hAg i (by omega)
    · intro i h1 h2
      by_cases ci : i = pos
      · subst ci; exact ⟨by omega, t3⟩
      · exact hag i (by omega) (by omega)
  rw [if_pos (by rw [k192]; exact nI_le (by omega) (by omega)), if_neg t3]
  by_cases t4 : b pos < 255
  · rw [if_neg (by rw [k255]; exact nI_ge t4 (by omega)), if_pos t4]
    exact R_inner hsb hR2 hM2 hAg hApos hS1 (by omega) (by omega) (by omega)
  rw [if_pos (by rw [k255]; exact nI_le (by omega) (by omega)), if_neg t4]
  by_cases cw : lim < pos + 3
  · obtain ⟨g, e1, e2⟩ := m_has_f (l1 := l1) (l2 := l2) (c := 2) (f6 := f6) (outs := outs) rfl (by omega) (by omega) h4 (by omega) (by omega) (R_np hWS hSt) hM2
    have hmk : 0 < mK outs ∧ mK outs ≤ 2 := by unfold mK; split <;> omega
    replace e1 : pX7_has 2 z0 l1 l2 f4 f6 = some (0, g) := e1
    rw [e1, bd2_s, if_pos rfl, if_pos cw]
    exact ⟨_, _, _, _, _, _, _, _, _, _, _, rfl, Or.inl ⟨_, rfl, Fm_of (by omega) hW1 e2 h30 h8 ⟨fun h => absurd h (by omega), fun _ => Nat.zero_le _⟩⟩⟩
  have hh2 : pX7_has 2 z0 l1 l2 f4 f6 = some (1, z0) := m_has_t (c := 2) (by omega) (by omega) h4 (by omega) hM2
  have hb1 := hsb (pos + 1) (by omega)
  have hb2 := hsb (pos + 2) (by omega)
  have hM3 : Mo (upd z0 14 (nI (pos + 3))) n outs.length (A + ags) (pos + 3) 0 0 (-1) (G.2.2.1 + 1) G.2.2.2.1 G.2.2.2.2.1 dp (it + 1) ob hb sb ia ca ga := by
    obtain ⟨a1, a2, a3, a4, a5, a6, a7, a8, a9, a10, a11, a12, a13, a14, a15, a16, a17, a18⟩ := hM2
    refine ⟨?_, ?_, ?_, ?_, ?_, ?_, ?_, ?_, ?_, ?_, ?_, ?_, ?_, ?_, ?_, ?_, ?_, ?_⟩ <;> first | exact us | (rw [un (by decide)]; assumption)
  rw [hh2, bd2_s, if_neg (by decide), hM2.2.2.2.1, gi_ok (by omega) (by omega), nI_1, gi_ok (by omega) (by omega), lt_x, lt_x, ncl (by omega), ncl (by omega), hsv (pos + 1) (by omega), hsv (pos + 1 + 1) (by omega), hb1.1, hb2.1, k256, pk_mul, nI_add, k2, nI_add, if_neg cw, show pos + 1 + 2 = pos + 3 by omega]
  exact R_raw hN (hy0 (pos + 3) _ hM3 (by omega)) hM3 hAg hApos hS1 (by omega) (by omega) (by omega) (by omega) (by omega)
end RIT
section RRUN
variable {N n ob hb sb : Nat} {b : Nat → Nat} {sv : Nat → Int32} {l1 l2 : Int64} {f1 : Nat → Int32} {a1 a2 a3 : Int32}
theorem R_loop (hsb : ∀ i, i < n → sv i = nI (b i) ∧ b i < 256) (hN : 1000 < N) :
    ∀ (k m pos ags base lim np : Nat) (outs : List Fr) (A dp it : Nat) (ia ca ga : Int32) (G : GS) (f0 f2 f3 f4 f5 f6 f7 f8 f9 f10 f11 : Nat → Int32), k < m → RR sv b n ob hb sb f0 f1 f2 f3 f4 f5 f6 f7 f8 f9 f10 f11 pos ags base lim np outs A dp it ia ca ga G → Sx b n ob hb sb pos ags base lim np outs dp G → n < k + pos →
      ∃ r x0 x2 x3 x4 x5 x6 x7 x8 x9 x10 x11, sp sv b n ob hb sb k pos ags base lim np outs dp it ia ca ga G = some r ∧ bfX7_run_95 N a1 a2 a3 l1 l2 f1 m f0 f2 f3 f4 f5 f6 f7 f8 f9 f10 f11 = some (x0, x2, x3, x4, x5, x6, x7, x8, x9, x10, x11) ∧ Fm n ob hb sb r x0 x3 x8 := by
  intro k
  induction k using Nat.strongRecOn with
  | _ k ih =>
    intro m pos ags base lim np outs A dp it ia ca ga G f0 f2 f3 f4 f5 f6 f7 f8 f9 f10 f11 hm hR hS hkp
    obtain ⟨m, rfl⟩ : ∃ j, m = j + 1 := ⟨m - 1, by omega⟩
    have hlim := (WS_lim hS.2.1).1
    have hpl := hS.2.2.2.2.2.1
    obtain ⟨x0, x2, x3, x4, x5, x6, x7, x8, x9, x10, x11, e1, e2⟩ := R_item (l1 := l1) (l2 := l2) (k := k) hsb hN hR hS hkp
    show ∃ r x0 x2 x3 x4 x5 x6 x7 x8 x9 x10 x11, _ ∧ bFX7_run_95 N a1 a2 a3 l1 l2 f1 (bfX7_run_95 N a1 a2 a3 l1 l2 f1 m) f0 f2 f3 f4 f5 f6 f7 f8 f9 f10 f11 = _ ∧ _
    unfold bFX7_run_95
    have hM := hR.2.1
    rw [if_pos (by rw [hM.2.2.2.2.1]; rfl), if_pos (by rw [hM.2.2.2.2.2.1]; rfl), e1]
    show ∃ r y0 y2 y3 y4 y5 y6 y7 y8 y9 y10 y11, _ ∧ bfX7_run_95 N a1 a2 a3 l1 l2 f1 m x0 x2 x3 x4 x5 x6 x7 x8 x9 x10 x11 = some (y0, y2, y3, y4, y5, y6, y7, y8, y9, y10, y11) ∧ _
    rcases e2 with ⟨r, e3, e4⟩ | ⟨k', pos', ags', base', lim', np', outs', A', dp', it', ia', ca', ga', G', e3, e4, e5, e6, e7⟩
    · refine ⟨r, x0, x2, x3, x4, x5, x6, x7, x8, x9, x10, x11, e3, ?_, e4⟩
      obtain ⟨d, ag, ps, en, hd, hMo, h3, h8, hk10, hou, hen, hen2⟩ := e4
      obtain ⟨m, rfl⟩ : ∃ j, m = j + 1 := ⟨m - 1, by omega⟩
      show bFX7_run_95 N a1 a2 a3 l1 l2 f1 (bfX7_run_95 N a1 a2 a3 l1 l2 f1 m) x0 x2 x3 x4 x5 x6 x7 x8 x9 x10 x11 = _
      unfold bFX7_run_95
      by_cases c : r.1 = 0
      · rw [if_neg (by rw [hMo.2.2.2.2.1, hen c]; decide)]
      · split
        · rw [if_neg (by rw [hMo.2.2.2.2.2.1]; exact nI_ne0 (by omega) (by omega))]
        · rfl
    · rw [e3]
      exact ih k' e4 m pos' ags' base' lim' np' outs' A' dp' it' ia' ca' ga' G' x0 x2 x3 x4 x5 x6 x7 x8 x9 x10 x11 (by omega) e6 e7 e5
/-- AN OPENING by the reference -/
theorem R_run (hsb : ∀ i, i < n → sv i = nI (b i) ∧ b i < 256) (hN : 1000 < N) {f0 f2 f3 f4 f5 f6 f7 f8 f9 f10 f11 row : Nat → Int32} (hn : n ≤ 160) (ho : ob ≤ 400) (hh : hb ≤ 800) (hs : sb ≤ 1500) (h1 : f0 1 = nI n) (hsv : ∀ i, i < n → f1 i = sv i) :
    ∃ r x0 x2 x3 x4 x5 x6 x7 x8 x9 x10 x11, spO sv b n ob hb sb row = some r ∧ pX7_run N (nI ob) (nI hb) (nI sb) f0 l1 l2 f1 f2 f3 f4 f5 f6 f7 f8 f9 f10 f11 = some (x0, x2, x3, x4, x5, x6, x7, x8, x9, x10, x11) ∧ Fm n ob hb sb r x0 x3 x8 := by
  unfold pX7_run
  simp only [lt_x]
  generalize hy : upd (upd (upd (upd (upd (upd (upd (upd (upd (upd (upd (upd (upd (upd (upd (upd (upd f0 23 (nI ob)) 24 (nI hb)) 25 (nI sb)) 2 0) 10 0) 14 0) 15 0) 16 0) 17 (-1)) 18 0) 19 0) 20 0) 21 0) 22 0) 26 (-1)) 27 (-1)) 28 (-1) = y0
  have hM : Mo y0 n 0 0 0 0 0 (-1) 0 0 0 0 0 ob hb sb (-1) (-1) (-1) := by
    subst hy
    refine ⟨?_, ?_, ?_, ?_, ?_, ?_, ?_, ?_, ?_, ?_, ?_, ?_, ?_, ?_, ?_, ?_, ?_, ?_⟩ <;> first | rfl | exact h1
  unfold pX7_opens bfX7_opens_42
  rw [hM.1, hM.2.1, if_pos (by rfl)]
  simp only [gi_ok (show 0 < 6 by omega) (show 6 < 2 ^ 31 by decide), ncl (show 0 < 2 ^ 31 by decide), lt_x, hM.2.2.1, hM.2.2.2.2.2.2.2.2.2.2.1]
  rw [if_neg (by decide), bd7_s]
  have hM2 : Mo (upd y0 21 (nI 0 + 1)) n 0 (0 + 0) 0 0 0 (-1) 0 0 0 1 0 ob hb sb (-1) (-1) (-1) := by
    obtain ⟨a1, a2, a3, a4, a5, a6, a7, a8, a9, a10, a11, a12, a13, a14, a15, a16, a17, a18⟩ := hM
    refine ⟨?_, ?_, ?_, ?_, ?_, ?_, ?_, ?_, ?_, ?_, ?_, ?_, ?_, ?_, ?_, ?_, ?_, ?_⟩ <;> first | exact us | (rw [un (by decide)]; assumption)
  have := R_loop (l1 := l1) (l2 := l2) (f1 := f1) (a1 := nI ob) (a2 := nI hb) (a3 := nI sb) (ob := ob) (hb := hb) (sb := sb) hsb hN (n + 1) N 0 0 0 n n [] 0 1 0 (-1) (-1) (-1) (0, row, 0, 0, 0, 0) (upd y0 21 (nI 0 + 1)) (upd f2 0 0) (upd f3 0 0) (upd f4 0 (nI n)) (upd f5 0 (-1)) (upd f6 0 (-1)) (upd f7 0 (nI 0)) f8 f9 f10 f11 (by omega) ⟨hsv, hM2, us, us, us, us, us, rfl, fun i hi => absurd hi (by omega), fun i hi => absurd hi (Nat.not_lt_zero i), Nat.le_refl _, Nat.le_refl _, fun h => absurd rfl h⟩ ⟨⟨hn, ho, hh, hs, rfl, Nat.zero_le _, Nat.zero_le _, Nat.zero_le _, Nat.zero_le _, Nat.zero_le _, fun _ => rfl⟩, ⟨rfl, rfl, rfl⟩, trivial, by simp, Nat.le_refl _, Nat.zero_le _, by omega, by omega, fun i h1 h2 => absurd h2 (by omega)⟩ (by omega)
  obtain ⟨r, x0, x2, x3, x4, x5, x6, x7, x8, x9, x10, x11, e1, e2, e3⟩ := this
  exact ⟨r, x0, x2, x3, x4, x5, x6, x7, x8, x9, x10, x11, e1, e2, e3⟩
end RRUN
