/-! ===== PURE PART 24: the plain reader: END, one item, a pack, an opening ===== -/
section PLAIN5
variable {N n ob hb sb : Nat} {b : Nat → Nat} {sv : Nat → Int32} {outs : List Fr} {f0 f1 f2 f3 f4 f5 : Nat → Int32} {dp it lim np base pos ags k k0 pos0 : Nat} {ia ca ga : Int32} {G : GS} {rp : RpT}
theorem P_end_n (hN : 1000 < N) (ha : 0 < ags) (hag : ags ≤ pos) (hp : pos ≤ 160) (hbs : base ≤ G.1) (hW : Wg n ob hb sb (isO outs) G) (hG : Gv f3 f4 f5 ob hb sb 0 (-1) dp it G) {a3 : Int32} :
    ∃ g3, pX3_readEnd N (nI (pos - ags)) (nI pos) a3 (nI base) f0 f1 f2 f3 f4 f5 = some (f0, g3) ∧ Gv g3 f4 f5 ob hb sb 7 (nI pos) dp it G := by
  obtain ⟨w1, w2, w3, w4, w5, w6, w7, w8, w9, w10, w11⟩ := id hW
  unfold pX3_readEnd
  obtain ⟨g3, e1, e2⟩ := c_fail (k := 7) (p := nI pos) (kn := 7) rfl hG.1
  rw [if_neg (nI_ge (by omega) (by omega)), e1, bd1_s]
  unfold bfX3_readEnd_15
  rw [P_take_n e2.2.2.2.1 (by omega) (by omega), bd3_s, r_sum hG.2.1 (by omega) hbs (by omega), bd1_s, c_fail_n e2.2.2.2.1 (by omega) (by omega), bd1_s, ite_self]
  exact ⟨g3, rfl, e2, hG.2⟩
theorem P_end_f (hl : outs.length ≤ 5) (hN : 1000 < N) (hP : Pf f0 (pos + 1) lim np) (hpl : pos + 1 ≤ lim) (hc : lim < pos + 2) (hlim : lim ≤ n) (hbs : base ≤ G.1) (hW : Wg n ob hb sb (isO outs) G) (hG : Gv f3 f4 f5 ob hb sb 0 (-1) dp it G) :
    ∃ g3, pX3_readEnd N (nI pos) (nI pos) (nI (outs.length + 1)) (nI base) f0 f1 f2 f3 f4 f5 = some (f0, g3) ∧ Gv g3 f4 f5 ob hb sb (mK outs) (nI np) dp it G := by
  obtain ⟨w1, w2, w3, w4, w5, w6, w7, w8, w9, w10, w11⟩ := id hW
  have hmk : 0 < mK outs ∧ mK outs ≤ 2 := by unfold mK; split <;> omega
  unfold pX3_readEnd
  rw [if_pos (nI_le (Nat.le_refl _) (by omega))]
  unfold bfX3_readEnd_15
  obtain ⟨g3, e1, e2⟩ := P_take_f (f1 := f1) (f2 := f2) hl hP (by omega) (by omega) hG.1
  rw [e1, bd3_s, r_sum hG.2.1 (by omega) hbs (by omega), bd1_s, c_fail_n e2.2.2.2.1 hmk.1 (by omega), bd1_s, ite_self]
  exact ⟨g3, rfl, e2, hG.2⟩
theorem P_end_s (h1 : f1 1 = nI n) (hsv : ∀ i, i < n → f2 i = sv i) (hN : 1000 < N) (hP : Pf f0 (pos + 1) lim np) (hc : pos + 2 ≤ lim) (hlim : lim ≤ n) (hbs : base ≤ G.1) (hW : Wg n ob hb sb (isO outs) G) (hG : Gv f3 f4 f5 ob hb sb 0 (-1) dp it G) {a3 : Int32} :
    ∃ g3, pX3_readEnd N (nI pos) (nI pos) a3 (nI base) f0 f1 f2 f3 f4 f5 = some (upd f0 5 (nI (pos + 2)), g3) ∧ ((sv (pos + 1) = smR G.2.1 base (G.1 - base) &&& 255 ∧ Gv g3 f4 f5 ob hb sb 0 (-1) dp it G) ∨ (¬ sv (pos + 1) = smR G.2.1 base (G.1 - base) &&& 255 ∧ Gv g3 f4 f5 ob hb sb 4 (nI (pos + 1)) dp it G)) := by
  obtain ⟨w1, w2, w3, w4, w5, w6, w7, w8, w9, w10, w11⟩ := id hW
  unfold pX3_readEnd
  rw [if_pos (nI_le (Nat.le_refl _) (by omega))]
  unfold bfX3_readEnd_15
  have esum : smR f5 base (G.1 - base) = smR G.2.1 base (G.1 - base) := smR_c (fun j h1 h2 => hG.2.2 j (by omega))
  have e5 : upd f0 5 (nI (pos + 1 + 1)) 5 - 1 = nI (pos + 1) := by rw [us, k1, nsub (by omega)]; congr 1
  rw [P_take_t hP h1 w1 hlim (by omega) hG.1.2.2.2.1, bd3_s, r_sum hG.2.1 (by omega) hbs (by omega), bd1_s, hsv (pos + 1) (by omega), esum, e5]
  by_cases cs : sv (pos + 1) = smR G.2.1 base (G.1 - base) &&& 255
  · rw [if_pos cs]
    exact ⟨f3, rfl, Or.inl ⟨cs, hG⟩⟩
  · obtain ⟨g3, e1, e2⟩ := c_fail (k := 4) (p := nI (pos + 1)) (kn := 4) rfl hG.1
    rw [if_neg cs, e1, bd1_s]
    exact ⟨g3, rfl, Or.inr ⟨cs, e2, hG.2⟩⟩
/-- an item that has begun at pos, no AGAIN -/
theorem P_45 (hrp : outs.length < 5 → RpOK sv b n ob hb sb f1 f2 rp ((base, lim, np, ags) :: outs)) (h1 : f1 1 = nI n) (hsv : ∀ i, i < n → f2 i = sv i) (hsb : ∀ i, i < n → sv i = nI (b i) ∧ b i < 256) (hN : 1000 < N) (hP : Pf f0 (pos + 1) lim np) (hG : Gv f3 f4 f5 ob hb sb 0 (-1) dp it G) (hS : Sx b n ob hb sb pos ags base lim np outs dp G) (hmx : G.2.2.2.1 ≤ G.2.2.2.2.1) (hpl : pos + 1 ≤ lim) (hna : ¬ (128 ≤ b pos ∧ b pos < 192)) (hk : k < k0) (hkp : n < k + (pos + 1)) (hpp : pos0 ≤ pos) :
    ∃ w g0 g3 g4 g5, bfX3_readItem_45 N rp (nI (outs.length + 1)) (nI base) f1 f2 (nI (pos - ags)) (nI (b pos)) f0 f3 f4 f5 = some (w, g0, g3, g4, g5) ∧
      OutP sv b n ob hb sb k0 pos0 base lim np outs (spA (sp sv b n ob hb sb k) sv b n ob hb sb pos ags base lim np outs dp it ia ca ga G) w g0 g3 g4 g5 := by
  have hS0 := hS
  obtain ⟨hW, hWS, hOU, hl, hbs, hple, hdp, hag0, hag⟩ := hS
  obtain ⟨w1, w2, w3, w4, w5, w6, w7, w8, w9, w10, w11⟩ := id hW
  have hlim := (WS_lim hWS).1
  have hbp := hsb pos (by omega)
  have hmk : 0 < mK outs ∧ mK outs ≤ 2 := by unfold mK; split <;> omega
  have htop : ∀ x, pX4_top x = some (x 1) := fun x => rfl
  unfold bfX3_readItem_45
  have e8 : nI (pos + 1) - 1 = nI pos := by rw [k1, nsub (by omega)]; congr 1
  rw [c_failed_0 hG.1.2.2.2.1, bd1_s, if_pos rfl, lt_x, hP.2.2, e8, htop, bd1_s, hG.2.1, x_sort hbp.2, bd1_s]
  have hNo : ∀ (a c : Nat), srt (b pos) = a → a < 6 → c < 6 → a ≠ c → ¬ nI (srt (b pos)) = nI c := by
    intro a c h h2 h3 h4 h5
    rw [h] at h5
    exact h4 ((nI_eq (by omega) (by omega)).mp h5)
  unfold spA
  by_cases t0 : b pos = 0
  · -- END
    have hs : srt (b pos) = 0 := by unfold srt; rw [if_pos t0]
    rw [if_pos (by rw [hs]; rfl), if_pos t0]
    unfold spE
    by_cases ca0 : 0 < ags
    · obtain ⟨g3, e1, e2⟩ := P_end_n (N := N) (f0 := f0) (f1 := f1) (f2 := f2) (a3 := nI (outs.length + 1)) hN ca0 hag0 (by omega) hbs hW hG
      rw [e1, bd2_s, if_pos ca0]
      exact ⟨_, _, _, _, _, rfl, OutP_f (by show 0 < 7; omega) (Fz_of (by omega) hW e2)⟩
    · have ea : ags = 0 := by omega
      subst ea
      rw [if_neg ca0]
      have ep : pos - 0 = pos := rfl
      rw [ep]
      by_cases cl : lim < pos + 2
      · obtain ⟨g3, e1, e2⟩ := P_end_f (N := N) (f1 := f1) (f2 := f2) hl hN hP hpl cl hlim hbs hW hG
        rw [e1, bd2_s, if_pos cl]
        exact ⟨_, _, _, _, _, rfl, OutP_f hmk.1 (Fz_of (by omega) hW e2)⟩
      · obtain ⟨g3, e1, e2⟩ := P_end_s (N := N) (sv := sv) (a3 := nI (outs.length + 1)) h1 hsv hN hP (by omega) hlim hbs hW hG
        rw [if_neg cl, e1, bd2_s]
        rcases e2 with ⟨cs, e3⟩ | ⟨cs, e3⟩
        · rw [if_pos cs]
          refine ⟨_, _, _, _, _, rfl, Or.inl ⟨rfl, Or.inr ⟨k, pos + 2, dp, it, ia, ca, ga, G, ?_, hk, by omega, by omega, Pf_u hP, e3, ⟨hW, hWS, hOU, hl, hbs, by omega, hdp, by omega, fun i h1 h2 => absurd h2 (by omega)⟩, hmx⟩⟩⟩
          cases outs with
          | nil => rfl
          | cons x y => rfl
        · rw [if_neg cs]
          exact ⟨_, _, _, _, _, rfl, OutP_f (by show 0 < 4; omega) (Fz_of (by omega) hW e3)⟩
  · rw [if_neg t0]
    have hs0 : ¬ nI (srt (b pos)) = 0 := by
      have : 0 < srt (b pos) ∧ srt (b pos) < 6 := by unfold srt; rw [if_neg t0]; split <;> (try split) <;> (try split) <;> (try split) <;> omega
      change ¬ nI (srt (b pos)) = nI 0; intro e; have := (nI_eq (by omega) (by omega)).mp e; omega
    rw [if_neg hs0]
    -- what a RAW or WIDE does, from its bytes on
    have hraw : ∀ (g1 : Nat → Int32) (c p : Nat), Pf g1 p lim np → pos < p → p ≤ lim → c < 70000 →
        ∃ w g0 g3 g4 g5, bd4 (pX3_readRaw N (nI c) (nI pos) (nI (outs.length + 1)) g1 f1 f2 f3 f4 f5) (fun x y z u => bfX3_readItem_169 N rp (nI (outs.length + 1)) (nI base) f1 f2 (nI (pos - ags)) (nI pos) (nI G.1) x y z u) = some (w, g0, g3, g4, g5) ∧
          OutP sv b n ob hb sb k0 pos0 base lim np outs (spR (sp sv b n ob hb sb k) sv b ob hb sb c p pos ags base lim np outs dp it ia ca ga G) w g0 g3 g4 g5 := by
      intro g1 c p hP1 hpp2 hp hc
      unfold spR
      by_cases cl : lim < p + c
      · obtain ⟨g0, g3, e1, e2⟩ := P_raw_f (N := N) (pos := pos) (f2 := f2) hl h1 hlim hN hP1 hp cl hc hW hG
        rw [e1, bd4_s, P_169_f (start := 0) h1 w1 hN hag0 (by omega) e2.1.2.2.2.1 hmk.1 (by omega), if_pos cl]
        exact ⟨_, _, _, _, _, rfl, OutP_f hmk.1 (Fz_of (by omega) hW e2)⟩
      · obtain ⟨g0, g3, g4, g5, e1, e0, e2⟩ := P_raw_t (N := N) (pos := pos) (sv := sv) (c := c) hl h1 hlim hsv hN hP1 (by omega) hW hmx hG
        rw [e1, bd4_s, if_neg cl]
        unfold gD
        rcases e2 with ⟨cq, e3⟩ | ⟨cq, e3⟩
        · rw [if_pos cq]
          have hkd := kQ_pos hb sb (G.2.2.1 + aG ob hb sb (isO outs) c G) (G.2.2.2.1 + aG ob hb sb (isO outs) c G)
          rw [P_169_f (start := 0) h1 w1 hN hag0 (by omega) e3.1.2.2.2.1 hkd.1 hkd.2]
          exact ⟨_, _, _, _, _, rfl, OutP_f hkd.1 (Fz_of hkd.2 (Wg_q _ hW) e3)⟩
        · rw [if_neg cq]
          have hOU2 : OU (gv (isO outs) c (G.1 + c) (rwR G.2.1 G.1 sv p c) G).2.2.2.2.2 base outs := OU_gv (o := true) hOU (fun hne => by unfold gv; show (if isO outs = true then _ else _) = _; rw [if_neg (by rw [isO_ne hne]; decide)])
          exact P_169 (N := N) (n := n) (sv := sv) (b := b) (outs := outs) (base := base) (lim := lim) (np := np) (ags := ags) (start := G.1) (place := pos) (p2 := p + c) hl h1 hsv hsb hN hag0 (by omega) hag (Nat.le_add_right _ _) hbs (Wg_c _ hW cq) (by unfold gv; exact Nat.le_max_right _ _) hWS hOU2 hdp (by omega) e0 e3 hk (by omega) (by omega)
    by_cases t1 : b pos < 64
    · have hs : srt (b pos) = 1 := by unfold srt; rw [if_neg t0, if_pos t1]
      rw [if_neg (show ¬ nI (srt (b pos)) = 2 from hNo 1 2 hs (by omega) (by omega) (by omega)), if_neg (show ¬ nI (srt (b pos)) = 4 from hNo 1 4 hs (by omega) (by omega) (by omega)), if_neg (show ¬ nI (srt (b pos)) = 5 from hNo 1 5 hs (by omega) (by omega) (by omega)), if_pos t1]
      exact hraw f0 (b pos) (pos + 1) hP (by omega) hpl (by omega)
    · rw [if_neg t1]
      by_cases t2 : b pos < 128
      · have hs : srt (b pos) = 2 := by unfold srt; rw [if_neg t0, if_neg t1, if_pos t2]
        rw [if_pos (by rw [hs]; rfl), if_pos t2]
        unfold spC
        by_cases cl : lim < pos + 2
        · obtain ⟨g0, g3, e1, e2⟩ := P_copy_f (N := N) (b := b) (f1 := f1) (f2 := f2) (a4 := nI base) hl hN hP hpl hlim cl hW hG
          rw [e1, bd4_s, P_169_f (start := 0) h1 w1 hN hag0 (by omega) e2.1.2.2.2.1 hmk.1 (by omega), if_pos cl]
          exact ⟨_, _, _, _, _, rfl, OutP_f hmk.1 (Fz_of (by omega) hW e2)⟩
        · have hb1 := hsb (pos + 1) (by omega)
          rw [if_neg cl]
          by_cases cf : G.1 - base < b (pos + 1) + 1
          · obtain ⟨g0, g3, e1, e2⟩ := P_copy_b (N := N) (b := b) h1 hN hP hlim (by omega) ((hsv _ (by omega)).trans hb1.1) hb1.2 hbs cf hW hG
            rw [e1, bd4_s, P_169_f (start := 0) h1 w1 hN hag0 (by omega) e2.1.2.2.2.1 (by omega) (by omega), if_pos cf]
            exact ⟨_, _, _, _, _, rfl, OutP_f (by show 0 < 3; omega) (Fz_of (by omega) hW e2)⟩
          · obtain ⟨g0, g3, g4, g5, e1, e0, e2⟩ := P_copy_t (N := N) (b := b) hl h1 hN hP hlim (by omega) ((hsv _ (by omega)).trans hb1.1) hb1.2 (by omega) t2 hbs cf hW hmx hG
            rw [e1, bd4_s, if_neg cf]
            unfold gD
            rcases e2 with ⟨cq, e3⟩ | ⟨cq, e3⟩
            · rw [if_pos cq]
              have hkd := kQ_pos hb sb (G.2.2.1 + aG ob hb sb (isO outs) (b pos - 62) G) (G.2.2.2.1 + aG ob hb sb (isO outs) (b pos - 62) G)
              rw [P_169_f (start := 0) h1 w1 hN hag0 (by omega) e3.1.2.2.2.1 hkd.1 hkd.2]
              exact ⟨_, _, _, _, _, rfl, OutP_f hkd.1 (Fz_of hkd.2 (Wg_q _ hW) e3)⟩
            · rw [if_neg cq]
              have hOU2 : OU (gv (isO outs) (b pos - 62) (G.1 + (b pos - 62)) (cpR G.2.1 G.1 (b (pos + 1) + 1) (b pos - 62)) G).2.2.2.2.2 base outs := OU_gv (o := true) hOU (fun hne => by unfold gv; show (if isO outs = true then _ else _) = _; rw [if_neg (by rw [isO_ne hne]; decide)])
              exact P_169 (N := N) (n := n) (sv := sv) (b := b) (outs := outs) (base := base) (lim := lim) (np := np) (ags := ags) (start := G.1) (place := pos) (p2 := pos + 2) hl h1 hsv hsb hN hag0 (by omega) hag (Nat.le_add_right _ _) hbs (Wg_c _ hW cq) (by unfold gv; exact Nat.le_max_right _ _) hWS hOU2 hdp (by omega) e0 e3 hk (by omega) (by omega)
      · rw [if_neg t2, if_neg (show ¬ b pos < 192 by omega)]
        by_cases t3 : b pos < 255
        · have hs : srt (b pos) = 4 := by unfold srt; rw [if_neg t0, if_neg t1, if_neg t2, if_neg (by omega), if_pos t3]
          rw [if_neg (show ¬ nI (srt (b pos)) = 2 from hNo 4 2 hs (by omega) (by omega) (by omega)), if_pos (by rw [hs]; rfl), if_pos t3]
          exact P_inner hrp h1 hsv hsb hN hP hG hS0 hmx hpl hk hkp hpp
        · have e255 : b pos = 255 := by omega
          have hs : srt (b pos) = 5 := by unfold srt; rw [if_neg t0, if_neg t1, if_neg t2, if_neg (by omega), if_neg t3]
          rw [if_neg (show ¬ nI (srt (b pos)) = 2 from hNo 5 2 hs (by omega) (by omega) (by omega)), if_neg (show ¬ nI (srt (b pos)) = 4 from hNo 5 4 hs (by omega) (by omega) (by omega)), if_pos (by rw [hs]; rfl), if_neg t3]
          unfold pX3_readWide
          by_cases cl : lim < pos + 3
          · rw [if_pos cl]
            -- the first or the second byte is missing
            have hmiss : ∃ x0 x3, bd3 (pX3_take (nI (outs.length + 1)) f0 f1 f2 f3) (fun r_1 f0_2 f3_3 => bd3 (pX3_take (nI (outs.length + 1)) f0_2 f1 f2 f3_3) (fun r_5 f0_6 f3_7 => bd4 (pX3_readRaw N ((r_1 * (256 : Int32)) + r_5) (nI pos) (nI (outs.length + 1)) f0_6 f1 f2 f3_7 f4 f5) (fun f0_9 f3_10 f4_11 f5_12 => some (f0_9, f3_10, f4_11, f5_12)))) = some (x0, x3, f4, f5) ∧ Ac x3 ob hb sb (mK outs) (nI np) G.2.2.1 G.2.2.2.1 G.2.2.2.2.1 G.2.2.2.2.2 dp it := by
              by_cases c2 : lim < pos + 2
              · obtain ⟨g3, e1, e2⟩ := P_take_f (f1 := f1) (f2 := f2) hl hP (by omega) (by omega) hG.1
                rw [e1, bd3_s, P_take_n e2.2.2.2.1 hmk.1 (by omega), bd3_s, P_raw_n (by omega) e2.2.2.2.1 hmk.1 (by omega), bd4_s]
                exact ⟨_, _, rfl, e2⟩
              · obtain ⟨g3, e1, e2⟩ := P_take_f (f1 := f1) (f2 := f2) hl (Pf_u (x := pos + 2) hP) (by omega) (by omega) hG.1
                rw [P_take_t hP h1 w1 hlim (by omega) hG.1.2.2.2.1, bd3_s, e1, bd3_s, P_raw_n (by omega) e2.2.2.2.1 hmk.1 (by omega), bd4_s]
                exact ⟨_, _, rfl, e2⟩
            obtain ⟨x0, x3, e1, e2⟩ := hmiss
            rw [e1, bd4_s, P_169_f (start := 0) h1 w1 hN hag0 (by omega) e2.2.2.2.1 hmk.1 (by omega)]
            exact ⟨_, _, _, _, _, rfl, OutP_f hmk.1 (Fz_of (by omega) hW ⟨e2, hG.2⟩)⟩
          · have hb1 := hsb (pos + 1) (by omega)
            have hb2 := hsb (pos + 2) (by omega)
            rw [if_neg cl, P_take_t hP h1 w1 hlim (by omega) hG.1.2.2.2.1, bd3_s, P_take_t (Pf_u (x := pos + 2) hP) h1 w1 hlim (by omega) hG.1.2.2.2.1, bd3_s, (hsv (pos + 1) (by omega)).trans hb1.1, (hsv (pos + 2) (by omega)).trans hb2.1, k256, pk_mul, nI_add, show b (pos + 1) * 256 + b (pos + 2) = 256 * b (pos + 1) + b (pos + 2) by omega]
            have hh := hraw (upd (upd f0 5 (nI (pos + 2))) 5 (nI (pos + 2 + 1))) (256 * b (pos + 1) + b (pos + 2)) (pos + 3) (Pf_u (Pf_u (x := pos + 2) hP)) (by omega) (by omega) (by omega)
            obtain ⟨w, g0, g3, g4, g5, e1, e2⟩ := hh
            refine ⟨w, g0, g3, g4, g5, ?_, e2⟩
            rw [← e1]
            rcases pX3_readRaw N (nI (256 * b (pos + 1) + b (pos + 2))) (nI pos) (nI (outs.length + 1)) (upd (upd f0 5 (nI (pos + 2))) 5 (nI (pos + 2 + 1))) f1 f2 f3 f4 f5 with _ | ⟨x, y, z, u⟩ <;> rfl
end PLAIN5
