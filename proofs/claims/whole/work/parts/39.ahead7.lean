/-! ===== PURE PART 10: the reader that asks ahead: one item ===== -/
section ITEM2
variable {N n ob hb sb : Nat} {b : Nat → Nat} {sv : Nat → Int32} {outs : List Fr} {f0 f1 f2 f3 f4 f5 f6 f7 f8 f9 : Nat → Int32} {dp it base lim np pos ags k : Nat} {ia ca ga : Int32} {G : GS}
/-- an item that has begun at pos, no AGAIN -/
theorem A_41 (hsb : ∀ i, i < n → sv i = nI (b i) ∧ b i < 256) (hN : 1000 < N) (hR : RA sv n ob hb sb f0 f1 f2 f3 f4 f5 f6 f7 f8 f9 (pos + 1) base lim np outs dp it G) (h9 : f0 9 = nI (pos - ags)) (hS : Sx b n ob hb sb pos ags base lim np outs dp G) (hpl : pos + 1 ≤ lim) (hna : ¬ (128 ≤ b pos ∧ b pos < 192)) {kz pos0 : Nat} (hk : k < kz) (hkp : n < k + (pos + 1)) (hpp : pos0 ≤ pos) :
    ∃ g0 g3 g4 g5 g6 g7 g8 g9, bfX1_readItem_41 N f1 f2 (nI (b pos)) f0 f3 f4 f5 f6 f7 f8 f9 = some (g0, g3, g4, g5, g6, g7, g8, g9) ∧
      OutA sv b n ob hb sb f1 f2 kz pos0 (spA (sp sv b n ob hb sb k) sv b n ob hb sb pos ags base lim np outs dp it ia ca ga G) g0 g3 g4 g5 g6 g7 g8 g9 := by
  obtain ⟨h1, hsv, h7, h8, hf6, hf7, hf8, hSt, hG⟩ := hR
  obtain ⟨hW, hWS, hOU, hl, hbs, hple, hdp, hag0, hag⟩ := hS
  obtain ⟨w1, w2, w3, w4, w5, w6, w7, w8, w9, w10, w11⟩ := id hW
  have hlim := (WS_lim hWS).1
  have hbp := hsb pos (by omega)
  unfold bfX1_readItem_41
  have e8 : nI (pos + 1) - 1 = nI pos := by rw [k1, nsub (by omega)]; congr 1
  rw [c_failed_0 hG.1.2.2.2.1, bd1_s, if_pos rfl, lt_x, h8, e8]
  unfold pX4_top
  rw [bd1_s, hG.2.1, lt_x, x_sort hbp.2, bd1_s]
  generalize hg : upd (upd f0 10 (nI pos)) 11 (nI G.1) = g0
  have p7 : g0 7 = nI (outs.length + 1) := by rw [← hg, un (by decide), un (by decide)]; exact h7
  have p8 : g0 8 = nI (pos + 1) := by rw [← hg, un (by decide), un (by decide)]; exact h8
  have p9 : g0 9 = nI (pos - ags) := by rw [← hg, un (by decide), un (by decide)]; exact h9
  have p10 : g0 10 = nI pos := by rw [← hg, un (by decide), us]
  have p11 : g0 11 = nI G.1 := by rw [← hg, us]
  have hNo : ∀ (a c : Nat), srt (b pos) = a → a < 6 → c < 6 → a ≠ c → ¬ nI (srt (b pos)) = nI c := by
    intro a c h h2 h3 h4 h5
    rw [h] at h5
    exact h4 ((nI_eq (by omega) (by omega)).mp h5)
  unfold spA
  by_cases t0 : b pos = 0
  · -- END
    have hs : srt (b pos) = 0 := by unfold srt; rw [if_pos t0]
    rw [if_pos (by rw [hs]; rfl), if_pos t0]
    unfold spE
    by_cases ca0 : 0 < ags
    · obtain ⟨g3, e1, e2⟩ := A_end_n (N := N) (f1 := f1) (f2 := f2) (f6 := f6) (f7 := f7) (f8 := f8) (f9 := f9) p9 p10 (by omega) ca0 hag0 hG
      rw [e1, bd2_s, A_137_f e2.1.2.2.2.1 (by omega) (by omega) hN, if_pos ca0]
      exact ⟨_, _, _, _, _, _, _, _, rfl, Or.inl ⟨_, rfl, Fz_of (by omega) hW e2, fun h => absurd h (Nat.succ_ne_zero _)⟩⟩
    · have ea : ags = 0 := by omega
      subst ea
      have p9 : g0 9 = nI pos := p9
      rw [if_neg ca0]
      by_cases cl : lim < pos + 2
      · obtain ⟨g3, e1, e2⟩ := A_end_f (N := N) (f1 := f1) (f2 := f2) (f6 := f6) (f9 := f9) p9 p10 p7 hl p8 hf7 hf8 (by omega) hpl cl hG
        have hmk : 0 < mK outs ∧ mK outs ≤ 2 := by unfold mK; split <;> omega
        rw [e1, bd2_s, A_137_f e2.1.2.2.2.1 hmk.1 (by omega) hN, if_pos cl]
        exact ⟨_, _, _, _, _, _, _, _, rfl, Or.inl ⟨_, rfl, Fz_of (by omega) hW e2, fun h => absurd h (by show ¬ mK outs = 0; omega)⟩⟩
      · rw [if_neg cl, A_end_s (N := N) (sv := sv) (f9 := f9) p9 p10 p7 hl p8 hf6 hf7 hlim h1 (hsv _ (by omega)) (by omega) hbs hN hW hG]
        by_cases csum : sv (pos + 1) = smR G.2.1 base (G.1 - base) &&& 255
        · rw [if_pos csum, if_pos csum]
          have q8 : upd g0 8 (nI (pos + 2)) 8 = nI (pos + 2) := us
          cases outs with
          | nil =>
            obtain ⟨g3, e1, e2⟩ := A_lo (f0 := upd g0 8 (nI (pos + 2))) q8 h1 w1 (by omega) hG
            rw [if_pos (show isO ([] : List Fr) = true from rfl), e1, bd2_s]
            simp only [bd2_s]
            by_cases cm : pos + 2 < n
            · rw [if_pos cm, if_pos cm] at e2
              rw [A_137_f e2.1.2.2.2.1 (by omega) (by omega) hN, if_pos cm]
              exact ⟨_, _, _, _, _, _, _, _, rfl, Or.inl ⟨_, rfl, Fz_of (by omega) hW e2, fun h => absurd h (Nat.succ_ne_zero _)⟩⟩
            · rw [if_neg cm, if_neg cm] at e2
              rw [if_neg cm]
              -- no AGAIN waits here
              have e3 : bfX1_readItem_137 N f1 f2 (upd (upd g0 8 (nI (pos + 2))) 7 0) g3 f4 f5 f6 f7 f8 f9 = some (upd (upd g0 8 (nI (pos + 2))) 7 0, g3, f4, f5, f6, f7, f8, f9) := by
                unfold bfX1_readItem_137 pX1_giveAgain
                obtain ⟨m, rfl⟩ : ∃ m, N = m + 1 := ⟨N - 1, by omega⟩
                have e4 : bfX1_giveAgain_7 (m + 1) (upd (upd g0 8 (nI (pos + 2))) 7 0) f1 f2 (m + 1) (nI pos - 1) g3 f4 f5 = some (g3, f4, f5) := by
                  show bFX1_giveAgain_7 (m + 1) (upd (upd g0 8 (nI (pos + 2))) 7 0) f1 f2 (bfX1_giveAgain_7 (m + 1) (upd (upd g0 8 (nI (pos + 2))) 7 0) f1 f2 m) (nI pos - 1) g3 f4 f5 = _
                  unfold bFX1_giveAgain_7
                  have hlt : nI pos - 1 < upd (upd g0 8 (nI (pos + 2))) 7 0 9 := by
                    rw [un (by decide), un (by decide), p9, k1, Int32.lt_iff_toInt_lt, pk_sub_toInt (by omega) (by omega), nI_toInt (by omega)]
                    omega
                  rw [if_pos hlt]
                rw [lt_x, un (by decide), un (by decide), p10, e4, bd3_s]
              rw [e3]
              exact ⟨_, _, _, _, _, _, _, _, rfl, Or.inl ⟨_, rfl, Fz_of (by omega) hW e2, fun _ => us⟩⟩
          | cons fr o =>
            obtain ⟨b2, l2, n2, a2⟩ := fr
            obtain ⟨s1, s2, s3, s4, s5⟩ := hSt
            obtain ⟨v1, v2, v3, v4, v5, v6⟩ := hWS
            simp only [List.length_cons] at hl p7 hf6 hf7 hf8
            rw [if_neg (show ¬ isO ((b2, l2, n2, a2) :: o) = true from Bool.false_ne_true)]
            by_cases cm : pos + 2 < lim
            · obtain ⟨g3, e1, e2⟩ := A_li_l (f0 := upd g0 8 (nI (pos + 2))) (f6 := f6) (f9 := f9) (o := o) (by rw [un (by decide)]; exact p7) (by omega) q8 hf7 hf8 (by omega) cm hG
              rw [e1, bd2_s, bd2_s, A_137_f e2.1.2.2.2.1 (by omega) (by omega) hN]
              show ∃ g0 g3 g4 g5 g6 g7 g8 g9, _ ∧ OutA _ _ _ _ _ _ _ _ _ _ (if pos + 2 < lim then _ else _) g0 g3 g4 g5 g6 g7 g8 g9
              rw [if_pos cm]
              exact ⟨_, _, _, _, _, _, _, _, rfl, Or.inl ⟨_, rfl, Fz_of (by omega) hW e2, fun h => absurd h (Nat.succ_ne_zero _)⟩⟩
            · obtain ⟨g2, g3, e1, r7, r8, r9, r10, r11, e2⟩ := A_li_t (f0 := upd g0 8 (nI (pos + 2))) (o := o) (a2 := a2) (pos := pos) (by rw [un (by decide)]; exact p7) (by omega) q8 hf6 hf7 hf8 s1 (by omega) (by omega) (by omega) (by omega) hbs hW hG
              rw [e1, bd2_s, bd2_s]
              show ∃ g0 g3 g4 g5 g6 g7 g8 g9, _ ∧ OutA _ _ _ _ _ _ _ _ _ _ (if pos + 2 < lim then _ else gL b ob hb sb (isO o) base a2 (np - 1) G _ _) g0 g3 g4 g5 g6 g7 g8 g9
              rw [if_neg cm]
              unfold gL
              obtain ⟨q1, q2, q3, q4⟩ := aQ_le ob hb sb (isO o) (G.1 - base) G.2.2.1 G.2.2.2.1 G.2.2.2.2.2
              have hou : isO o = true → G.2.2.2.2.2 = base := by
                intro ho
                cases o with
                | nil => exact hOU
                | cons x y => cases ho
              rcases e2 with ⟨cq, e3⟩ | ⟨cq, e3⟩
              · rw [if_pos cq]
                have hkd := kQ_pos hb sb (G.2.2.1 + aG ob hb sb (isO o) (G.1 - base) G) (G.2.2.2.1 + aG ob hb sb (isO o) (G.1 - base) G)
                rw [A_137_f e3.2.2.2.1 hkd.1 (by have := hkd.2; exact this) hN]
                refine ⟨_, _, _, _, _, _, _, _, rfl, Or.inl ⟨_, rfl, ⟨_, G.1, e3, hG.2.1, by omega, hkd.2, ?_, ?_⟩, fun h => absurd h (by have := hkd.1; show ¬ kQ _ _ _ _ = 0; unfold gv; exact Nat.pos_iff_ne_zero.mp this)⟩⟩
                · show (if isO o = true then G.2.2.2.2.2 + aG ob hb sb (isO o) (G.1 - base) G else G.2.2.2.2.2) ≤ 400
                  by_cases ho : isO o = true
                  · rw [if_pos ho]; have := q4 ho; unfold aG; omega
                  · rw [if_neg ho]; omega
                · intro i hi
                  refine hG.2.2 i (Nat.lt_of_lt_of_le hi ?_)
                  show (if isO o = true then G.2.2.2.2.2 + aG ob hb sb (isO o) (G.1 - base) G else G.2.2.2.2.2) ≤ G.1
                  by_cases ho : isO o = true
                  · rw [if_pos ho]; have := hou ho; unfold aG; omega
                  · rw [if_neg ho]; omega
              · rw [if_neg cq]
                have eq := aG_of cq
                unfold aG at eq
                have hW2 : Wg n ob hb sb (isO o) (G.1, G.2.1, G.2.2.1 + (G.1 - base), G.2.2.2.1, max G.2.2.2.2.1 (G.2.2.2.1 + (G.1 - base)), if isO o = true then G.2.2.2.2.2 + (G.1 - base) else G.2.2.2.2.2) := by
                  refine ⟨w1, w2, w3, w4, w5, ?_, w7, ?_, ?_, ?_, ?_⟩
                  · show G.2.2.1 + (G.1 - base) ≤ sb; omega
                  · show max G.2.2.2.2.1 (G.2.2.2.1 + (G.1 - base)) ≤ hb; omega
                  · show (if isO o = true then G.2.2.2.2.2 + (G.1 - base) else G.2.2.2.2.2) ≤ ob
                    by_cases ho : isO o = true
                    · rw [if_pos ho]; have := q4 ho; omega
                    · rw [if_neg ho]; omega
                  · show (if isO o = true then G.2.2.2.2.2 + (G.1 - base) else G.2.2.2.2.2) ≤ G.1
                    by_cases ho : isO o = true
                    · rw [if_pos ho]; have := hou ho; omega
                    · rw [if_neg ho]; omega
                  · intro ho
                    show (if isO o = true then G.2.2.2.2.2 + (G.1 - base) else G.2.2.2.2.2) = G.1
                    rw [if_pos ho]; have := hou ho; omega
                have hOU2 : OU (if isO o = true then G.2.2.2.2.2 + (G.1 - base) else G.2.2.2.2.2) b2 o := by
                  cases o with
                  | nil => trivial
                  | cons x y => exact hOU
                refine A_137 (N := N) (n := n) (sv := sv) (b := b) (outs := o) (G := (G.1, G.2.1, G.2.2.1 + (G.1 - base), G.2.2.2.1, max G.2.2.2.2.1 (G.2.2.2.1 + (G.1 - base)), if isO o = true then G.2.2.2.2.2 + (G.1 - base) else G.2.2.2.2.2)) (k := k) (base := b2) (lim := l2) (np := n2) (ags := a2) (start := base) (place := np - 1) (p2 := pos + 2) r7 r8 ?_ r10 r11 h1 hsv hsb s2 s3 s4 s5 hN (by omega) (by omega) v5 hbs v2 hW2 v6 hOU2 (by omega) hdp (by omega) e3 hk (by omega) (by omega)
                exact r9
        · rw [if_neg csum, if_neg csum]
          obtain ⟨g3, e1, e2⟩ := A_end_b (pos := pos) hG
          rw [e1, bd1_s, bd2_s, A_137_f e2.1.2.2.2.1 (by omega) (by omega) hN]
          exact ⟨_, _, _, _, _, _, _, _, rfl, Or.inl ⟨_, rfl, Fz_of (by omega) hW e2, fun h => absurd h (Nat.succ_ne_zero _)⟩⟩
  · rw [if_neg t0]
    have hs0 : ¬ nI (srt (b pos)) = 0 := by
      have : 0 < srt (b pos) ∧ srt (b pos) < 6 := by unfold srt; rw [if_neg t0]; split <;> (try split) <;> (try split) <;> (try split) <;> omega
      rw [k0]; intro e; have := (nI_eq (by omega) (by omega)).mp e; omega
    rw [if_neg hs0]
    -- what a RAW or WIDE does, from its bytes on
    have hraw : ∀ (g1 : Nat → Int32) (c p : Nat), g1 7 = nI (outs.length + 1) → g1 8 = nI p → g1 9 = nI (pos - ags) → g1 10 = nI pos → g1 11 = nI G.1 → pos < p → p ≤ lim → c < 70000 →
        ∃ g0 g3 g4 g5 g6 g7 g8 g9, bd4 (bfX1_readRaw_58 N (nI (b pos)) f1 f2 f7 f8 (nI c) g1 f3 f4 f5) (fun f0_44 f3_45 f4_46 f5_47 => bfX1_readItem_137 N f1 f2 f0_44 f3_45 f4_46 f5_47 f6 f7 f8 f9) = some (g0, g3, g4, g5, g6, g7, g8, g9) ∧
          OutA sv b n ob hb sb f1 f2 kz pos0 (spR (sp sv b n ob hb sb k) sv b ob hb sb c p pos ags base lim np outs dp it ia ca ga G) g0 g3 g4 g5 g6 g7 g8 g9 := by
      intro g1 c p a7 a8 a9 a10 a11 hpp2 hp hc
      unfold spR
      by_cases cl : lim < p + c
      · obtain ⟨g3, e1, e2⟩ := A_raw_f (N := N) (a1 := nI (b pos)) (f1 := f1) (f2 := f2) a7 hl a8 hf7 hf8 (by omega) hp cl hc hG
        have hmk : 0 < mK outs ∧ mK outs ≤ 2 := by unfold mK; split <;> omega
        rw [e1, bd4_s, A_137_f e2.1.2.2.2.1 hmk.1 (by omega) hN, if_pos cl]
        exact ⟨_, _, _, _, _, _, _, _, rfl, Or.inl ⟨_, rfl, Fz_of (by omega) hW e2, fun h => absurd h (by show ¬ mK outs = 0; omega)⟩⟩
      · obtain ⟨g3, g4, g5, e1, e2⟩ := A_raw_t (N := N) (a1 := nI (b pos)) (f2 := f2) (f8 := f8) (sv := sv) (c := c) a7 hl a8 a10 hf7 hlim h1 hsv (by omega) hN hW hG
        rw [e1, bd4_s, if_neg cl]
        unfold gD
        rcases e2 with ⟨cq, e3⟩ | ⟨cq, e3⟩
        · rw [if_pos cq]
          have hkd := kQ_pos hb sb (G.2.2.1 + aG ob hb sb (isO outs) c G) (G.2.2.2.1 + aG ob hb sb (isO outs) c G)
          rw [A_137_f e3.1.2.2.2.1 hkd.1 hkd.2 hN]
          exact ⟨_, _, _, _, _, _, _, _, rfl, Or.inl ⟨_, rfl, Fz_of hkd.2 (Wg_q _ hW) e3, fun h => absurd h (by have := hkd.1; exact Nat.pos_iff_ne_zero.mp this)⟩⟩
        · rw [if_neg cq]
          have hOU2 : OU (gv (isO outs) c (G.1 + c) (rwR G.2.1 G.1 sv p c) G).2.2.2.2.2 base outs := OU_gv (o := true) hOU (fun hne => by unfold gv; show (if isO outs = true then _ else _) = _; rw [if_neg (by rw [isO_ne hne]; decide)])
          exact A_137 (N := N) (n := n) (sv := sv) (b := b) (outs := outs) (base := base) (lim := lim) (np := np) (ags := ags) (start := G.1) (place := pos) (p2 := p + c) (by rw [un (by decide)]; exact a7) us (by rw [un (by decide)]; exact a9) (by rw [un (by decide)]; exact a10) (by rw [un (by decide)]; exact a11) h1 hsv hsb hf6 hf7 hf8 hSt hN hag0 (by omega) hag (Nat.le_add_right _ _) hbs (Wg_c _ hW cq) hWS hOU2 hl hdp (by omega) e3 hk (by omega) (by omega)
    by_cases t1 : b pos < 64
    · have hs : srt (b pos) = 1 := by unfold srt; rw [if_neg t0, if_pos t1]
      rw [if_neg (show ¬ nI (srt (b pos)) = 2 from hNo 1 2 hs (by omega) (by omega) (by omega)), if_neg (show ¬ nI (srt (b pos)) = 4 from hNo 1 4 hs (by omega) (by omega) (by omega)), if_pos t1]
      unfold pX1_readRaw
      rw [if_neg (by rw [k255]; intro e; have := (nI_eq (by omega) (by omega)).mp e; omega)]
      exact hraw g0 (b pos) (pos + 1) p7 p8 p9 p10 p11 (by omega) hpl (by omega)
    · rw [if_neg t1]
      by_cases t2 : b pos < 128
      · have hs : srt (b pos) = 2 := by unfold srt; rw [if_neg t0, if_neg t1, if_pos t2]
        rw [if_pos (by rw [hs]; rfl), if_pos t2]
        unfold spC
        by_cases cl : lim < pos + 2
        · obtain ⟨g3, e1, e2⟩ := A_copy_f (N := N) (b := b) (f1 := f1) (f2 := f2) (f6 := f6) p7 hl p8 hf7 hf8 (by omega) hpl cl hG
          have hmk : 0 < mK outs ∧ mK outs ≤ 2 := by unfold mK; split <;> omega
          rw [e1, bd4_s, A_137_f e2.1.2.2.2.1 hmk.1 (by omega) hN, if_pos cl]
          exact ⟨_, _, _, _, _, _, _, _, rfl, Or.inl ⟨_, rfl, Fz_of (by omega) hW e2, fun h => absurd h (by show ¬ mK outs = 0; omega)⟩⟩
        · have hb1 := hsb (pos + 1) (by omega)
          rw [if_neg cl]
          by_cases cf : G.1 - base < b (pos + 1) + 1
          · obtain ⟨g3, e1, e2⟩ := A_copy_b (N := N) (b := b) p7 hl p8 hf6 hf7 hlim h1 ((hsv _ (by omega)).trans hb1.1) hb1.2 (by omega) hbs cf hW hG
            rw [e1, bd4_s, A_137_f e2.1.2.2.2.1 (by omega) (by omega) hN, if_pos cf]
            exact ⟨_, _, _, _, _, _, _, _, rfl, Or.inl ⟨_, rfl, Fz_of (by omega) hW e2, fun h => absurd h (Nat.succ_ne_zero _)⟩⟩
          · obtain ⟨g3, g4, g5, e1, e2⟩ := A_copy_t (N := N) (b := b) (f8 := f8) p7 hl p8 p10 hf6 hf7 hlim h1 ((hsv _ (by omega)).trans hb1.1) hb1.2 (by omega) t2 (by omega) hbs (by omega) hN hW hG
            rw [e1, bd4_s, if_neg cf]
            unfold gD
            rcases e2 with ⟨cq, e3⟩ | ⟨cq, e3⟩
            · rw [if_pos cq]
              have hkd := kQ_pos hb sb (G.2.2.1 + aG ob hb sb (isO outs) (b pos - 62) G) (G.2.2.2.1 + aG ob hb sb (isO outs) (b pos - 62) G)
              rw [A_137_f e3.1.2.2.2.1 hkd.1 hkd.2 hN]
              exact ⟨_, _, _, _, _, _, _, _, rfl, Or.inl ⟨_, rfl, Fz_of hkd.2 (Wg_q _ hW) e3, fun h => absurd h (by have := hkd.1; exact Nat.pos_iff_ne_zero.mp this)⟩⟩
            · rw [if_neg cq]
              have hOU2 : OU (gv (isO outs) (b pos - 62) (G.1 + (b pos - 62)) (cpR G.2.1 G.1 (b (pos + 1) + 1) (b pos - 62)) G).2.2.2.2.2 base outs := OU_gv (o := true) hOU (fun hne => by unfold gv; show (if isO outs = true then _ else _) = _; rw [if_neg (by rw [isO_ne hne]; decide)])
              exact A_137 (N := N) (n := n) (sv := sv) (b := b) (outs := outs) (base := base) (lim := lim) (np := np) (ags := ags) (start := G.1) (place := pos) (p2 := pos + 2) (by rw [un (by decide)]; exact p7) us (by rw [un (by decide)]; exact p9) (by rw [un (by decide)]; exact p10) (by rw [un (by decide)]; exact p11) h1 hsv hsb hf6 hf7 hf8 hSt hN hag0 (by omega) hag (Nat.le_add_right _ _) hbs (Wg_c _ hW cq) hWS hOU2 hl hdp (by omega) e3 hk (by omega) (by omega)
      · rw [if_neg t2, if_neg (show ¬ b pos < 192 by omega)]
        by_cases t3 : b pos < 255
        · have hs : srt (b pos) = 4 := by unfold srt; rw [if_neg t0, if_neg t1, if_neg t2, if_neg (by omega), if_pos t3]
          rw [if_neg (show ¬ nI (srt (b pos)) = 2 from hNo 4 2 hs (by omega) (by omega) (by omega)), if_pos (by rw [hs]; rfl), if_pos t3]
          unfold spI
          by_cases c5 : outs.length = 5
          · obtain ⟨g3, e1, e2⟩ := A_inner_d (f1 := f1) (f2 := f2) (f6 := f6) (f7 := f7) (f8 := f8) (f9 := f9) p7 p10 c5 hG
            rw [e1, bd6_s, if_pos c5]
            exact ⟨_, _, _, _, _, _, _, _, rfl, Or.inl ⟨_, rfl, Fz_of (by omega) hW e2, fun h => absurd h (Nat.succ_ne_zero _)⟩⟩
          · rw [if_neg c5]
            by_cases cl : lim < pos + 2
            · obtain ⟨g3, e1, e2⟩ := A_inner_f (f1 := f1) (f2 := f2) (f6 := f6) (f9 := f9) p7 (by omega) p8 hf7 hf8 (by omega) hpl cl hG
              have hmk : 0 < mK outs ∧ mK outs ≤ 2 := by unfold mK; split <;> omega
              rw [e1, bd6_s, if_pos cl]
              exact ⟨_, _, _, _, _, _, _, _, rfl, Or.inl ⟨_, rfl, Fz_of (by omega) hW e2, fun h => absurd h (by show ¬ mK outs = 0; omega)⟩⟩
            · have hb1 := hsb (pos + 1) (by omega)
              rw [if_neg cl]
              by_cases ci : lim < pos + 2 + b (pos + 1)
              · obtain ⟨g3, e1, e2⟩ := A_inner_l (b := b) (f6 := f6) (f8 := f8) (f9 := f9) p7 (by omega) p8 hf7 hlim w1 h1 ((hsv _ (by omega)).trans hb1.1) hb1.2 (by omega) ci hG
                rw [e1, bd6_s, if_pos ci]
                exact ⟨_, _, _, _, _, _, _, _, rfl, Or.inl ⟨_, rfl, Fz_of (by omega) hW e2, fun h => absurd h (Nat.succ_ne_zero _)⟩⟩
              · obtain ⟨g1, g3, e1, a7, a8, e2⟩ := A_inner_t (b := b) (f6 := f6) (f8 := f8) (f9 := f9) p7 (by omega) p8 p9 hf7 hlim w1 h1 ((hsv _ (by omega)).trans hb1.1) hb1.2 (by omega) hdp hG
                rw [e1, bd6_s, if_neg ci]
                have hO : isO ((base, lim, np, ags) :: outs) = false := rfl
                refine ⟨_, _, _, _, _, _, _, _, rfl, Or.inr ⟨k, pos + 2, G.1, pos + 2 + b (pos + 1), pos + 1, (base, lim, np, ags) :: outs, _, it, _, ca, ga, G, rfl, hk, by omega, by omega, ⟨h1, hsv, a7, a8, us, us, us, ⟨?_, ?_, ?_, ?_, StA_upd (by omega) hSt⟩, e2⟩, ?_, ?_, ?_, ?_, Nat.le_refl _, by omega, ?_, by omega, fun i h1 h2 => absurd h2 (by omega)⟩⟩
                · rw [us]; congr 1
                · rw [un (by omega)]; exact hf6
                · rw [un (by omega)]; exact hf7
                · rw [un (by omega)]; exact hf8
                · exact ⟨w1, w2, w3, w4, w5, w6, w7, w8, w9, w10, fun h => by rw [hO] at h; cases h⟩
                · exact ⟨by omega, hbs, by omega, by omega, fun i h1 h2 => hag i (by omega) (by omega), hWS⟩
                · cases outs with
                  | nil => exact w11 rfl
                  | cons x y => exact hOU
                · simp only [List.length_cons]; omega
                · omega
        · have e255 : b pos = 255 := by omega
          have hs : srt (b pos) = 5 := by unfold srt; rw [if_neg t0, if_neg t1, if_neg t2, if_neg (by omega), if_neg t3]
          rw [if_neg (show ¬ nI (srt (b pos)) = 2 from hNo 5 2 hs (by omega) (by omega) (by omega)), if_neg (show ¬ nI (srt (b pos)) = 4 from hNo 5 4 hs (by omega) (by omega) (by omega)), if_neg t3]
          unfold pX1_readRaw
          rw [if_pos (by rw [e255]; rfl)]
          by_cases cl : lim < pos + 3
          · obtain ⟨g3, e1, e2⟩ := A_stand_f (c := 2) p7 hl p8 hf7 hf8 (by omega) hpl (by omega) (by omega) hG.1
            have hmk : 0 < mK outs ∧ mK outs ≤ 2 := by unfold mK; split <;> omega
            rw [k2, e1, bd2_s, if_pos rfl, bd4_s, A_137_f e2.2.2.2.1 hmk.1 (by omega) hN, if_pos cl]
            exact ⟨_, _, _, _, _, _, _, _, rfl, Or.inl ⟨_, rfl, Fz_of (by omega) hW ⟨e2, hG.2⟩, fun h => absurd h (by show ¬ mK outs = 0; omega)⟩⟩
          · have hb1 := hsb (pos + 1) (by omega)
            have hb2 := hsb (pos + 2) (by omega)
            rw [k2, A_stand_t (c := 2) p7 hl p8 hf7 (by omega) (by omega), bd2_s, if_neg (by decide), p8, s_at h1 w1 (by omega), bd1_s, nI_1, s_at h1 w1 (by omega), bd1_s, lt_x, lt_x, (hsv _ (by omega)).trans hb1.1, (hsv (pos + 1 + 1) (by omega)).trans hb2.1, k256, pk_mul, nI_add, nI_add, if_neg cl, show b (pos + 1) * 256 + b (pos + 2) = 256 * b (pos + 1) + b (pos + 2) by omega]
            exact hraw (upd g0 8 (nI (pos + 1 + 2))) (256 * b (pos + 1) + b (pos + 2)) (pos + 3) (by rw [un (by decide)]; exact p7) us (by rw [un (by decide)]; exact p9) (by rw [un (by decide)]; exact p10) (by rw [un (by decide)]; exact p11) (by omega) (by omega) (by omega)
end ITEM2
