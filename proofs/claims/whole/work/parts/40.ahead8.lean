/-! ===== PURE PART 11: the reader that asks ahead: AGAINs ahead of an item, a turn, an opening ===== -/
section TURN
variable {N n ob hb sb : Nat} {b : Nat → Nat} {sv : Nat → Int32} {f1 f2 f4 f5 f6 f7 f8 f9 : Nat → Int32} {outs : List Fr} {base lim np : Nat}
/-- behind a fault the item does nothing -/
theorem A_15_f {m kd : Nat} {v2 : Int32} {f0 f3 : Nat → Int32} (h : f3 4 = nI kd) (h0 : 0 < kd) (h1 : kd ≤ 10) : bfX1_readItem_15 N f1 f2 (m + 1) 0 v2 f0 f3 f4 f5 f6 f7 f8 f9 = some (f0, f3, f4, f5, f6, f7, f8, f9) := by
  have e : bfX1_readItem_41 N f1 f2 0 f0 f3 f4 f5 f6 f7 f8 f9 = some (f0, f3, f4, f5, f6, f7, f8, f9) := by
    unfold bfX1_readItem_41
    rw [c_failed_1 h h0 (by omega), bd1_s, if_neg (by decide)]
  show bFX1_readItem_15 N f1 f2 (bfX1_readItem_15 N f1 f2 m) 0 v2 f0 f3 f4 f5 f6 f7 f8 f9 = _
  unfold bFX1_readItem_15
  rw [e, k0, x_sort (by omega), bd1_s, if_neg (show ¬ nI (srt 0) = 3 by decide)]
  split <;> rfl
theorem A_15 (hsb : ∀ i, i < n → sv i = nI (b i) ∧ b i < 256) (hN : 1000 < N) {kz pos0 : Nat} :
    ∀ (k m pos ags : Nat) (f0 f3 : Nat → Int32) (dp it : Nat) (ia ca ga : Int32) (G : GS), n + 1 < m + pos → RA sv n ob hb sb f0 f1 f2 f3 f4 f5 f6 f7 f8 f9 (pos + 1) base lim np outs dp it G → f0 9 = nI (pos - ags) → Sx b n ob hb sb pos ags base lim np outs dp G → pos + 1 ≤ lim → k < kz → n < k + (pos + 1) → pos0 ≤ pos →
      ∃ g0 g3 g4 g5 g6 g7 g8 g9, bfX1_readItem_15 N f1 f2 m (nI (b pos)) (nI ags) f0 f3 f4 f5 f6 f7 f8 f9 = some (g0, g3, g4, g5, g6, g7, g8, g9) ∧
        OutA sv b n ob hb sb f1 f2 kz pos0 (spA (sp sv b n ob hb sb k) sv b n ob hb sb pos ags base lim np outs dp it ia ca ga G) g0 g3 g4 g5 g6 g7 g8 g9 := by
  intro k
  induction k with
  | zero =>
    intro m pos ags f0 f3 dp it ia ca ga G hm hR h9 hS hpl hk hkp hpp
    have := (WS_lim hS.2.1).1
    omega
  | succ k ih =>
    intro m pos ags f0 f3 dp it ia ca ga G hm hR h9 hS hpl hk hkp hpp
    have hlim := (WS_lim hS.2.1).1
    have hn := hS.1.1
    obtain ⟨m, rfl⟩ : ∃ j, m = j + 1 := ⟨m - 1, by omega⟩
    have hbp := hsb pos (by omega)
    have hag0 := hS.2.2.2.2.2.2.2.1
    show ∃ g0 g3 g4 g5 g6 g7 g8 g9, bFX1_readItem_15 N f1 f2 (bfX1_readItem_15 N f1 f2 m) (nI (b pos)) (nI ags) f0 f3 f4 f5 f6 f7 f8 f9 = _ ∧ _
    unfold bFX1_readItem_15
    rw [if_neg (by rw [k160]; exact nI_ge (by omega) (by omega)), x_sort hbp.2, bd1_s]
    by_cases hA : 128 ≤ b pos ∧ b pos < 192
    · have hs : srt (b pos) = 3 := by unfold srt; rw [if_neg (by omega), if_neg (by omega), if_neg (by omega), if_pos hA.2]
      rw [if_pos (by rw [hs]; rfl)]
      have hsp : spA (sp sv b n ob hb sb (k + 1)) sv b n ob hb sb pos ags base lim np outs dp it ia ca ga G = sp sv b n ob hb sb (k + 1) (pos + 1) (ags + 1) base lim np outs dp it ia ca (fst_ ga pos) G := by
        unfold spA
        rw [if_neg (by omega), if_neg (by omega), if_neg (by omega), if_pos hA.2]
      have hsp2 : sp sv b n ob hb sb (k + 1) (pos + 1) (ags + 1) base lim np outs dp it ia ca (fst_ ga pos) G = if lim < pos + 1 + 1 then some (rz (mK outs) (nI np) G dp it ia ca (fst_ ga pos)) else if sb ≤ G.2.2.1 then some (rz 9 (nI (pos + 1)) G dp it ia ca (fst_ ga pos)) else spA (sp sv b n ob hb sb k) sv b n ob hb sb (pos + 1) (ags + 1) base lim np outs dp (it + 1) ia ca (fst_ ga pos) (st1 G) := rfl
      rw [hsp, hsp2]
      obtain ⟨h1, hsv, h7, h8, hf6, hf7, hf8, hSt, hG⟩ := hR
      obtain ⟨hW, hWS, hOU, hl, hbs, hple, hdp, hag1, hag⟩ := hS
      obtain ⟨w1, w2, w3, w4, w5, w6, w7, w8, w9, w10, w11⟩ := id hW
      obtain ⟨m, rfl⟩ : ∃ j, m = j + 1 := ⟨m - 1, by omega⟩
      by_cases cl : lim < pos + 1 + 1
      · obtain ⟨g3, e1, e2⟩ := A_begin_c (f1 := f1) (f2 := f2) h7 hl h8 hf7 hf8 (by omega) hpl cl hG.1
        have hmk : 0 < mK outs ∧ mK outs ≤ 2 := by unfold mK; split <;> omega
        rw [e1, bd3_s, lt_x, A_15_f e2.2.2.2.1 hmk.1 (by omega), if_pos cl]
        exact ⟨_, _, _, _, _, _, _, _, rfl, Or.inl ⟨_, rfl, Fz_of (by omega) hW ⟨e2, hG.2⟩, fun h => absurd h (by show ¬ mK outs = 0; omega)⟩⟩
      · rw [if_neg cl]
        by_cases cs : sb ≤ G.2.2.1
        · obtain ⟨g3, e1, e2⟩ := A_begin_s (f1 := f1) (f2 := f2) (f8 := f8) h7 hl h8 hf7 (by omega) (by omega) cs (by omega) hG.1
          rw [e1, bd3_s, lt_x, A_15_f e2.2.2.2.1 (by omega) (by omega), if_pos cs]
          exact ⟨_, _, _, _, _, _, _, _, rfl, Or.inl ⟨_, rfl, Fz_of (by omega) hW ⟨e2, hG.2⟩, fun h => absurd h (Nat.succ_ne_zero _)⟩⟩
        · obtain ⟨g3, e1, e2⟩ := A_begin_t (n := n) (f1 := f1) (f2 := f2) (f8 := f8) h7 hl h8 hf7 hlim hn h1 (by omega) (by omega) w4 hG.1
          rw [e1, bd3_s, lt_x, nI_1, if_neg cs, hsv (pos + 1) (by omega), (hsb (pos + 1) (by omega)).1]
          refine ih (m + 1) (pos + 1) (ags + 1) _ g3 dp (it + 1) ia ca (fst_ ga pos) (st1 G) (by omega) ⟨h1, hsv, by rw [un (by decide)]; exact h7, us, hf6, hf7, hf8, hSt, e2, hG.2⟩ (by rw [un (by decide), h9]; congr 1; omega) ⟨⟨w1, w2, w3, w4, w5, by show G.2.2.1 + 1 ≤ sb; omega, w7, w8, w9, w10, w11⟩, hWS, hOU, hl, hbs, by omega, hdp, by omega, fun i h1 h2 => ?_⟩ (by omega) (by omega) (by omega) (by omega)
          by_cases ci : i = pos
          · subst ci; exact hA
          · exact hag i (by omega) (by omega)
    · have hs : ¬ nI (srt (b pos)) = 3 := by
        have : srt (b pos) ≠ 3 ∧ srt (b pos) < 6 := by unfold srt; split <;> (try split) <;> (try split) <;> (try split) <;> (try split) <;> omega
        rw [k3]; intro e; exact this.1 ((nI_eq (by omega) (by omega)).mp e)
      rw [if_neg hs]
      exact A_41 hsb hN hR h9 hS hpl hA hk hkp hpp
/-- one turn -/
theorem A_turn (hsb : ∀ i, i < n → sv i = nI (b i) ∧ b i < 256) (hN : 1000 < N) {k pos : Nat} {f0 f3 : Nat → Int32} {dp it : Nat} {ia ca ga : Int32} {G : GS} (hR : RA sv n ob hb sb f0 f1 f2 f3 f4 f5 f6 f7 f8 f9 pos base lim np outs dp it G) (hS : Sx b n ob hb sb pos 0 base lim np outs dp G) (hkp : n < k + pos) :
    ∃ g0 g3 g4 g5 g6 g7 g8 g9, pX1_readItem N f0 f1 f2 f3 f4 f5 f6 f7 f8 f9 = some (g0, g3, g4, g5, g6, g7, g8, g9) ∧
      OutA sv b n ob hb sb f1 f2 k pos (sp sv b n ob hb sb k pos 0 base lim np outs dp it ia ca ga G) g0 g3 g4 g5 g6 g7 g8 g9 := by
  obtain ⟨h1, hsv, h7, h8, hf6, hf7, hf8, hSt, hG⟩ := hR
  obtain ⟨hW, hWS, hOU, hl, hbs, hple, hdp, hag1, hag⟩ := hS
  obtain ⟨w1, w2, w3, w4, w5, w6, w7, w8, w9, w10, w11⟩ := id hW
  have hlim := (WS_lim hWS).1
  obtain ⟨k, rfl⟩ : ∃ j, k = j + 1 := ⟨k - 1, by omega⟩
  have hsp2 : sp sv b n ob hb sb (k + 1) pos 0 base lim np outs dp it ia ca ga G = if lim < pos + 1 then some (rz (mK outs) (nI np) G dp it ia ca ga) else if sb ≤ G.2.2.1 then some (rz 9 (nI pos) G dp it ia ca ga) else spA (sp sv b n ob hb sb k) sv b n ob hb sb pos 0 base lim np outs dp (it + 1) ia ca ga (st1 G) := rfl
  rw [hsp2]
  unfold pX1_readItem
  rw [lt_x, h8]
  have q7 : upd f0 9 (nI pos) 7 = nI (outs.length + 1) := by rw [un (by decide)]; exact h7
  have q8 : upd f0 9 (nI pos) 8 = nI pos := by rw [un (by decide)]; exact h8
  obtain ⟨m, rfl⟩ : ∃ j, N = j + 1 := ⟨N - 1, by omega⟩
  by_cases cl : lim < pos + 1
  · obtain ⟨g3, e1, e2⟩ := A_begin_c (f1 := f1) (f2 := f2) q7 hl q8 hf7 hf8 (by omega) hple cl hG.1
    have hmk : 0 < mK outs ∧ mK outs ≤ 2 := by unfold mK; split <;> omega
    rw [e1, bd3_s, A_15_f e2.2.2.2.1 hmk.1 (by omega), if_pos cl]
    exact ⟨_, _, _, _, _, _, _, _, rfl, Or.inl ⟨_, rfl, Fz_of (by omega) hW ⟨e2, hG.2⟩, fun h => absurd h (by show ¬ mK outs = 0; omega)⟩⟩
  · rw [if_neg cl]
    by_cases cs : sb ≤ G.2.2.1
    · obtain ⟨g3, e1, e2⟩ := A_begin_s (f1 := f1) (f2 := f2) (f8 := f8) q7 hl q8 hf7 (by omega) (by omega) cs (by omega) hG.1
      rw [e1, bd3_s, A_15_f e2.2.2.2.1 (by omega) (by omega), if_pos cs]
      exact ⟨_, _, _, _, _, _, _, _, rfl, Or.inl ⟨_, rfl, Fz_of (by omega) hW ⟨e2, hG.2⟩, fun h => absurd h (Nat.succ_ne_zero _)⟩⟩
    · obtain ⟨g3, e1, e2⟩ := A_begin_t (n := n) (f1 := f1) (f2 := f2) (f8 := f8) q7 hl q8 hf7 hlim w1 h1 (by omega) (by omega) w4 hG.1
      rw [e1, bd3_s, if_neg cs, hsv pos (by omega), (hsb pos (by omega)).1, k0]
      exact A_15 hsb hN k (m + 1) pos 0 _ g3 dp (it + 1) ia ca ga (st1 G) (by omega) ⟨h1, hsv, by rw [un (by decide)]; exact q7, us, hf6, hf7, hf8, hSt, e2, hG.2⟩ (by rw [un (by decide), us]; rfl) ⟨⟨w1, w2, w3, w4, w5, by show G.2.2.1 + 1 ≤ sb; omega, w7, w8, w9, w10, w11⟩, hWS, hOU, hl, hbs, by omega, hdp, by omega, hag⟩ (by omega) (by omega) (by omega) (by omega)
end TURN
section OPEN
variable {N n ob hb sb : Nat} {b : Nat → Nat} {sv : Nat → Int32} {f1 f2 : Nat → Int32} {a1 a2 a3 : Int32}
/-- the turns of an opening -/
theorem A_loop (hsb : ∀ i, i < n → sv i = nI (b i) ∧ b i < 256) (hN : 1000 < N) :
    ∀ (m j k pos : Nat) (f0 f3 f4 f5 f6 f7 f8 f9 : Nat → Int32) (base lim np : Nat) (outs : List Fr) (dp it : Nat) (ia ca ga : Int32) (G : GS), n + 1 < m + pos → j ≤ pos → RA sv n ob hb sb f0 f1 f2 f3 f4 f5 f6 f7 f8 f9 pos base lim np outs dp it G → Sx b n ob hb sb pos 0 base lim np outs dp G → n < k + pos →
      ∃ r g0 g3 g4 g5 g6 g7 g8 g9, sp sv b n ob hb sb k pos 0 base lim np outs dp it ia ca ga G = some r ∧ bfX1_read_42 N a1 a2 a3 f1 f2 m (nI j) f0 f3 f4 f5 f6 f7 f8 f9 = some (nI r.1, g0, g3, g4, g5, g6, g7, g8, g9) ∧ Fz g3 g4 g5 ob hb sb r := by
  intro m
  induction m with
  | zero =>
    intro j k pos f0 f3 f4 f5 f6 f7 f8 f9 base lim np outs dp it ia ca ga G hm hj hR hS hk
    have := (WS_lim hS.2.1).1
    have := hS.2.2.2.2.2.1
    omega
  | succ m ih =>
    intro j k pos f0 f3 f4 f5 f6 f7 f8 f9 base lim np outs dp it ia ca ga G hm hj hR hS hk
    have hn := hS.1.1
    have h2 := (WS_lim hS.2.1).1
    have h3 := hS.2.2.2.2.2.1
    have hl := hS.2.2.2.1
    obtain ⟨g0, g3, g4, g5, g6, g7, g8, g9, e1, e2⟩ := A_turn (ia := ia) (ca := ca) (ga := ga) hsb hN hR hS hk
    obtain ⟨h1, hsv, h7, h8, hf6, hf7, hf8, hSt, hG⟩ := hR
    show ∃ r g0 g3 g4 g5 g6 g7 g8 g9, _ ∧ bFX1_read_42 N a1 a2 a3 f1 f2 (bfX1_read_42 N a1 a2 a3 f1 f2 m) (nI j) f0 f3 f4 f5 f6 f7 f8 f9 = _ ∧ _
    unfold bFX1_read_42
    rw [if_neg (by rw [k160]; exact nI_nlt (by omega) (by omega)), if_neg (by rw [h7]; exact nI_nle (by omega) (by omega)), c_failed_0 hG.1.2.2.2.1, bd1_s, if_pos rfl, e1, bd8_s, lt_x, nI_1]
    rcases e2 with ⟨r, e3, e4, e5⟩ | ⟨k', pos', base', lim', np', outs', dp', it', ia', ca', ga', G', e3, e4, e5, e6, e7, e8⟩
    · refine ⟨r, g0, g3, g4, g5, g6, g7, g8, g9, e3, ?_, e4⟩
      obtain ⟨hd, t, hA, ht, ht2, hk10, hou, hrow⟩ := e4
      obtain ⟨m, rfl⟩ : ∃ i, m = i + 1 := ⟨m - 1, by omega⟩
      show bFX1_read_42 N a1 a2 a3 f1 f2 (bfX1_read_42 N a1 a2 a3 f1 f2 m) (nI (j + 1)) g0 g3 g4 g5 g6 g7 g8 g9 = _
      unfold bFX1_read_42
      rw [hA.2.2.2.1]
      by_cases c : r.1 = 0
      · split
        · rfl
        · rw [if_pos (by rw [e5 c]; decide)]
      · split
        · rfl
        · split
          · rfl
          · rw [c_failed_1 hA.2.2.2.1 (by omega) (by omega), bd1_s, if_neg (by decide)]
    · rw [e3]
      exact ih (j + 1) k' pos' g0 g3 g4 g5 g6 g7 g8 g9 base' lim' np' outs' dp' it' ia' ca' ga' G' (by omega) (by omega) e7 e8 e5
/-- AN OPENING by the reader that asks ahead -/
theorem A_read (hsb : ∀ i, i < n → sv i = nI (b i) ∧ b i < 256) (hN : 1000 < N) {f0 f3 f4 f5 f6 f7 f8 f9 row : Nat → Int32} {t0 : Nat} (hn : n ≤ 160) (ho : ob ≤ 400) (hh : hb ≤ 800) (hs : sb ≤ 1500) (h1 : f1 1 = nI n) (hsv : ∀ i, i < n → f2 i = sv i) (h4 : f4 1 = nI t0) (ht : t0 < 2 ^ 31) :
    ∃ r g0 g3 g4 g5 g6 g7 g8 g9, spO sv b n ob hb sb row = some r ∧ pX1_read N (nI ob) (nI hb) (nI sb) f0 f1 f2 f3 f4 f5 f6 f7 f8 f9 = some (nI r.1, g0, g3, g4, g5, g6, g7, g8, g9) ∧ Fz g3 g4 g5 ob hb sb r := by
  unfold pX1_read
  obtain ⟨g3, g4, e1, e2, e3⟩ := c_start (f := f3) (ob := ob) (hb := hb) (sb := sb) ht h4
  rw [e1, bd2_s, lt_x, lt_x]
  unfold pX5_count
  rw [bd1_s, bd1_s, h1]
  unfold pX1_enterPack
  have e7 : upd (upd f0 7 0) 8 0 7 = 0 := by rw [un (by decide), us]
  obtain ⟨g5, e4, e5⟩ := c_reach (d := 1) (by omega) (by omega) e2
  rw [if_pos (by rw [e7]; decide), lt_x, e7, us]
  unfold pX4_top
  rw [bd1_s, e3, show (0 : Int32) + 1 = nI 1 from rfl]
  simp only [gi_ok (show 1 < 7 by omega) (by decide), lt_x, ncl (show 1 < 2 ^ 31 by omega)]
  rw [e4, bd1_s, bd6_s]
  have q8 : upd (upd (upd f0 7 0) 8 0) 7 (nI 1) 8 = nI 0 := by rw [un (by decide), us]; rfl
  have := A_loop (a1 := nI ob) (a2 := nI hb) (a3 := nI sb) (f1 := f1) (f2 := f2) (ob := ob) (hb := hb) (sb := sb) hsb hN N 0 (n + 1) 0 (upd (upd (upd f0 7 0) 8 0) 7 (nI 1)) g5 g4 f5 (upd f6 1 (nI 0)) (upd f7 1 (nI n)) (upd f8 1 (nI n)) (upd f9 1 0) 0 n n [] 1 0 (-1) (-1) (-1) (0, row, 0, 0, 0, 0) (by omega) (by omega) ⟨h1, hsv, us, q8, us, us, us, trivial, e5, e3, fun i hi => absurd hi (Nat.not_lt_zero i)⟩ ⟨⟨hn, ho, hh, hs, rfl, Nat.zero_le _, Nat.zero_le _, Nat.zero_le _, Nat.zero_le _, Nat.zero_le _, fun _ => rfl⟩, ⟨rfl, rfl, rfl⟩, trivial, by simp, Nat.le_refl _, Nat.zero_le _, by omega, by omega, fun i h1 h2 => absurd h2 (by omega)⟩ (by omega)
  obtain ⟨r, x0, x3, x4, x5, x6, x7, x8, x9, y1, y2, y3⟩ := this
  exact ⟨r, x0, x3, x4, x5, x6, x7, x8, x9, y1, y2, y3⟩
end OPEN
