/-! ===== PURE PART 25: the plain reader: AGAINs ahead of an item, a pack, an opening ===== -/
section PLAIN6
variable {N n ob hb sb : Nat} {b : Nat → Nat} {sv : Nat → Int32} {outs : List Fr} {f1 f2 : Nat → Int32} {lim np base : Nat} {rp : RpT}
theorem P_45_n {v3 v4 a2 : Int32} {kd : Nat} {f0 f3 f4 f5 : Nat → Int32} {a1 : Int32} (h : f3 4 = nI kd) (h0 : 0 < kd) (h1 : kd ≤ 10) : bfX3_readItem_45 N rp a1 a2 f1 f2 v3 v4 f0 f3 f4 f5 = some (0, f0, f3, f4, f5) := by
  unfold bfX3_readItem_45
  rw [c_failed_1 h h0 (by omega), bd1_s, if_neg (by decide)]
theorem P_15_f {m kd : Nat} {v3 v5 a1 a2 : Int32} {f0 f3 f4 f5 : Nat → Int32} (h : f3 4 = nI kd) (h0 : 0 < kd) (h1 : kd ≤ 10) : bfX3_readItem_15 N rp a1 a2 f1 f2 (m + 1) v3 0 v5 f0 f3 f4 f5 = some (0, f0, f3, f4, f5) := by
  show bFX3_readItem_15 N rp a1 a2 f1 f2 (bfX3_readItem_15 N rp a1 a2 f1 f2 m) v3 0 v5 f0 f3 f4 f5 = _
  unfold bFX3_readItem_15
  rw [P_45_n h h0 h1, k0, x_sort (by omega), bd1_s, if_neg (show ¬ nI (srt 0) = 3 by decide), ite_self]
theorem P_15 (hrp : outs.length < 5 → ∀ ags, RpOK sv b n ob hb sb f1 f2 rp ((base, lim, np, ags) :: outs)) (h1 : f1 1 = nI n) (hsv : ∀ i, i < n → f2 i = sv i) (hsb : ∀ i, i < n → sv i = nI (b i) ∧ b i < 256) (hN : 1000 < N) {kz pos0 first : Nat} {f4 f5 : Nat → Int32} :
    ∀ (k m pos ags : Nat) (f0 f3 : Nat → Int32) (dp it : Nat) (ia ca ga : Int32) (G : GS), n + 1 < m + pos → Pf f0 (pos + 1) lim np → Gv f3 f4 f5 ob hb sb 0 (-1) dp it G → first = pos - ags → Sx b n ob hb sb pos ags base lim np outs dp G → G.2.2.2.1 ≤ G.2.2.2.2.1 → pos + 1 ≤ lim → k < kz → n < k + (pos + 1) → pos0 ≤ pos →
      ∃ w g0 g3 g4 g5, bfX3_readItem_15 N rp (nI (outs.length + 1)) (nI base) f1 f2 m (nI first) (nI (b pos)) (nI ags) f0 f3 f4 f5 = some (w, g0, g3, g4, g5) ∧
        OutP sv b n ob hb sb kz pos0 base lim np outs (spA (sp sv b n ob hb sb k) sv b n ob hb sb pos ags base lim np outs dp it ia ca ga G) w g0 g3 g4 g5 := by
  intro k
  induction k with
  | zero =>
    intro m pos ags f0 f3 dp it ia ca ga G hm hP hG hfi hS hmx hpl hk hkp hpp
    have := (WS_lim hS.2.1).1
    omega
  | succ k ih =>
    intro m pos ags f0 f3 dp it ia ca ga G hm hP hG hfi hS hmx hpl hk hkp hpp
    have hlim := (WS_lim hS.2.1).1
    have hn := hS.1.1
    obtain ⟨m, rfl⟩ : ∃ j, m = j + 1 := ⟨m - 1, by omega⟩
    have hbp := hsb pos (by omega)
    have hag0 := hS.2.2.2.2.2.2.2.1
    show ∃ w g0 g3 g4 g5, bFX3_readItem_15 N rp (nI (outs.length + 1)) (nI base) f1 f2 (bfX3_readItem_15 N rp (nI (outs.length + 1)) (nI base) f1 f2 m) (nI first) (nI (b pos)) (nI ags) f0 f3 f4 f5 = _ ∧ _
    unfold bFX3_readItem_15
    rw [if_neg (by rw [k160]; exact nI_ge (by omega) (by omega)), x_sort hbp.2, bd1_s]
    by_cases hA : 128 ≤ b pos ∧ b pos < 192
    · have hs : srt (b pos) = 3 := by unfold srt; rw [if_neg (by omega), if_neg (by omega), if_neg (by omega), if_pos hA.2]
      rw [if_pos (by rw [hs]; rfl)]
      have hsp : spA (sp sv b n ob hb sb (k + 1)) sv b n ob hb sb pos ags base lim np outs dp it ia ca ga G = sp sv b n ob hb sb (k + 1) (pos + 1) (ags + 1) base lim np outs dp it ia ca (fst_ ga pos) G := by
        unfold spA
        rw [if_neg (by omega), if_neg (by omega), if_neg (by omega), if_pos hA.2]
      have hsp2 : sp sv b n ob hb sb (k + 1) (pos + 1) (ags + 1) base lim np outs dp it ia ca (fst_ ga pos) G = if lim < pos + 1 + 1 then some (rz (mK outs) (nI np) G dp it ia ca (fst_ ga pos)) else if sb ≤ G.2.2.1 then some (rz 9 (nI (pos + 1)) G dp it ia ca (fst_ ga pos)) else spA (sp sv b n ob hb sb k) sv b n ob hb sb (pos + 1) (ags + 1) base lim np outs dp (it + 1) ia ca (fst_ ga pos) (st1 G) := rfl
      rw [hsp, hsp2]
      obtain ⟨hW, hWS, hOU, hl, hbs, hple, hdp, hag1, hag⟩ := hS
      obtain ⟨w1, w2, w3, w4, w5, w6, w7, w8, w9, w10, w11⟩ := id hW
      obtain ⟨m, rfl⟩ : ∃ j, m = j + 1 := ⟨m - 1, by omega⟩
      by_cases cl : lim < pos + 1 + 1
      · obtain ⟨g3, e1, e2⟩ := P_begin_c (f1 := f1) (f2 := f2) hl hP (by omega) (by omega) hG.1
        have hmk : 0 < mK outs ∧ mK outs ≤ 2 := by unfold mK; split <;> omega
        rw [e1, bd3_s, lt_x, P_15_f e2.2.2.2.1 hmk.1 (by omega), if_pos cl]
        exact ⟨_, _, _, _, _, rfl, OutP_f hmk.1 (Fz_of (by omega) hW ⟨e2, hG.2⟩)⟩
      · rw [if_neg cl]
        by_cases cs : sb ≤ G.2.2.1
        · obtain ⟨g0, g3, e1, e2⟩ := P_begin_s (a1 := nI (outs.length + 1)) (f2 := f2) hP h1 hn hlim (by omega) cs (by omega) hG.1
          rw [e1, bd3_s, lt_x, P_15_f e2.2.2.2.1 (by omega) (by omega), if_pos cs]
          exact ⟨_, _, _, _, _, rfl, OutP_f (by show 0 < 9; omega) (Fz_of (by omega) hW ⟨e2, hG.2⟩)⟩
        · obtain ⟨g3, e1, e2⟩ := P_begin_t (a1 := nI (outs.length + 1)) (f2 := f2) hP h1 hn hlim (by omega) (by omega) w4 hG.1
          rw [e1, bd3_s, lt_x, nI_1, if_neg cs, hsv (pos + 1) (by omega), (hsb (pos + 1) (by omega)).1]
          refine ih (m + 1) (pos + 1) (ags + 1) _ g3 dp (it + 1) ia ca (fst_ ga pos) (st1 G) (by omega) (Pf_u hP) ⟨e2, hG.2⟩ (by omega) ⟨⟨w1, w2, w3, w4, w5, by show G.2.2.1 + 1 ≤ sb; omega, w7, w8, w9, w10, w11⟩, hWS, hOU, hl, hbs, by omega, hdp, by omega, fun i h1 h2 => ?_⟩ hmx (by omega) (by omega) (by omega) (by omega)
          by_cases ci : i = pos
          · subst ci; exact hA
          · exact hag i (by omega) (by omega)
    · have hs : ¬ nI (srt (b pos)) = 3 := by
        have : srt (b pos) ≠ 3 ∧ srt (b pos) < 6 := by unfold srt; split <;> (try split) <;> (try split) <;> (try split) <;> (try split) <;> omega
        rw [k3]; intro e; exact this.1 ((nI_eq (by omega) (by omega)).mp e)
      rw [if_neg hs, hfi]
      exact P_45 (fun h => hrp h ags) h1 hsv hsb hN hP hG hS hmx hpl hA hk hkp hpp
/-- one item -/
theorem P_item (hrp : outs.length < 5 → ∀ ags, RpOK sv b n ob hb sb f1 f2 rp ((base, lim, np, ags) :: outs)) (h1 : f1 1 = nI n) (hsv : ∀ i, i < n → f2 i = sv i) (hsb : ∀ i, i < n → sv i = nI (b i) ∧ b i < 256) (hN : 1000 < N) {k pos : Nat} {f0 f3 f4 f5 : Nat → Int32} {dp it : Nat} {ia ca ga : Int32} {G : GS} (hP : Pf f0 pos lim np) (hG : Gv f3 f4 f5 ob hb sb 0 (-1) dp it G) (hS : Sx b n ob hb sb pos 0 base lim np outs dp G) (hmx : G.2.2.2.1 ≤ G.2.2.2.2.1) (hkp : n < k + pos) :
    ∃ w g0 g3 g4 g5, pX3_readItem N rp (nI (outs.length + 1)) (nI base) f0 f1 f2 f3 f4 f5 = some (w, g0, g3, g4, g5) ∧
      OutP sv b n ob hb sb k pos base lim np outs (sp sv b n ob hb sb k pos 0 base lim np outs dp it ia ca ga G) w g0 g3 g4 g5 := by
  obtain ⟨hW, hWS, hOU, hl, hbs, hple, hdp, hag1, hag⟩ := hS
  obtain ⟨w1, w2, w3, w4, w5, w6, w7, w8, w9, w10, w11⟩ := id hW
  have hlim := (WS_lim hWS).1
  obtain ⟨k, rfl⟩ : ∃ j, k = j + 1 := ⟨k - 1, by omega⟩
  have hsp2 : sp sv b n ob hb sb (k + 1) pos 0 base lim np outs dp it ia ca ga G = if lim < pos + 1 then some (rz (mK outs) (nI np) G dp it ia ca ga) else if sb ≤ G.2.2.1 then some (rz 9 (nI pos) G dp it ia ca ga) else spA (sp sv b n ob hb sb k) sv b n ob hb sb pos 0 base lim np outs dp (it + 1) ia ca ga (st1 G) := rfl
  rw [hsp2]
  unfold pX3_readItem
  rw [lt_x, hP.2.2]
  obtain ⟨m, rfl⟩ : ∃ j, N = j + 1 := ⟨N - 1, by omega⟩
  by_cases cl : lim < pos + 1
  · obtain ⟨g3, e1, e2⟩ := P_begin_c (f1 := f1) (f2 := f2) hl hP (by omega) (by omega) hG.1
    have hmk : 0 < mK outs ∧ mK outs ≤ 2 := by unfold mK; split <;> omega
    rw [e1, bd3_s, P_15_f e2.2.2.2.1 hmk.1 (by omega), if_pos cl]
    exact ⟨_, _, _, _, _, rfl, OutP_f hmk.1 (Fz_of (by omega) hW ⟨e2, hG.2⟩)⟩
  · rw [if_neg cl]
    by_cases cs : sb ≤ G.2.2.1
    · obtain ⟨g0, g3, e1, e2⟩ := P_begin_s (a1 := nI (outs.length + 1)) (f2 := f2) hP h1 w1 hlim (by omega) cs (by omega) hG.1
      rw [e1, bd3_s, P_15_f e2.2.2.2.1 (by omega) (by omega), if_pos cs]
      exact ⟨_, _, _, _, _, rfl, OutP_f (by show 0 < 9; omega) (Fz_of (by omega) hW ⟨e2, hG.2⟩)⟩
    · obtain ⟨g3, e1, e2⟩ := P_begin_t (a1 := nI (outs.length + 1)) (f2 := f2) hP h1 w1 hlim (by omega) (by omega) w4 hG.1
      rw [e1, bd3_s, if_neg cs, hsv pos (by omega), (hsb pos (by omega)).1, k0]
      exact P_15 hrp h1 hsv hsb hN k (m + 1) pos 0 _ g3 dp (it + 1) ia ca ga (st1 G) (by omega) (Pf_u hP) ⟨e2, hG.2⟩ rfl ⟨⟨w1, w2, w3, w4, w5, by show G.2.2.1 + 1 ≤ sb; omega, w7, w8, w9, w10, w11⟩, hWS, hOU, hl, hbs, by omega, hdp, by omega, hag⟩ hmx (by omega) (by omega) (by omega) (by omega)
theorem P_loop (hrp : outs.length < 5 → ∀ ags, RpOK sv b n ob hb sb f1 f2 rp ((base, lim, np, ags) :: outs)) (h1 : f1 1 = nI n) (hsv : ∀ i, i < n → f2 i = sv i) (hsb : ∀ i, i < n → sv i = nI (b i) ∧ b i < 256) (hN : 1000 < N) {k0 pos0 : Nat} :
    ∀ (m j k pos : Nat) (f0 f3 f4 f5 : Nat → Int32) (dp it : Nat) (ia ca ga : Int32) (G : GS), n + 1 < m + pos → j ≤ pos → k < k0 → pos0 ≤ pos → Pf f0 pos lim np → Gv f3 f4 f5 ob hb sb 0 (-1) dp it G → Sx b n ob hb sb pos 0 base lim np outs dp G → G.2.2.2.1 ≤ G.2.2.2.2.1 → n < k + pos →
      ∃ g0 g3 g4 g5, bfX3_readPack_21 N rp (nI (outs.length + 1)) f1 f2 m (nI base) 1 (nI j) f0 f3 f4 f5 = some (g0, g3, g4, g5) ∧ OutK sv b n ob hb sb k0 pos0 base lim np outs (sp sv b n ob hb sb k pos 0 base lim np outs dp it ia ca ga G) g0 g3 g4 g5 := by
  intro m
  induction m with
  | zero =>
    intro j k pos f0 f3 f4 f5 dp it ia ca ga G hm hj hk0 hp0 hP hG hS hmx hk
    have := (WS_lim hS.2.1).1
    have := hS.2.2.2.2.2.1
    omega
  | succ m ih =>
    intro j k pos f0 f3 f4 f5 dp it ia ca ga G hm hj hk0 hp0 hP hG hS hmx hk
    have hn := hS.1.1
    have h2 := (WS_lim hS.2.1).1
    have h3 := hS.2.2.2.2.2.1
    obtain ⟨w, g0, g3, g4, g5, e1, e2⟩ := P_item (ia := ia) (ca := ca) (ga := ga) hrp h1 hsv hsb hN hP hG hS hmx hk
    show ∃ g0 g3 g4 g5, bFX3_readPack_21 N rp (nI (outs.length + 1)) f1 f2 (bfX3_readPack_21 N rp (nI (outs.length + 1)) f1 f2 m) (nI base) 1 (nI j) f0 f3 f4 f5 = _ ∧ _
    unfold bFX3_readPack_21
    rw [if_neg (by rw [k160]; exact nI_nlt (by omega) (by omega)), if_neg (by decide), e1, bd5_s, lt_x, nI_1]
    rcases e2 with ⟨hw, e3⟩ | ⟨hw, k', p2, dp', it', ia', ca', ga', G', e3, e4, e5, e6, e7, e8, e9, e10⟩
    · rw [hw]
      have hstop : bfX3_readPack_21 N rp (nI (outs.length + 1)) f1 f2 m (nI base) 0 (nI (j + 1)) g0 g3 g4 g5 = some (g0, g3, g4, g5) := by
        obtain ⟨m, rfl⟩ : ∃ i, m = i + 1 := ⟨m - 1, by omega⟩
        show bFX3_readPack_21 N rp (nI (outs.length + 1)) f1 f2 (bfX3_readPack_21 N rp (nI (outs.length + 1)) f1 f2 m) (nI base) 0 (nI (j + 1)) g0 g3 g4 g5 = _
        unfold bFX3_readPack_21
        rw [if_pos (show (0 : Int32) = 0 from rfl), ite_self]
      refine ⟨g0, g3, g4, g5, hstop, ?_⟩
      rcases e3 with e3 | ⟨k', p2, dp', it', ia', ca', ga', G', e3, e4, e5, e6, e7⟩
      · exact Or.inl e3
      · exact Or.inr ⟨k', p2, dp', it', ia', ca', ga', G', e3, by omega, e5, by omega, e7⟩
    · rw [hw, e3]
      exact ih (j + 1) k' p2 g0 g3 g4 g5 dp' it' ia' ca' ga' G' (by omega) (by omega) (by omega) (by omega) e7 e8 e9 e10 e5
end PLAIN6
section PLAIN7
variable {N n ob hb sb : Nat} {b : Nat → Nat} {sv : Nat → Int32} {f1 f2 : Nat → Int32}
/-- a pack, by the depth that is left -/
theorem P_pack (h1 : f1 1 = nI n) (hsv : ∀ i, i < n → f2 i = sv i) (hsb : ∀ i, i < n → sv i = nI (b i) ∧ b i < 256) (hN : 1000 < N) : ∀ (d : Nat) (o : List Fr), 6 ≤ d + o.length → RpOK sv b n ob hb sb f1 f2 (qX3_readPack N d) o := by
  intro d
  induction d with
  | zero =>
    intro o ho k pos base lim np dp it ia ca ga G f0 f3 f4 f5 hP hG hS hmx hb0 hk
    have := hS.2.2.2.1
    omega
  | succ d ih =>
    intro o ho k pos base lim np dp it ia ca ga G f0 f3 f4 f5 hP hG hS hmx hb0 hk
    show ∃ g0 g3 g4 g5, pX3_readPack N (qX3_readPack N d) (nI (o.length + 1)) f0 f1 f2 f3 f4 f5 = _ ∧ _
    unfold pX3_readPack
    have htop : ∀ x, pX4_top x = some (x 1) := fun x => rfl
    obtain ⟨hW, hWS, hOU, hl, hbs, hple, hdp, hag1, hag⟩ := hS
    obtain ⟨g3, e1, e2⟩ := c_reach (d := o.length + 1) (by omega) (by omega) hG.1
    rw [e1, bd1_s, htop, bd1_s, hG.2.1, hb0, k0]
    exact P_loop (fun h ags => ih _ (by simp only [List.length_cons]; omega)) h1 hsv hsb hN N 0 k pos f0 g3 f4 f5 _ it ia ca ga G (by have := hW.1; omega) (by omega) (by omega) (Nat.le_refl _) hP ⟨e2, hG.2⟩ ⟨hW, hWS, hOU, hl, hbs, hple, by omega, hag1, hag⟩ hmx hk
/-- AN OPENING by the plain reader -/
theorem P_read (hsb : ∀ i, i < n → sv i = nI (b i) ∧ b i < 256) (hN : 1000 < N) {f0 f3 f4 f5 row : Nat → Int32} {t0 : Nat} (hn : n ≤ 160) (ho : ob ≤ 400) (hh : hb ≤ 800) (hs : sb ≤ 1500) (h1 : f1 1 = nI n) (hsv : ∀ i, i < n → f2 i = sv i) (h4 : f4 1 = nI t0) (ht : t0 < 2 ^ 31) :
    ∃ r g0 g3 g4 g5, spO sv b n ob hb sb row = some r ∧ pX3_read N (nI ob) (nI hb) (nI sb) f0 f1 f2 f3 f4 f5 = some (g0, g3, g4, g5) ∧ Fz g3 g4 g5 ob hb sb r := by
  unfold pX3_read
  obtain ⟨g3, g4, e1, e2, e3⟩ := c_start (f := f3) (ob := ob) (hb := hb) (sb := sb) ht h4
  have hcount : ∀ x, pX5_count x = some (x 1) := fun x => rfl
  rw [e1, bd2_s, lt_x, hcount, bd1_s, lt_x, bd1_s, lt_x, h1]
  have hp := P_pack (ob := ob) (hb := hb) (sb := sb) h1 hsv hsb hN 8 [] (by simp) (n + 1) 0 0 n n 0 0 (-1) (-1) (-1) (0, row, 0, 0, 0, 0) (upd (upd (upd f0 5 0) 3 (nI n)) 4 (nI n)) g3 g4 f5 ⟨by rw [un (by decide), us], us, by rw [un (by decide), un (by decide), us]; rfl⟩ ⟨e2, e3, fun i hi => absurd hi (Nat.not_lt_zero i)⟩ ⟨⟨hn, ho, hh, hs, rfl, Nat.zero_le _, Nat.zero_le _, Nat.zero_le _, Nat.zero_le _, Nat.zero_le _, fun _ => rfl⟩, ⟨rfl, rfl, rfl⟩, trivial, by simp, Nat.le_refl _, Nat.zero_le _, by omega, by omega, fun i h1 h2 => absurd h2 (by omega)⟩ (Nat.le_refl _) rfl (by omega)
  obtain ⟨x0, x3, x4, x5, y1, y2⟩ := hp
  have y1 : qX3_readPack N 8 1 (upd (upd (upd f0 5 0) 3 (nI n)) 4 (nI n)) f1 f2 g3 g4 f5 = some (x0, x3, x4, x5) := y1
  rw [y1, bd4_s]
  have y2 : OutK sv b n ob hb sb (n + 1 + 1) 0 0 n n [] (spO sv b n ob hb sb row) x0 x3 x4 x5 := y2
  rcases y2 with ⟨r, z1, z2, z3⟩ | ⟨k, p2, dp, it, ia, ca, ga, G, z1, z2, z3, z4, z5, z6, z7, z8⟩
  · obtain ⟨hd, t, hA, -⟩ := id z3
    have hk10 : r.1 ≤ 10 := by obtain ⟨_, _, _, _, _, h, _⟩ := id z3; exact h
    rw [c_fail_n hA.2.2.2.1 z2 (by omega), bd1_s, bd1_s, ite_self]
    exact ⟨r, x0, x3, x4, x5, z1, rfl, z3⟩
  · have hp2 : p2 ≤ n := z7.2.2.2.2.2.1
    rw [bd1_s, z5.2.2, z1]
    have hT : spT (sp sv b n ob hb sb k) b n ob hb sb p2 0 n n [] dp it ia ca ga G = if p2 < n then some (rz 5 (nI p2) G dp it ia ca ga) else some (rz 0 (-1) G dp it ia ca ga) := rfl
    rw [hT]
    by_cases c : p2 < n
    · obtain ⟨y3, u1, u2⟩ := c_fail (k := 5) (p := nI p2) (kn := 5) rfl z6.1
      rw [if_neg (nI_ge c (by omega)), u1, bd1_s, if_pos c]
      exact ⟨_, x0, y3, x4, x5, rfl, rfl, Fz_of (by omega) z7.1 ⟨u2, z6.2⟩⟩
    · rw [if_pos (nI_le (by omega) (by omega)), if_neg c]
      exact ⟨_, x0, x3, x4, x5, rfl, rfl, Fz_of (by omega) z7.1 z6⟩
end PLAIN7
