/-! ===== PURE PART 21: the plain reader: RAW, COPY, INNER's giving, AGAIN ===== -/
section PLAIN2
variable {N n ob hb sb : Nat} {b : Nat → Nat} {sv : Nat → Int32} {outs : List Fr} {f1 f2 : Nat → Int32} {dp it lim np base : Nat} {a2 a4 : Int32}
/-- all c bytes stand there: they are taken -/
theorem P_takes_t {c : Nat} {v4 a3 : Int32} {f3 f4 f5 : Nat → Int32} (h1 : f1 1 = nI n) (hn : n ≤ 160) (hlim : lim ≤ n) (hc : c < 2 ^ 31) (hk : f3 4 = nI 0) :
    ∀ (m j pos : Nat) (f0 : Nat → Int32), j ≤ c → c - j < m → pos + (c - j) ≤ lim → Pf f0 pos lim np → ∃ g0, bfX3_readRaw_9 N (nI c) a2 a3 f1 f2 m v4 (nI j) f0 f3 f4 f5 = bfX3_readRaw_37 N (nI c) a2 a3 f1 f2 v4 g0 f3 f4 f5 ∧ Pf g0 (pos + (c - j)) lim np := by
  intro m
  induction m with
  | zero => intro j pos f0 _ h; omega
  | succ m ih =>
    intro j pos f0 hj hm hp hP
    show ∃ g0, bFX3_readRaw_9 N (nI c) a2 a3 f1 f2 (bfX3_readRaw_9 N (nI c) a2 a3 f1 f2 m) v4 (nI j) f0 f3 f4 f5 = _ ∧ _
    unfold bFX3_readRaw_9
    by_cases cj : c ≤ j
    · rw [if_pos (nI_le cj (by omega))]
      exact ⟨f0, rfl, by rw [show c - j = 0 by omega]; exact hP⟩
    · rw [if_neg (nI_ge (by omega) (by omega)), c_failed_0 hk, bd1_s, if_pos rfl, P_take_t hP h1 hn hlim (by omega) hk, bd3_s, lt_x, nI_1]
      obtain ⟨g0, e1, e2⟩ := ih (j + 1) (pos + 1) _ (by omega) (by omega) (by omega) (Pf_u hP)
      exact ⟨g0, e1, by rw [show pos + (c - j) = pos + 1 + (c - (j + 1)) by omega]; exact e2⟩
/-- one of them is missing -/
theorem P_takes_f {c : Nat} {v4 pl : Int32} {st hd mx ou : Nat} {f3 f4 f5 : Nat → Int32} (hl : outs.length ≤ 5) (h1 : f1 1 = nI n) (hn : n ≤ 160) (hlim : lim ≤ n) (hc : c < 2 ^ 31) (hN : 0 < N) (hA : Ac f3 ob hb sb 0 pl st hd mx ou dp it) :
    ∀ (m j pos : Nat) (f0 : Nat → Int32), j ≤ c → lim - pos + 1 < m → pos ≤ lim → lim < pos + (c - j) → Pf f0 pos lim np → ∃ g0 g3, bfX3_readRaw_9 N (nI c) a2 (nI (outs.length + 1)) f1 f2 m v4 (nI j) f0 f3 f4 f5 = some (g0, g3, f4, f5) ∧ Ac g3 ob hb sb (mK outs) (nI np) st hd mx ou dp it := by
  intro m
  induction m with
  | zero => intro j pos f0 _ h; omega
  | succ m ih =>
    intro j pos f0 hj hm hp hq hP
    show ∃ g0 g3, bFX3_readRaw_9 N (nI c) a2 (nI (outs.length + 1)) f1 f2 (bfX3_readRaw_9 N (nI c) a2 (nI (outs.length + 1)) f1 f2 m) v4 (nI j) f0 f3 f4 f5 = _ ∧ _
    unfold bFX3_readRaw_9
    rw [if_neg (nI_ge (by omega) (by omega)), c_failed_0 hA.2.2.2.1, bd1_s, if_pos rfl]
    by_cases cp : lim ≤ pos
    · obtain ⟨g3, e1, e2⟩ := P_take_f (f1 := f1) (f2 := f2) hl hP cp (by omega) hA
      have hmk : 0 < mK outs ∧ mK outs ≤ 2 := by unfold mK; split <;> omega
      obtain ⟨m, rfl⟩ : ∃ x, m = x + 1 := ⟨m - 1, by omega⟩
      rw [e1, bd3_s, lt_x, P_raw9_n hN e2.2.2.2.1 hmk.1 (by omega)]
      exact ⟨_, _, rfl, e2⟩
    · rw [P_take_t hP h1 hn hlim (by omega) hA.2.2.2.1, bd3_s, lt_x, nI_1]
      exact ih (j + 1) (pos + 1) _ (by omega) (by omega) (by omega) (by omega) (Pf_u hP)
/-- c bytes of an item are given: kinds of outcome as the spec has them -/
theorem Gv_q {g3 g4 f5 row2 : Nat → Int32} {G : GS} {om : Bool} {c : Nat} {p : Int32} {rf : Nat → Nat → Int32} {w : Nat → Nat → Int32} (h4 : g4 1 = nI (G.1 + aG ob hb sb om c G)) (hA : Aq g3 ob hb sb (-1) G.2.2.1 G.2.2.2.1 G.2.2.2.2.1 G.2.2.2.2.2 dp it om (aG ob hb sb om c G) c p) (hw : ∀ q, q ≤ c → ∀ i, i < G.1 + q → w q i = rf q i) :
    (aG ob hb sb om c G < c ∧ Gv g3 g4 (w (aG ob hb sb om c G)) ob hb sb (kG hb sb (gv om (aG ob hb sb om c G) (G.1 + aG ob hb sb om c G) (rf (aG ob hb sb om c G)) G)) p dp it (gv om (aG ob hb sb om c G) (G.1 + aG ob hb sb om c G) (rf (aG ob hb sb om c G)) G)) ∨
    (¬ aG ob hb sb om c G < c ∧ Gv g3 g4 (w (aG ob hb sb om c G)) ob hb sb 0 (-1) dp it (gv om c (G.1 + c) (rf c) G)) := by
  have hql := (aQ_le ob hb sb om c G.2.2.1 G.2.2.2.1 G.2.2.2.2.2).1
  unfold Aq at hA
  by_cases cq : aG ob hb sb om c G < c
  · rw [if_pos cq, if_pos cq] at hA
    exact Or.inl ⟨cq, hA, h4, fun i hi => hw _ hql i hi⟩
  · rw [if_neg cq, if_neg cq] at hA
    have eq := aG_of cq
    rw [eq] at hA h4 ⊢
    exact Or.inr ⟨Nat.lt_irrefl _, hA, h4, fun i hi => hw _ (Nat.le_refl _) i hi⟩
theorem P_raw_t {c pos p : Nat} {f0 f3 f4 f5 : Nat → Int32} {G : GS} (hl : outs.length ≤ 5) (h1 : f1 1 = nI n) (hlim : lim ≤ n) (hsv : ∀ i, i < n → f2 i = sv i) (hN : 1000 < N) (hP : Pf f0 p lim np) (hpc : p + c ≤ lim) (hW : Wg n ob hb sb (isO outs) G) (hmx : G.2.2.2.1 ≤ G.2.2.2.2.1) (hG : Gv f3 f4 f5 ob hb sb 0 (-1) dp it G) :
    ∃ g0 g3 g4 g5, pX3_readRaw N (nI c) (nI pos) (nI (outs.length + 1)) f0 f1 f2 f3 f4 f5 = some (g0, g3, g4, g5) ∧ Pf g0 (p + c) lim np ∧
      ((aG ob hb sb (isO outs) c G < c ∧ Gv g3 g4 g5 ob hb sb (kG hb sb (gv (isO outs) (aG ob hb sb (isO outs) c G) (G.1 + aG ob hb sb (isO outs) c G) (rwR G.2.1 G.1 sv p (aG ob hb sb (isO outs) c G)) G)) (nI pos) dp it (gv (isO outs) (aG ob hb sb (isO outs) c G) (G.1 + aG ob hb sb (isO outs) c G) (rwR G.2.1 G.1 sv p (aG ob hb sb (isO outs) c G)) G)) ∨
       (¬ aG ob hb sb (isO outs) c G < c ∧ Gv g3 g4 g5 ob hb sb 0 (-1) dp it (gv (isO outs) c (G.1 + c) (rwR G.2.1 G.1 sv p c) G))) := by
  obtain ⟨w1, w2, w3, w4, w5, w6, w7, w8, w9, w10, w11⟩ := id hW
  obtain ⟨hA, h4, h5⟩ := hG
  unfold pX3_readRaw
  obtain ⟨g0, e1, e2⟩ := P_takes_t (N := N) (c := c) (f2 := f2) (a2 := nI pos) (v4 := nI p) (a3 := nI (outs.length + 1)) (np := np) (f4 := f4) (f5 := f5) h1 w1 hlim (by omega) hA.2.2.2.1 N 0 p f0 (Nat.zero_le _) (by omega) (by omega) hP
  rw [lt_x, hP.2.2, k0, e1]
  unfold bfX3_readRaw_37
  have key := G_loop (ob := ob) (hb := hb) (sb := sb) (pl := -1) (p := nI pos) (dp := dp) (it := it) (om := isO outs) (c := c) (t0 := G.1) (v := fun x _ => f2 (p + (x - G.1))) (R := (Nat → Int32) × (Nat → Int32) × (Nat → Int32) × (Nat → Int32))
    (K := fun x y z => some (g0, x, y, z)) (L := fun m j x y z => bfX3_readRaw_40 N (nI c) (nI pos) (nI (outs.length + 1)) f1 f2 m (nI p) (nI j) g0 x y z) w4 w3 w2
    (fun m j x y z hj => by
      show bFX3_readRaw_40 N (nI c) (nI pos) (nI (outs.length + 1)) f1 f2 (bfX3_readRaw_40 N (nI c) (nI pos) (nI (outs.length + 1)) f1 f2 m) (nI p) (nI j) g0 x y z = _
      unfold bFX3_readRaw_40
      rw [if_pos (nI_le (by omega) (by omega))])
    (fun m j x y z kd hk hk0 hk1 => P_raw40_n hk hk0 hk1)
    (fun m j x y z hj hk ht ht8 => by
      show bFX3_readRaw_40 N (nI c) (nI pos) (nI (outs.length + 1)) f1 f2 (bfX3_readRaw_40 N (nI c) (nI pos) (nI (outs.length + 1)) f1 f2 m) (nI p) (nI j) g0 x y z = _
      unfold bFX3_readRaw_40
      rw [if_neg (nI_ge hj (by omega)), c_failed_0 hk, bd1_s, if_pos rfl, nI_add, s_at h1 w1 (by omega), bd1_s]
      unfold bfX3_readRaw_83
      rw [d_bI hl (fun s => bd3 (pX0_give (f2 (p + j)) (nI pos) s x y z) (fun f3_1 f4_2 f5_3 => lt_ (nI j + 1) (fun x_5 => bfX3_readRaw_40 N (nI c) (nI pos) (nI (outs.length + 1)) f1 f2 m (nI p) x_5 g0 f3_1 f4_2 f5_3)))]
      rw [show p + (G.1 + j - G.1) = p + j by omega]
      simp only [lt_x, nI_1])
    N 0 f3 f4 f5 G.2.2.1 G.2.2.2.1 G.2.2.2.2.1 G.2.2.2.2.2 (Nat.zero_le _) (by omega) w6 (by omega) w9 hmx (by omega) h4 (by omega) hA
  obtain ⟨g3, g4, e3, e4, e5⟩ := key
  have e3 : bfX3_readRaw_40 N (nI c) (nI pos) (nI (outs.length + 1)) f1 f2 N (nI p) (nI 0) g0 f3 f4 f5 = some (g0, g3, g4, wR (fun x _ => f2 (p + (x - G.1))) f5 G.1 (aG ob hb sb (isO outs) c G)) := e3
  rw [k0, e3, wR_rw]
  refine ⟨g0, g3, g4, _, rfl, e2, ?_⟩
  exact Gv_q (rf := rwR G.2.1 G.1 sv p) (w := rwR f5 G.1 f2 p) (row2 := f5) (f5 := f5) e4 e5 (fun q hq i hi => rwR_c q h5 (fun i h1 h2 => hsv i (by omega)) i hi)
theorem P_raw_f {c pos p : Nat} {f0 f3 f4 f5 : Nat → Int32} {G : GS} (hl : outs.length ≤ 5) (h1 : f1 1 = nI n) (hlim : lim ≤ n) (hN : 1000 < N) (hP : Pf f0 p lim np) (hp : p ≤ lim) (hpc : lim < p + c) (hc : c < 70000) (hW : Wg n ob hb sb (isO outs) G) (hG : Gv f3 f4 f5 ob hb sb 0 (-1) dp it G) :
    ∃ g0 g3, pX3_readRaw N (nI c) (nI pos) (nI (outs.length + 1)) f0 f1 f2 f3 f4 f5 = some (g0, g3, f4, f5) ∧ Gv g3 f4 f5 ob hb sb (mK outs) (nI np) dp it G := by
  have w1 := hW.1
  unfold pX3_readRaw
  obtain ⟨g0, g3, e1, e2⟩ := P_takes_f (N := N) (c := c) (f2 := f2) (a2 := nI pos) (v4 := nI p) (np := np) (f4 := f4) (f5 := f5) hl h1 w1 hlim (by omega) (by omega) hG.1 N 0 p f0 (Nat.zero_le _) (by omega) hp (by omega) hP
  rw [lt_x, hP.2.2, k0, e1]
  exact ⟨g0, g3, rfl, e2, hG.2⟩
theorem P_copy_f {pos : Nat} {f0 f3 f4 f5 : Nat → Int32} {G : GS} (hl : outs.length ≤ 5) (hN : 1000 < N) (hP : Pf f0 (pos + 1) lim np) (hp : pos + 1 ≤ lim) (hlim : lim ≤ n) (hpc : lim < pos + 2) (hW : Wg n ob hb sb (isO outs) G) (hG : Gv f3 f4 f5 ob hb sb 0 (-1) dp it G) :
    ∃ g0 g3, pX3_readCopy N (nI (b pos)) (nI pos) (nI (outs.length + 1)) a4 f0 f1 f2 f3 f4 f5 = some (g0, g3, f4, f5) ∧ Gv g3 f4 f5 ob hb sb (mK outs) (nI np) dp it G := by
  have w1 := hW.1
  unfold pX3_readCopy
  obtain ⟨g3, e1, e2⟩ := P_take_f (f1 := f1) (f2 := f2) hl hP (by omega) (by omega) hG.1
  have hmk : 0 < mK outs ∧ mK outs ≤ 2 := by unfold mK; split <;> omega
  unfold pX4_top
  rw [e1, bd3_s, lt_x, bd1_s, P_copy_n (by omega) e2.2.2.2.1 hmk.1 (by omega), c_fail_n e2.2.2.2.1 hmk.1 (by omega), bd1_s, P_copy_n (by omega) e2.2.2.2.1 hmk.1 (by omega)]
  refine ⟨f0, g3, ?_, e2, hG.2⟩
  split <;> rfl
theorem P_copy_b {pos : Nat} {f0 f3 f4 f5 : Nat → Int32} {G : GS} (h1 : f1 1 = nI n) (hN : 1000 < N) (hP : Pf f0 (pos + 1) lim np) (hlim : lim ≤ n) (hpc : pos + 2 ≤ lim) (hf2 : f2 (pos + 1) = nI (b (pos + 1))) (hb2 : b (pos + 1) < 256) (hbs : base ≤ G.1) (hcf : G.1 - base < b (pos + 1) + 1) (hW : Wg n ob hb sb (isO outs) G) (hG : Gv f3 f4 f5 ob hb sb 0 (-1) dp it G) :
    ∃ g0 g3, pX3_readCopy N (nI (b pos)) (nI pos) (nI (outs.length + 1)) (nI base) f0 f1 f2 f3 f4 f5 = some (g0, g3, f4, f5) ∧ Gv g3 f4 f5 ob hb sb 3 (nI (pos + 1)) dp it G := by
  obtain ⟨w1, w2, w3, w4, w5, w6, w7, w8, w9, w10, w11⟩ := id hW
  unfold pX3_readCopy pX4_top
  have hlt : ¬ nI base ≤ nI G.1 - nI (b (pos + 1) + 1) := by
    rw [Int32.le_iff_toInt_le, pk_sub_toInt (by omega) (by omega), nI_toInt (by omega)]
    omega
  have e5 : upd f0 5 (nI (pos + 1 + 1)) 5 - 1 = nI (pos + 1) := by rw [us, k1, nsub (by omega)]; congr 1
  obtain ⟨g3, e1, e2⟩ := c_fail (k := 3) (p := nI (pos + 1)) (kn := 3) rfl hG.1
  rw [P_take_t hP h1 w1 hlim (by omega) hG.1.2.2.2.1, bd3_s, lt_x, bd1_s, hf2, nI_1, hG.2.1, if_neg hlt, e5, e1, bd1_s, P_copy_n (by omega) e2.2.2.2.1 (by omega) (by omega)]
  exact ⟨_, g3, rfl, e2, hG.2⟩
theorem P_copy_t {pos : Nat} {f0 f3 f4 f5 : Nat → Int32} {G : GS} (hl : outs.length ≤ 5) (h1 : f1 1 = nI n) (hN : 1000 < N) (hP : Pf f0 (pos + 1) lim np) (hlim : lim ≤ n) (hpc : pos + 2 ≤ lim) (hf2 : f2 (pos + 1) = nI (b (pos + 1))) (hb2 : b (pos + 1) < 256) (hb0 : 64 ≤ b pos) (hb1 : b pos < 128) (hbs : base ≤ G.1) (hcf : ¬ G.1 - base < b (pos + 1) + 1) (hW : Wg n ob hb sb (isO outs) G) (hmx : G.2.2.2.1 ≤ G.2.2.2.2.1) (hG : Gv f3 f4 f5 ob hb sb 0 (-1) dp it G) :
    ∃ g0 g3 g4 g5, pX3_readCopy N (nI (b pos)) (nI pos) (nI (outs.length + 1)) (nI base) f0 f1 f2 f3 f4 f5 = some (g0, g3, g4, g5) ∧ Pf g0 (pos + 2) lim np ∧
      ((aG ob hb sb (isO outs) (b pos - 62) G < b pos - 62 ∧ Gv g3 g4 g5 ob hb sb (kG hb sb (gv (isO outs) (aG ob hb sb (isO outs) (b pos - 62) G) (G.1 + aG ob hb sb (isO outs) (b pos - 62) G) (cpR G.2.1 G.1 (b (pos + 1) + 1) (aG ob hb sb (isO outs) (b pos - 62) G)) G)) (nI pos) dp it (gv (isO outs) (aG ob hb sb (isO outs) (b pos - 62) G) (G.1 + aG ob hb sb (isO outs) (b pos - 62) G) (cpR G.2.1 G.1 (b (pos + 1) + 1) (aG ob hb sb (isO outs) (b pos - 62) G)) G)) ∨
       (¬ aG ob hb sb (isO outs) (b pos - 62) G < b pos - 62 ∧ Gv g3 g4 g5 ob hb sb 0 (-1) dp it (gv (isO outs) (b pos - 62) (G.1 + (b pos - 62)) (cpR G.2.1 G.1 (b (pos + 1) + 1) (b pos - 62)) G))) := by
  obtain ⟨w1, w2, w3, w4, w5, w6, w7, w8, w9, w10, w11⟩ := id hW
  obtain ⟨hA, h4, h5⟩ := hG
  unfold pX3_readCopy
  have htop : ∀ x, pX4_top x = some (x 1) := fun x => rfl
  have hle : nI base ≤ nI G.1 - nI (b (pos + 1) + 1) := by rw [nsub (by omega)]; exact nI_le (by omega) (by omega)
  rw [P_take_t hP h1 w1 hlim (by omega) hA.2.2.2.1, bd3_s, lt_x, htop, bd1_s, hf2, nI_1, h4, if_pos hle]
  unfold bfX3_readCopy_38
  have key := G_loop (ob := ob) (hb := hb) (sb := sb) (pl := -1) (p := nI pos) (dp := dp) (it := it) (om := isO outs) (c := b pos - 62) (t0 := G.1) (v := fun x r => r (x - (b (pos + 1) + 1))) (R := (Nat → Int32) × (Nat → Int32) × (Nat → Int32) × (Nat → Int32))
    (K := fun x y z => some (upd f0 5 (nI (pos + 1 + 1)), x, y, z)) (L := fun m j x y z => bfX3_readCopy_41 N (nI (b pos)) (nI pos) (nI (outs.length + 1)) (nI base) f1 f2 m (nI (b (pos + 1) + 1)) (nI j) (upd f0 5 (nI (pos + 1 + 1))) x y z) w4 w3 w2
    (fun m j x y z hj => by
      show bFX3_readCopy_41 N (nI (b pos)) (nI pos) (nI (outs.length + 1)) (nI base) f1 f2 (bfX3_readCopy_41 N (nI (b pos)) (nI pos) (nI (outs.length + 1)) (nI base) f1 f2 m) (nI (b (pos + 1) + 1)) (nI j) (upd f0 5 (nI (pos + 1 + 1))) x y z = _
      unfold bFX3_readCopy_41
      rw [x_count hb0, bd1_s, if_pos (nI_le (by omega) (by omega))])
    (fun m j x y z kd hk hk0 hk1 => by
      show bFX3_readCopy_41 N (nI (b pos)) (nI pos) (nI (outs.length + 1)) (nI base) f1 f2 (bfX3_readCopy_41 N (nI (b pos)) (nI pos) (nI (outs.length + 1)) (nI base) f1 f2 m) (nI (b (pos + 1) + 1)) (nI j) (upd f0 5 (nI (pos + 1 + 1))) x y z = _
      unfold bFX3_readCopy_41
      rw [x_count hb0, bd1_s, c_failed_1 hk hk0 (by omega), bd1_s, if_neg (show ¬ (1 : Int32) = 0 by decide)]
      split <;> rfl)
    (fun m j x y z hj hk ht ht8 => by
      show bFX3_readCopy_41 N (nI (b pos)) (nI pos) (nI (outs.length + 1)) (nI base) f1 f2 (bfX3_readCopy_41 N (nI (b pos)) (nI pos) (nI (outs.length + 1)) (nI base) f1 f2 m) (nI (b (pos + 1) + 1)) (nI j) (upd f0 5 (nI (pos + 1 + 1))) x y z = _
      unfold bFX3_readCopy_41
      rw [x_count hb0, bd1_s, if_neg (nI_ge hj (by omega)), c_failed_0 hk, bd1_s, if_pos rfl, htop, bd1_s, ht, nsub (by omega), r_at (by omega), bd1_s]
      unfold bfX3_readCopy_92
      rw [d_bI hl (fun s => bd3 (pX0_give (z (G.1 + j - (b (pos + 1) + 1))) (nI pos) s x y z) (fun f3_1 f4_2 f5_3 => lt_ (nI j + 1) (fun x_5 => bfX3_readCopy_41 N (nI (b pos)) (nI pos) (nI (outs.length + 1)) (nI base) f1 f2 m (nI (b (pos + 1) + 1)) x_5 (upd f0 5 (nI (pos + 1 + 1))) f3_1 f4_2 f5_3)))]
      simp only [lt_x, nI_1])
    N 0 f3 f4 f5 G.2.2.1 G.2.2.2.1 G.2.2.2.2.1 G.2.2.2.2.2 (Nat.zero_le _) (by omega) w6 (by omega) w9 hmx (by omega) h4 (by omega) hA
  obtain ⟨g3, g4, e3, e4, e5⟩ := key
  have e3 : bfX3_readCopy_41 N (nI (b pos)) (nI pos) (nI (outs.length + 1)) (nI base) f1 f2 N (nI (b (pos + 1) + 1)) (nI 0) (upd f0 5 (nI (pos + 1 + 1))) f3 f4 f5 = some (upd f0 5 (nI (pos + 1 + 1)), g3, g4, wR (fun x r => r (x - (b (pos + 1) + 1))) f5 G.1 (aG ob hb sb (isO outs) (b pos - 62) G)) := e3
  rw [k0, e3, wR_cp]
  refine ⟨_, g3, g4, _, rfl, Pf_u hP, ?_⟩
  exact Gv_q (rf := cpR G.2.1 G.1 (b (pos + 1) + 1)) (w := cpR f5 G.1 (b (pos + 1) + 1)) (row2 := f5) (f5 := f5) e4 e5 (fun q hq i hi => cpR_c (by omega) (by omega) h5 q i hi)
/-- one AGAIN -/
theorem P_again {i start : Nat} {f0 f3 f4 f5 : Nat → Int32} {G : GS} (hl : outs.length ≤ 5) (h1 : f1 1 = nI n) (hN : 1000 < N) (hi : i < n) (hf2 : f2 i = nI (b i)) (hb0 : 128 ≤ b i) (hb1 : b i < 192) (hst : start ≤ G.1) (hW : Wg n ob hb sb (isO outs) G) (hmx : G.2.2.2.1 ≤ G.2.2.2.2.1) (hG : Gv f3 f4 f5 ob hb sb 0 (-1) dp it G) {c : Nat} (hc : c = (G.1 - start) * (b i - 127)) :
    ∃ g3 g4 g5, pX3_giveAgain N (nI i) (nI start) (nI (outs.length + 1)) f0 f1 f2 f3 f4 f5 = some (g3, g4, g5) ∧
      ((aG ob hb sb (isO outs) c G < c ∧ Gv g3 g4 g5 ob hb sb (kG hb sb (gv (isO outs) (aG ob hb sb (isO outs) c G) (G.1 + aG ob hb sb (isO outs) c G) (cpR G.2.1 G.1 (G.1 - start) (aG ob hb sb (isO outs) c G)) G)) (nI i) dp it (gv (isO outs) (aG ob hb sb (isO outs) c G) (G.1 + aG ob hb sb (isO outs) c G) (cpR G.2.1 G.1 (G.1 - start) (aG ob hb sb (isO outs) c G)) G)) ∨
       (¬ aG ob hb sb (isO outs) c G < c ∧ Gv g3 g4 g5 ob hb sb 0 (-1) dp it (gv (isO outs) c (G.1 + c) (cpR G.2.1 G.1 (G.1 - start) c) G))) := by
  obtain ⟨w1, w2, w3, w4, w5, w6, w7, w8, w9, w10, w11⟩ := id hW
  obtain ⟨hA, h4, h5⟩ := hG
  unfold pX3_giveAgain
  have htop : ∀ x, pX4_top x = some (x 1) := fun x => rfl
  have hc8 : c ≤ 800 * 64 := by rw [hc]; exact Nat.mul_le_mul (by omega) (by omega)
  rw [htop, bd1_s, s_at h1 w1 hi, bd1_s, hf2, x_times hb0, bd1_s, lt_x, h4, nsub hst, pk_mul, ← hc]
  have key := G_loop (ob := ob) (hb := hb) (sb := sb) (pl := -1) (p := nI i) (dp := dp) (it := it) (om := isO outs) (c := c) (t0 := G.1) (v := fun x r => r (x - (G.1 - start))) (R := (Nat → Int32) × (Nat → Int32) × (Nat → Int32))
    (K := fun x y z => some (x, y, z)) (L := fun m j x y z => bfX3_giveAgain_26 N (nI i) (nI start) (nI (outs.length + 1)) f0 f1 f2 m (nI c) (nI j) x y z) w4 w3 w2
    (fun m j x y z hj => by
      show bFX3_giveAgain_26 N (nI i) (nI start) (nI (outs.length + 1)) f0 f1 f2 (bfX3_giveAgain_26 N (nI i) (nI start) (nI (outs.length + 1)) f0 f1 f2 m) (nI c) (nI j) x y z = _
      unfold bFX3_giveAgain_26
      rw [if_pos (nI_le (by omega) (by omega))])
    (fun m j x y z kd hk hk0 hk1 => by
      show bFX3_giveAgain_26 N (nI i) (nI start) (nI (outs.length + 1)) f0 f1 f2 (bfX3_giveAgain_26 N (nI i) (nI start) (nI (outs.length + 1)) f0 f1 f2 m) (nI c) (nI j) x y z = _
      unfold bFX3_giveAgain_26
      rw [c_failed_1 hk hk0 (by omega), bd1_s, if_neg (show ¬ (1 : Int32) = 0 by decide)]
      split <;> rfl)
    (fun m j x y z hj hk ht ht8 => by
      show bFX3_giveAgain_26 N (nI i) (nI start) (nI (outs.length + 1)) f0 f1 f2 (bfX3_giveAgain_26 N (nI i) (nI start) (nI (outs.length + 1)) f0 f1 f2 m) (nI c) (nI j) x y z = _
      unfold bFX3_giveAgain_26
      have hc0 : 0 < G.1 - start := by
        rcases Nat.eq_zero_or_pos (G.1 - start) with h | h
        · rw [h, Nat.zero_mul] at hc; omega
        · exact h
      rw [if_neg (nI_ge hj (by omega)), c_failed_0 hk, bd1_s, if_pos rfl, nI_add, r_at (by omega), bd1_s, show start + j = G.1 + j - (G.1 - start) by omega]
      unfold bfX3_giveAgain_69
      rw [d_bI hl (fun s => bd3 (pX0_give (z (G.1 + j - (G.1 - start))) (nI i) s x y z) (fun f3_1 f4_2 f5_3 => lt_ (nI j + 1) (fun x_5 => bfX3_giveAgain_26 N (nI i) (nI start) (nI (outs.length + 1)) f0 f1 f2 m (nI c) x_5 f3_1 f4_2 f5_3)))]
      simp only [lt_x, nI_1])
    N 0 f3 f4 f5 G.2.2.1 G.2.2.2.1 G.2.2.2.2.1 G.2.2.2.2.2 (Nat.zero_le _) (by omega) w6 (by omega) w9 hmx (by omega) h4 (by omega) hA
  obtain ⟨g3, g4, e3, e4, e5⟩ := key
  have e3 : bfX3_giveAgain_26 N (nI i) (nI start) (nI (outs.length + 1)) f0 f1 f2 N (nI c) (nI 0) f3 f4 f5 = some (g3, g4, wR (fun x r => r (x - (G.1 - start))) f5 G.1 (aG ob hb sb (isO outs) c G)) := e3
  rw [k0, e3, wR_cp]
  refine ⟨g3, g4, _, rfl, ?_⟩
  refine Gv_q (rf := cpR G.2.1 G.1 (G.1 - start)) (w := cpR f5 G.1 (G.1 - start)) (row2 := f5) (f5 := f5) e4 e5 (fun q hq i hi => ?_)
  rcases Nat.eq_zero_or_pos (G.1 - start) with h | h
  · have : q = 0 := by rw [h, Nat.zero_mul] at hc; omega
    subst this
    exact h5 i hi
  · exact cpR_c h (by omega) h5 q i hi
end PLAIN2
