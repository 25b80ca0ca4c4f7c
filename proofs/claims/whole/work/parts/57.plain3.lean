/-! ===== PURE PART 22: the plain reader: what an inner pack gave, the AGAINs behind an item ===== -/
abbrev RpT : Type := Int32 → (Nat → Int32) → (Nat → Int32) → (Nat → Int32) → (Nat → Int32) → (Nat → Int32) → (Nat → Int32) → Option ((Nat → Int32) × (Nat → Int32) × (Nat → Int32) × (Nat → Int32))
section PLAIN3
variable {N n ob hb sb : Nat} {b : Nat → Nat} {sv : Nat → Int32} {outs : List Fr} {f1 f2 : Nat → Int32} {dp it lim np base : Nat} {rp : RpT} {a2 : Int32}
theorem P_gi {pos b0 c : Nat} {om1 : Bool} {f0 f3 f4 f5 : Nat → Int32} {G : GS} (hl : outs.length ≤ 5) (hN : 1000 < N) (hb0 : b0 ≤ G.1) (hc : c = G.1 - b0) (hW : Wg n ob hb sb om1 G) (hmx : G.2.2.2.1 ≤ G.2.2.2.2.1) (hG : Gv f3 f4 f5 ob hb sb 0 (-1) dp it G) :
    ∃ g3 g4, pX3_giveInner N (nI b0) (nI pos) (nI (outs.length + 1)) f0 f3 f4 f5 = some (g3, g4, f5) ∧ g4 1 = nI (b0 + aG ob hb sb (isO outs) c G) ∧
      Ac g3 ob hb sb (if aG ob hb sb (isO outs) c G < c then kQ hb sb (G.2.2.1 + aG ob hb sb (isO outs) c G) (G.2.2.2.1 + aG ob hb sb (isO outs) c G) else 0) (if aG ob hb sb (isO outs) c G < c then nI pos else -1) (G.2.2.1 + aG ob hb sb (isO outs) c G) (G.2.2.2.1 + aG ob hb sb (isO outs) c G - c) (max G.2.2.2.2.1 (G.2.2.2.1 + aG ob hb sb (isO outs) c G)) (if isO outs = true then G.2.2.2.2.2 + aG ob hb sb (isO outs) c G else G.2.2.2.2.2) dp it := by
  obtain ⟨w1, w2, w3, w4, w5, w6, w7, w8, w9, w10, w11⟩ := id hW
  obtain ⟨hA, h4, h5⟩ := hG
  unfold pX3_giveInner
  have htop : ∀ x, pX4_top x = some (x 1) := fun x => rfl
  obtain ⟨y0, e1, e2⟩ := r_back' h4 (by omega) hb0
  rw [htop, bd1_s, lt_x, e1, bd1_s, h4, nsub hb0, ← hc]
  have key := G_loop (ob := ob) (hb := hb) (sb := sb) (pl := -1) (p := nI pos) (dp := dp) (it := it) (om := isO outs) (c := c) (t0 := b0) (v := fun x r => r x) (R := (Nat → Int32) × (Nat → Int32) × (Nat → Int32))
    (K := fun x y z => bd1 (pX0_release (nI c) x) (fun f3_6 => some (f3_6, y, z))) (L := fun m j x y z => bfX3_giveInner_22 N (nI b0) (nI pos) (nI (outs.length + 1)) f0 m (nI c) (nI j) x y z) w4 w3 w2
    (fun m j x y z hj => by
      show bFX3_giveInner_22 N (nI b0) (nI pos) (nI (outs.length + 1)) f0 (bfX3_giveInner_22 N (nI b0) (nI pos) (nI (outs.length + 1)) f0 m) (nI c) (nI j) x y z = _
      unfold bFX3_giveInner_22
      rw [if_pos (nI_le (by omega) (by omega))]
      rfl)
    (fun m j x y z kd hk hk0 hk1 => by
      show bFX3_giveInner_22 N (nI b0) (nI pos) (nI (outs.length + 1)) f0 (bfX3_giveInner_22 N (nI b0) (nI pos) (nI (outs.length + 1)) f0 m) (nI c) (nI j) x y z = _
      unfold bFX3_giveInner_22
      rw [c_failed_1 hk hk0 (by omega), bd1_s, if_neg (show ¬ (1 : Int32) = 0 by decide)]
      split <;> rfl)
    (fun m j x y z hj hk ht ht8 => by
      show bFX3_giveInner_22 N (nI b0) (nI pos) (nI (outs.length + 1)) f0 (bfX3_giveInner_22 N (nI b0) (nI pos) (nI (outs.length + 1)) f0 m) (nI c) (nI j) x y z = _
      unfold bFX3_giveInner_22
      rw [if_neg (nI_ge hj (by omega)), c_failed_0 hk, bd1_s, if_pos rfl, nI_add, r_at (by omega), bd1_s]
      unfold bfX3_giveInner_65
      rw [d_bI hl (fun s => bd3 (pX0_give (z (b0 + j)) (nI pos) s x y z) (fun f3_1 f4_2 f5_3 => lt_ (nI j + 1) (fun x_5 => bfX3_giveInner_22 N (nI b0) (nI pos) (nI (outs.length + 1)) f0 m (nI c) x_5 f3_1 f4_2 f5_3)))]
      simp only [lt_x, nI_1])
    N 0 f3 y0 f5 G.2.2.1 G.2.2.2.1 G.2.2.2.2.1 G.2.2.2.2.2 (Nat.zero_le _) (by omega) w6 (by omega) w9 hmx (by omega) e2 (by omega) hA
  obtain ⟨g3, g4, e3, e4, e5⟩ := key
  have e3 : bfX3_giveInner_22 N (nI b0) (nI pos) (nI (outs.length + 1)) f0 N (nI c) (nI 0) f3 y0 f5 = bd1 (pX0_release (nI c) g3) (fun f3_6 => some (f3_6, g4, wR (fun x r => r x) f5 b0 (aG ob hb sb (isO outs) c G))) := e3
  obtain ⟨x3, e6, e7⟩ := c_release (c := c) (by omega) e5
  rw [k0, e3, wR_id, e6, bd1_s]
  exact ⟨x3, g4, rfl, e4, e7⟩
/-- behind a fault: only what is held changes, and the top may go back -/
theorem P_gi_n {r : Rz} {b0 : Nat} {a3 : Int32} {f0 f3 f4 f5 : Nat → Int32} (hN : 0 < N) (hb0 : b0 ≤ 800) (h0 : 0 < r.1) (hF : Fz f3 f4 f5 ob hb sb r) : ∃ g3 g4, pX3_giveInner N (nI b0) a2 a3 f0 f3 f4 f5 = some (g3, g4, f5) ∧ Fz g3 g4 f5 ob hb sb r := by
  obtain ⟨hd, t, hA, ht, ht8, hk, hou, hrow⟩ := hF
  unfold pX3_giveInner
  have htop : ∀ x, pX4_top x = some (x 1) := fun x => rfl
  have hbk : ∃ y0 t2, pX4_backTo (nI b0) f4 = some y0 ∧ y0 1 = nI t2 ∧ t2 ≤ 800 := by
    by_cases c : b0 ≤ t
    · obtain ⟨y, e1, e2⟩ := r_back' ht (by omega) c
      exact ⟨y, b0, e1, e2, hb0⟩
    · exact ⟨f4, t, r_back_n ht (by omega) (by omega), ht, ht8⟩
  obtain ⟨y0, t2, e1, e2, e3⟩ := hbk
  obtain ⟨k, rfl⟩ : ∃ k, N = k + 1 := ⟨N - 1, by omega⟩
  rw [htop, bd1_s, lt_x, e1, bd1_s]
  have e4 : bfX3_giveInner_22 (k + 1) (nI b0) a2 a3 f0 (k + 1) (f4 1 - nI b0) 0 f3 y0 f5 = bd1 (pX0_release (f4 1 - nI b0) f3) (fun x => some (x, y0, f5)) := by
    show bFX3_giveInner_22 (k + 1) (nI b0) a2 a3 f0 (bfX3_giveInner_22 (k + 1) (nI b0) a2 a3 f0 k) (f4 1 - nI b0) 0 f3 y0 f5 = _
    unfold bFX3_giveInner_22
    rw [c_failed_1 hA.2.2.2.1 h0 (by omega), bd1_s, if_neg (show ¬ (1 : Int32) = 0 by decide)]
    split <;> rfl
  rw [e4]
  unfold pX0_release
  rw [lt_x, bd1_s]
  obtain ⟨hd2, hs⟩ := nI_surj (f3 7 - (f4 1 - nI b0))
  rw [hs]
  refine ⟨_, y0, rfl, hd2, t2, ?_, e2, e3, hk, hou, hrow⟩
  obtain ⟨h1, h2, h3, h4, h5, h6, h7, h8, h9, h10, h11⟩ := hA
  refine ⟨?_, ?_, ?_, ?_, ?_, ?_, ?_, ?_, ?_, ?_, ?_⟩ <;> simp [upd, *]
theorem P_175_n {first kd : Nat} {v6 : Int32} {f0 f3 f4 f5 : Nat → Int32} (h1 : f1 1 = nI n) (hn : n ≤ 160) (hN : 1000 < N) (h : f3 4 = nI kd) (h0 : 0 < kd) (h2 : kd ≤ 10) :
    ∀ (a m : Nat), a < m → first + a ≤ n → bfX3_readItem_175 N rp (nI (outs.length + 1)) a2 f1 f2 m (nI first) v6 (nI (first + a) - 1) f0 f3 f4 f5 = some (0, f0, f3, f4, f5) := by
  intro a
  induction a with
  | zero =>
    intro m hm hf
    obtain ⟨m, rfl⟩ : ∃ k, m = k + 1 := ⟨m - 1, by omega⟩
    show bFX3_readItem_175 N rp (nI (outs.length + 1)) a2 f1 f2 (bfX3_readItem_175 N rp (nI (outs.length + 1)) a2 f1 f2 m) (nI first) v6 (nI (first + 0) - 1) f0 f3 f4 f5 = _
    unfold bFX3_readItem_175
    have hlt : nI (first + 0) - 1 < nI first := by
      rw [k1, Int32.lt_iff_toInt_lt, pk_sub_toInt (by omega) (by omega), nI_toInt (by omega)]
      omega
    rw [if_pos hlt, c_failed_1 h h0 (by omega), bd1_s, if_neg (by decide)]
  | succ a ih =>
    intro m hm hf
    obtain ⟨m, rfl⟩ : ∃ k, m = k + 1 := ⟨m - 1, by omega⟩
    show bFX3_readItem_175 N rp (nI (outs.length + 1)) a2 f1 f2 (bfX3_readItem_175 N rp (nI (outs.length + 1)) a2 f1 f2 m) (nI first) v6 (nI (first + (a + 1)) - 1) f0 f3 f4 f5 = _
    have e1 : nI (first + (a + 1)) - 1 = nI (first + a) := by rw [k1, nsub (by omega)]; congr 1
    have e5 : nI (first + a) + (-1) = nI (first + a) - 1 := by rw [Int32.sub_eq_add_neg]
    rw [e1]
    unfold bFX3_readItem_175
    rw [if_neg (nI_nlt (by omega) (by omega)), P_again_n (n := n) (by omega) h h0 h2 (by omega) hn h1, bd3_s, lt_x, e5]
    exact ih m (by omega) (by omega)
set_option maxRecDepth 100000 in
/-- what the AGAINs do -/
theorem P_ga {first start : Nat} {f0 : Nat → Int32} (hl : outs.length ≤ 5) (h1 : f1 1 = nI n) (hN : 1000 < N) :
    ∀ (a m : Nat) (f3 f4 f5 : Nat → Int32) (G : GS), a < m → first + a < n → (∀ i, first ≤ i → i < first + a → f2 i = nI (b i) ∧ 128 ≤ b i ∧ b i < 192) → Wg n ob hb sb (isO outs) G → G.2.2.2.1 ≤ G.2.2.2.2.1 → start ≤ G.1 → Gv f3 f4 f5 ob hb sb 0 (-1) dp it G →
      ∃ w g3 g4 g5, bfX3_readItem_175 N rp (nI (outs.length + 1)) a2 f1 f2 m (nI first) (nI start) (nI (first + a) - 1) f0 f3 f4 f5 = some (w, f0, g3, g4, g5) ∧
        Wg n ob hb sb (isO outs) (dn b ob hb sb (isO outs) start a (first + a) G).2.2 ∧ (dn b ob hb sb (isO outs) start a (first + a) G).2.2.2.2.2.1 ≤ (dn b ob hb sb (isO outs) start a (first + a) G).2.2.2.2.2.2.1 ∧ start ≤ (dn b ob hb sb (isO outs) start a (first + a) G).2.2.1 ∧
        ((dn b ob hb sb (isO outs) start a (first + a) G).1 = 0 ∧ w = 1 ∧ Gv g3 g4 g5 ob hb sb 0 (-1) dp it (dn b ob hb sb (isO outs) start a (first + a) G).2.2 ∨
         0 < (dn b ob hb sb (isO outs) start a (first + a) G).1 ∧ (dn b ob hb sb (isO outs) start a (first + a) G).1 ≤ 10 ∧ w = 0 ∧ Gv g3 g4 g5 ob hb sb (dn b ob hb sb (isO outs) start a (first + a) G).1 (nI (dn b ob hb sb (isO outs) start a (first + a) G).2.1) dp it (dn b ob hb sb (isO outs) start a (first + a) G).2.2) := by
  intro a
  induction a with
  | zero =>
    intro m f3 f4 f5 G hm hn hb2 hW hmx hst hG
    obtain ⟨m, rfl⟩ : ∃ k, m = k + 1 := ⟨m - 1, by omega⟩
    refine ⟨1, f3, f4, f5, ?_, hW, hmx, hst, Or.inl ⟨rfl, rfl, hG⟩⟩
    show bFX3_readItem_175 N rp (nI (outs.length + 1)) a2 f1 f2 (bfX3_readItem_175 N rp (nI (outs.length + 1)) a2 f1 f2 m) (nI first) (nI start) (nI (first + 0) - 1) f0 f3 f4 f5 = _
    unfold bFX3_readItem_175
    have hlt : nI (first + 0) - 1 < nI first := by
      have hn2 := hW.1
      rw [k1, Int32.lt_iff_toInt_lt, pk_sub_toInt (by omega) (by omega), nI_toInt (by omega)]
      omega
    rw [if_pos hlt, c_failed_0 hG.1.2.2.2.1, bd1_s, if_pos rfl]
  | succ a ih =>
    intro m f3 f4 f5 G hm hn hb2 hW hmx hst hG
    obtain ⟨m, rfl⟩ : ∃ k, m = k + 1 := ⟨m - 1, by omega⟩
    have w1 := hW.1
    obtain ⟨hb3, hb4, hb5⟩ := hb2 (first + a) (by omega) (by omega)
    show ∃ w g3 g4 g5, bFX3_readItem_175 N rp (nI (outs.length + 1)) a2 f1 f2 (bfX3_readItem_175 N rp (nI (outs.length + 1)) a2 f1 f2 m) (nI first) (nI start) (nI (first + (a + 1)) - 1) f0 f3 f4 f5 = _ ∧ _
    have e1 : nI (first + (a + 1)) - 1 = nI (first + a) := by rw [k1, nsub (by omega)]; congr 1
    have e5 : nI (first + a) + (-1) = nI (first + a) - 1 := by rw [Int32.sub_eq_add_neg]
    rw [e1]
    unfold bFX3_readItem_175
    obtain ⟨g3, g4, g5, e2, e3⟩ := P_again (N := N) (n := n) (b := b) (f0 := f0) (start := start) hl h1 hN (by omega) hb3 hb4 hb5 hst hW hmx hG rfl
    rw [if_neg (nI_nlt (by omega) (by omega)), e2, bd3_s, lt_x, e5]
    have hdn : dn b ob hb sb (isO outs) start (a + 1) (first + (a + 1)) G = if aG ob hb sb (isO outs) ((G.1 - start) * (b (first + a) - 127)) G < (G.1 - start) * (b (first + a) - 127) then (kG hb sb (gv (isO outs) (aG ob hb sb (isO outs) ((G.1 - start) * (b (first + a) - 127)) G) (G.1 + aG ob hb sb (isO outs) ((G.1 - start) * (b (first + a) - 127)) G) (cpR G.2.1 G.1 (G.1 - start) (aG ob hb sb (isO outs) ((G.1 - start) * (b (first + a) - 127)) G)) G), first + a, gv (isO outs) (aG ob hb sb (isO outs) ((G.1 - start) * (b (first + a) - 127)) G) (G.1 + aG ob hb sb (isO outs) ((G.1 - start) * (b (first + a) - 127)) G) (cpR G.2.1 G.1 (G.1 - start) (aG ob hb sb (isO outs) ((G.1 - start) * (b (first + a) - 127)) G)) G) else dn b ob hb sb (isO outs) start a (first + a) (gv (isO outs) ((G.1 - start) * (b (first + a) - 127)) (G.1 + (G.1 - start) * (b (first + a) - 127)) (cpR G.2.1 G.1 (G.1 - start) ((G.1 - start) * (b (first + a) - 127))) G) := rfl
    rcases e3 with ⟨cq, e4⟩ | ⟨cq, e4⟩
    · rw [hdn, if_pos cq]
      have hk := kQ_pos hb sb (G.2.2.1 + aG ob hb sb (isO outs) ((G.1 - start) * (b (first + a) - 127)) G) (G.2.2.2.1 + aG ob hb sb (isO outs) ((G.1 - start) * (b (first + a) - 127)) G)
      refine ⟨0, g3, g4, g5, P_175_n h1 w1 hN e4.1.2.2.2.1 hk.1 hk.2 a m (by omega) (by omega), Wg_q _ hW, ?_, ?_, Or.inr ⟨hk.1, hk.2, rfl, e4⟩⟩
      · unfold gv; exact Nat.le_max_right _ _
      · exact Nat.le_trans hst (Nat.le_add_right _ _)
    · rw [hdn, if_neg cq]
      exact ih m g3 g4 g5 _ (by omega) (by omega) (fun i h1 h2 => hb2 i h1 (by omega)) (Wg_c _ hW cq) (by unfold gv; exact Nat.le_max_right _ _) (Nat.le_trans hst (Nat.le_add_right _ _)) e4
end PLAIN3
