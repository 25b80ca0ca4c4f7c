/-! ===== PURE PART 7: the reader that asks ahead: INNER, END ===== -/
/-- the rows of the reader hold the outer packs -/
def StA (f6 f7 f8 f9 : Nat → Int32) : Nat → List Fr → Prop
  | _, [] => True
  | np, (ba, li, nq, ag) :: o => f9 (o.length + 2) = nI (np - 1 - ag) ∧ f6 (o.length + 1) = nI ba ∧ f7 (o.length + 1) = nI li ∧ f8 (o.length + 1) = nI nq ∧ StA f6 f7 f8 f9 nq o
theorem StA_upd {f6 f7 f8 f9 : Nat → Int32} {k : Nat} {x6 x7 x8 x9 : Int32} : ∀ {outs : List Fr} {np : Nat}, outs.length + 1 < k → StA f6 f7 f8 f9 np outs → StA (upd f6 k x6) (upd f7 k x7) (upd f8 k x8) (upd f9 k x9) np outs
  | [], _, _, _ => trivial
  | (ba, li, nq, ag) :: o, np, hk, h => by
    simp only [List.length_cons] at hk
    obtain ⟨h1, h2, h3, h4, h5⟩ := h
    refine ⟨?_, ?_, ?_, ?_, StA_upd (by omega) h5⟩
    · rw [un (by omega)]; exact h1
    · rw [un (by omega)]; exact h2
    · rw [un (by omega)]; exact h3
    · rw [un (by omega)]; exact h4
section INNER
variable {N n ob hb sb : Nat} {b : Nat → Nat} {sv : Nat → Int32} {outs : List Fr} {f0 f1 f2 f3 f4 f5 f6 f7 f8 f9 : Nat → Int32} {dp it base lim np pos ags : Nat} {G : GS}
theorem A_inner_d (h7 : f0 7 = nI (outs.length + 1)) (h10 : f0 10 = nI pos) (hl : outs.length = 5) (hG : Gv f3 f4 f5 ob hb sb 0 (-1) dp it G) :
    ∃ g3, pX1_readInner f0 f1 f2 f3 f4 f6 f7 f8 f9 = some (f0, g3, f6, f7, f8, f9) ∧ Gv g3 f4 f5 ob hb sb 6 (nI pos) dp it G := by
  unfold pX1_readInner
  obtain ⟨g3, e1, e2⟩ := c_fail (k := 6) (p := nI pos) (kn := 6) rfl hG.1
  rw [h7, hl, if_neg (by decide), h10, e1, bd1_s]
  exact ⟨g3, rfl, e2, hG.2⟩
theorem A_inner_f (h7 : f0 7 = nI (outs.length + 1)) (hl : outs.length < 5) (h8 : f0 8 = nI (pos + 1)) (hf7 : f7 (outs.length + 1) = nI lim) (hf8 : f8 (outs.length + 1) = nI np) (hlim : lim ≤ 160) (hp : pos + 1 ≤ lim) (hc : lim < pos + 2) (hG : Gv f3 f4 f5 ob hb sb 0 (-1) dp it G) :
    ∃ g3, pX1_readInner f0 f1 f2 f3 f4 f6 f7 f8 f9 = some (f0, g3, f6, f7, f8, f9) ∧ Gv g3 f4 f5 ob hb sb (mK outs) (nI np) dp it G := by
  unfold pX1_readInner
  obtain ⟨g3, e1, e2⟩ := A_stand_f (c := 1) h7 (by omega) h8 hf7 hf8 hlim hp (by omega) (by omega) hG.1
  rw [if_pos (by rw [h7, k6]; exact nI_lt (by omega) (by omega)), k1, e1, bd2_s, if_pos rfl]
  exact ⟨g3, rfl, e2, hG.2⟩
theorem A_inner_l (h7 : f0 7 = nI (outs.length + 1)) (hl : outs.length < 5) (h8 : f0 8 = nI (pos + 1)) (hf7 : f7 (outs.length + 1) = nI lim) (hlim : lim ≤ n) (hn : n ≤ 160) (h1 : f1 1 = nI n) (hb1 : f2 (pos + 1) = nI (b (pos + 1))) (hb2 : b (pos + 1) < 256) (hp : pos + 2 ≤ lim) (hc : lim < pos + 2 + b (pos + 1)) (hG : Gv f3 f4 f5 ob hb sb 0 (-1) dp it G) :
    ∃ g3, pX1_readInner f0 f1 f2 f3 f4 f6 f7 f8 f9 = some (f0, g3, f6, f7, f8, f9) ∧ Gv g3 f4 f5 ob hb sb 2 (nI (pos + 1)) dp it G := by
  unfold pX1_readInner
  obtain ⟨g3, e1, e2⟩ := c_fail (k := 2) (p := nI (pos + 1)) (kn := 2) rfl hG.1
  rw [if_pos (by rw [h7, k6]; exact nI_lt (by omega) (by omega)), k1, A_stand_t (c := 1) h7 (by omega) h8 hf7 (by omega) (by omega), bd2_s, if_neg (by decide), h8, s_at h1 hn (by omega), bd1_s, h7, gi_ok (by omega) (by omega), ncl (by omega), hf7, hb1, nsub (by omega), nsub (by omega), if_neg (nI_ge (by omega) (by omega)), e1, bd1_s]
  exact ⟨g3, rfl, e2, hG.2⟩
theorem A_inner_t (h7 : f0 7 = nI (outs.length + 1)) (hl : outs.length < 5) (h8 : f0 8 = nI (pos + 1)) (h9 : f0 9 = nI (pos - ags)) (hf7 : f7 (outs.length + 1) = nI lim) (hlim : lim ≤ n) (hn : n ≤ 160) (h1 : f1 1 = nI n) (hb1 : f2 (pos + 1) = nI (b (pos + 1))) (hb2 : b (pos + 1) < 256) (hp : pos + 2 + b (pos + 1) ≤ lim) (hdp : dp ≤ 6) (hG : Gv f3 f4 f5 ob hb sb 0 (-1) dp it G) :
    ∃ g0 g3, pX1_readInner f0 f1 f2 f3 f4 f6 f7 f8 f9 = some (g0, g3, upd f6 (outs.length + 2) (nI G.1), upd f7 (outs.length + 2) (nI (pos + 2 + b (pos + 1))), upd f8 (outs.length + 2) (nI (pos + 1)), upd f9 (outs.length + 2) (nI (pos - ags))) ∧ g0 7 = nI (outs.length + 2) ∧ g0 8 = nI (pos + 2) ∧ Gv g3 f4 f5 ob hb sb 0 (-1) (max dp (outs.length + 2)) it G := by
  obtain ⟨hA, h4, h5⟩ := hG
  unfold pX1_readInner
  rw [if_pos (by rw [h7, k6]; exact nI_lt (by omega) (by omega)), k1, A_stand_t (c := 1) h7 (by omega) h8 hf7 (by omega) (by omega), bd2_s, if_neg (by decide), h8, s_at h1 hn (by omega), bd1_s, h7, gi_ok (by omega) (by omega), ncl (by omega), hf7, hb1, nsub (by omega), nsub (by omega), if_pos (nI_le (by omega) (by omega)), lt_x, nI_add, us, nI_add, nsub (by omega), un (by decide), h9, show pos + 1 + 1 - 1 = pos + 1 by omega]
  unfold pX1_enterPack
  have e7 : upd f0 8 (nI (pos + 1 + 1)) 7 = nI (outs.length + 1) := by rw [un (by decide)]; exact h7
  obtain ⟨g3, e1, e2⟩ := c_reach (d := outs.length + 1 + 1) (by omega) (by omega) hA
  rw [if_pos (by rw [e7, k6]; exact nI_lt (by omega) (by omega)), lt_x, e7, us, nI_1]
  unfold pX4_top
  rw [bd1_s, h4]
  simp only [gi_ok (show outs.length + 1 + 1 < 7 by omega) (by decide), lt_x, ncl (show outs.length + 1 + 1 < 2 ^ 31 by omega)]
  rw [e1, bd1_s, bd6_s]
  refine ⟨_, g3, rfl, us, ?_, e2, h4, h5⟩
  rw [un (by decide), us]
end INNER
section END
variable {N n ob hb sb : Nat} {b : Nat → Nat} {sv : Nat → Int32} {outs : List Fr} {f0 f1 f2 f3 f4 f5 f6 f7 f8 f9 : Nat → Int32} {dp it base lim np pos ags : Nat} {G : GS}
theorem A_end_n (h9 : f0 9 = nI (pos - ags)) (h10 : f0 10 = nI pos) (hpos : pos < 2 ^ 31) (ha : 0 < ags) (ha2 : ags ≤ pos) (hG : Gv f3 f4 f5 ob hb sb 0 (-1) dp it G) :
    ∃ g3, pX1_readEnd N f0 f1 f2 f3 f4 f5 f6 f7 f8 f9 = some (f0, g3) ∧ Gv g3 f4 f5 ob hb sb 7 (nI pos) dp it G := by
  unfold pX1_readEnd
  obtain ⟨g3, e1, e2⟩ := c_fail (k := 7) (p := nI pos) (kn := 7) rfl hG.1
  rw [h9, h10, if_neg (nI_ge (by omega) (by omega)), e1, bd1_s]
  exact ⟨g3, rfl, e2, hG.2⟩
theorem A_end_f (h9 : f0 9 = nI pos) (h10 : f0 10 = nI pos) (h7 : f0 7 = nI (outs.length + 1)) (hl : outs.length ≤ 5) (h8 : f0 8 = nI (pos + 1)) (hf7 : f7 (outs.length + 1) = nI lim) (hf8 : f8 (outs.length + 1) = nI np) (hlim : lim ≤ 160) (hp : pos + 1 ≤ lim) (hc : lim < pos + 2) (hG : Gv f3 f4 f5 ob hb sb 0 (-1) dp it G) :
    ∃ g3, pX1_readEnd N f0 f1 f2 f3 f4 f5 f6 f7 f8 f9 = some (f0, g3) ∧ Gv g3 f4 f5 ob hb sb (mK outs) (nI np) dp it G := by
  unfold pX1_readEnd
  obtain ⟨g3, e1, e2⟩ := A_stand_f (c := 1) h7 hl h8 hf7 hf8 hlim hp (by omega) (by omega) hG.1
  rw [h9, h10, if_pos (nI_le (Nat.le_refl _) (by omega)), k1, e1, bd2_s, if_pos rfl]
  exact ⟨g3, rfl, e2, hG.2⟩
/-- the sum that stands there, and the one that it should be -/
theorem A_end_s (h9 : f0 9 = nI pos) (h10 : f0 10 = nI pos) (h7 : f0 7 = nI (outs.length + 1)) (hl : outs.length ≤ 5) (h8 : f0 8 = nI (pos + 1)) (hf6 : f6 (outs.length + 1) = nI base) (hf7 : f7 (outs.length + 1) = nI lim) (hlim : lim ≤ n) (h1 : f1 1 = nI n) (hsv : f2 (pos + 1) = sv (pos + 1)) (hp : pos + 2 ≤ lim) (hbs : base ≤ G.1) (hN : 1000 < N) (hW : Wg n ob hb sb (isO outs) G) (hG : Gv f3 f4 f5 ob hb sb 0 (-1) dp it G) :
    pX1_readEnd N f0 f1 f2 f3 f4 f5 f6 f7 f8 f9 = if sv (pos + 1) = smR G.2.1 base (G.1 - base) &&& 255 then (if isO outs = true then bd2 (pX1_leaveOutermost (upd f0 8 (nI (pos + 2))) f1 f3) (fun f0_19 f3_20 => some (f0_19, f3_20)) else bd2 (pX1_leaveInner (upd f0 8 (nI (pos + 2))) f3 f4 f6 f7 f8 f9) (fun f0_16 f3_17 => some (f0_16, f3_17))) else bd1 (pX0_fail 4 (nI (pos + 1)) f3) (fun f3_22 => some (f0, f3_22)) := by
  obtain ⟨w1, w2, w3, w4, w5, w6, w7, w8, w9, w10, w11⟩ := id hW
  obtain ⟨hA, h4, h5⟩ := hG
  unfold pX1_readEnd
  have e0 : smR f5 base (G.1 - base) = smR G.2.1 base (G.1 - base) := smR_c (fun j _ h2 => h5 j (by omega))
  rw [h9, h10, if_pos (nI_le (Nat.le_refl _) (by omega)), k1, A_stand_t (c := 1) h7 hl h8 hf7 (by omega) (by omega), bd2_s, if_neg (by decide), h8, s_at h1 w1 (by omega), bd1_s, h7, gi_ok (by omega) (by omega), ncl (by omega), hf6, r_sum h4 (by omega) hbs (by omega), bd1_s, hsv, e0, lt_x, nI_add]
  have e7 : upd f0 8 (nI (pos + 1 + 1)) 7 = nI (outs.length + 1) := by rw [un (by decide)]; exact h7
  rw [A_out e7 hl, bd1_s]
  cases outs with
  | nil => rfl
  | cons a o => rfl
theorem A_end_b (hG : Gv f3 f4 f5 ob hb sb 0 (-1) dp it G) : ∃ g3, pX0_fail 4 (nI (pos + 1)) f3 = some g3 ∧ Gv g3 f4 f5 ob hb sb 4 (nI (pos + 1)) dp it G := by
  obtain ⟨g3, e1, e2⟩ := c_fail (k := 4) (p := nI (pos + 1)) (kn := 4) rfl hG.1
  exact ⟨g3, e1, e2, hG.2⟩
theorem A_lo (h8 : f0 8 = nI (pos + 2)) (h1 : f1 1 = nI n) (hn : n ≤ 160) (hp : pos + 2 ≤ n) (hG : Gv f3 f4 f5 ob hb sb 0 (-1) dp it G) :
    ∃ g3, pX1_leaveOutermost f0 f1 f3 = some (upd f0 7 0, g3) ∧ Gv g3 f4 f5 ob hb sb (if pos + 2 < n then 5 else 0) (if pos + 2 < n then nI (pos + 2) else -1) dp it G := by
  unfold pX1_leaveOutermost pX5_count
  rw [bd1_s, h1, h8]
  by_cases c : pos + 2 < n
  · obtain ⟨g3, e1, e2⟩ := c_fail (k := 5) (p := nI (pos + 2)) (kn := 5) rfl hG.1
    rw [if_neg (nI_ge c (by omega)), e1, bd1_s, lt_x, if_pos c, if_pos c]
    exact ⟨g3, rfl, e2, hG.2⟩
  · rw [if_pos (nI_le (by omega) (by omega)), lt_x, if_neg c, if_neg c]
    exact ⟨f3, rfl, hG⟩
end END
