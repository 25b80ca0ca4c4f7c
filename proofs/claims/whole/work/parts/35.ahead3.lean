/-! ===== PURE PART 6: the reader that asks ahead: RAW, WIDE, COPY ===== -/
theorem rwR_s {row sv : Nat → Int32} {t p : Nat} : ∀ (a : Nat), rwR (upd row t (sv p)) (t + 1) sv (p + 1) a = rwR row t sv p (a + 1) := by
  intro a
  induction a with
  | zero => rfl
  | succ a ih =>
    show upd (rwR (upd row t (sv p)) (t + 1) sv (p + 1) a) (t + 1 + a) (sv (p + 1 + a)) = upd (rwR row t sv p (a + 1)) (t + (a + 1)) (sv (p + (a + 1)))
    rw [ih, show t + 1 + a = t + (a + 1) by omega, show p + 1 + a = p + (a + 1) by omega]
section RAW
variable {N n ob hb sb : Nat} {b : Nat → Nat} {sv : Nat → Int32} {outs : List Fr} {f0 f1 f2 f7 f8 : Nat → Int32} {dp it : Nat} {a1 : Int32}
theorem A_raw_loop {p c q : Nat} (h1 : f1 1 = nI n) (hn : n ≤ 160) (h8 : f0 8 = nI p) (hpq : p + q ≤ n) (hqc : q ≤ c) (hc : c < 70000) :
    ∀ (m j t : Nat) (f3 f4 f5 : Nat → Int32), j ≤ q → q - j < m → f4 1 = nI t → t + (q - j) ≤ 800 → ∃ g4, bfX1_readRaw_87 N a1 f1 f2 f7 f8 m (nI c) (nI q) (nI j) f0 f3 f4 f5 = some (upd f0 8 (nI (p + c)), f3, g4, rwR f5 t f2 (p + j) (q - j)) ∧ g4 1 = nI (t + (q - j)) := by
  intro m
  induction m with
  | zero => intro j t f3 f4 f5 _ h; omega
  | succ m ih =>
    intro j t f3 f4 f5 hj hm h4 ht
    show ∃ g4, bFX1_readRaw_87 N a1 f1 f2 f7 f8 (bfX1_readRaw_87 N a1 f1 f2 f7 f8 m) (nI c) (nI q) (nI j) f0 f3 f4 f5 = _ ∧ _
    unfold bFX1_readRaw_87
    by_cases cj : q ≤ j
    · rw [if_pos (nI_le cj (by omega)), lt_x, h8, nI_add]
      have e : q - j = 0 := by omega
      rw [e]
      exact ⟨f4, rfl, h4⟩
    · rw [if_neg (nI_ge (by omega) (by omega)), h8, nI_add, s_at h1 hn (by omega), bd1_s, r_push h4 (by omega), bd2_s, lt_x, nI_1]
      obtain ⟨g4, e1, e2⟩ := ih (j + 1) (t + 1) f3 (upd f4 1 (nI (t + 1))) (upd f5 t (f2 (p + j))) (by omega) (by omega) us (by omega)
      refine ⟨g4, ?_, by rw [e2]; congr 1; omega⟩
      rw [e1]
      have e3 := rwR_s (row := f5) (sv := f2) (t := t) (p := p + j) (q - (j + 1))
      rw [show p + (j + 1) = p + j + 1 by omega, e3, show q - (j + 1) + 1 = q - j by omega]
variable {base lim np pos p c : Nat} {f3 f4 f5 : Nat → Int32} {G : GS}
theorem A_raw_f (h7 : f0 7 = nI (outs.length + 1)) (hl : outs.length ≤ 5) (h8 : f0 8 = nI p) (hf7 : f7 (outs.length + 1) = nI lim) (hf8 : f8 (outs.length + 1) = nI np) (hlim : lim ≤ 160) (hp : p ≤ lim) (hc : lim < p + c) (hc2 : c < 70000) (hG : Gv f3 f4 f5 ob hb sb 0 (-1) dp it G) :
    ∃ g3, bfX1_readRaw_58 N a1 f1 f2 f7 f8 (nI c) f0 f3 f4 f5 = some (f0, g3, f4, f5) ∧ Gv g3 f4 f5 ob hb sb (mK outs) (nI np) dp it G := by
  unfold bfX1_readRaw_58
  obtain ⟨g3, e1, e2⟩ := A_stand_f (c := c) h7 hl h8 hf7 hf8 hlim hp hc (by omega) hG.1
  rw [e1, bd2_s, if_pos rfl]
  exact ⟨g3, rfl, e2, hG.2⟩
theorem A_raw_t (h7 : f0 7 = nI (outs.length + 1)) (hl : outs.length ≤ 5) (h8 : f0 8 = nI p) (h10 : f0 10 = nI pos) (hf7 : f7 (outs.length + 1) = nI lim) (hlim : lim ≤ n) (h1 : f1 1 = nI n) (hsv : ∀ i, i < n → f2 i = sv i) (hp : p + c ≤ lim) (hN : 1000 < N) (hW : Wg n ob hb sb (isO outs) G) (hG : Gv f3 f4 f5 ob hb sb 0 (-1) dp it G) :
    ∃ g3 g4 g5, bfX1_readRaw_58 N a1 f1 f2 f7 f8 (nI c) f0 f3 f4 f5 = some (upd f0 8 (nI (p + c)), g3, g4, g5) ∧
      (aG ob hb sb (isO outs) c G < c ∧ Gv g3 g4 g5 ob hb sb (kG hb sb (gv (isO outs) (aG ob hb sb (isO outs) c G) (G.1 + aG ob hb sb (isO outs) c G) (rwR G.2.1 G.1 sv p (aG ob hb sb (isO outs) c G)) G)) (nI pos) dp it (gv (isO outs) (aG ob hb sb (isO outs) c G) (G.1 + aG ob hb sb (isO outs) c G) (rwR G.2.1 G.1 sv p (aG ob hb sb (isO outs) c G)) G) ∨
       ¬ aG ob hb sb (isO outs) c G < c ∧ Gv g3 g4 g5 ob hb sb 0 (-1) dp it (gv (isO outs) c (G.1 + c) (rwR G.2.1 G.1 sv p c) G)) := by
  obtain ⟨w1, w2, w3, w4, w5, w6, w7, w8, w9, w10, w11⟩ := id hW
  obtain ⟨hA, h4, h5⟩ := hG
  unfold bfX1_readRaw_58
  rw [A_stand_t h7 hl h8 hf7 (by omega) hp, bd2_s, if_neg (by decide), A_out h7 hl, bd1_s, h10]
  obtain ⟨g3, e1, e2⟩ := c_ask (c := c) (om := isO outs) (p := nI pos) w6 (by omega) (fun _ => w9) w4 w3 w2 (by omega) (by omega) hA
  rw [e1, bd2_s]
  obtain ⟨q1, q2, q3, q4⟩ := aQ_le ob hb sb (isO outs) c G.2.2.1 G.2.2.2.1 G.2.2.2.2.2
  obtain ⟨g4, e3, e4⟩ := A_raw_loop (N := N) (a1 := a1) (f2 := f2) (f7 := f7) (f8 := f8) (c := c) (q := aQ ob hb sb (isO outs) c G.2.2.1 G.2.2.2.1 G.2.2.2.2.2) h1 w1 h8 (by omega) q1 (by omega) N 0 G.1 g3 f4 f5 (by omega) (by omega) h4 (by omega)
  rw [k0, e3]
  simp only [Nat.add_zero, Nat.sub_zero] at e4 ⊢
  refine ⟨g3, g4, _, rfl, ?_⟩
  have hrow : ∀ q, q ≤ c → ∀ i, i < G.1 + q → rwR f5 G.1 f2 p q i = rwR G.2.1 G.1 sv p q i := fun q hq i hi => rwR_c q h5 (fun j h1 h2 => hsv j (by omega)) i hi
  by_cases cq : aG ob hb sb (isO outs) c G < c
  · refine Or.inl ⟨cq, ?_, e4, hrow _ q1⟩
    unfold aG at cq
    rw [if_pos cq, if_pos cq] at e2
    exact e2
  · have eq := aG_of cq
    unfold aG at eq
    rw [eq] at e2 e4 ⊢
    rw [if_neg (by omega), if_neg (by omega)] at e2
    exact Or.inr ⟨cq, e2, e4, hrow _ (Nat.le_refl c)⟩
/-- COPY, its distance within what the pack gave -/
theorem A_copy_t {f6 : Nat → Int32} (h7 : f0 7 = nI (outs.length + 1)) (hl : outs.length ≤ 5) (h8 : f0 8 = nI (pos + 1)) (h10 : f0 10 = nI pos) (hf6 : f6 (outs.length + 1) = nI base) (hf7 : f7 (outs.length + 1) = nI lim) (hlim : lim ≤ n) (h1 : f1 1 = nI n) (hb1 : f2 (pos + 1) = nI (b (pos + 1))) (hb2 : b (pos + 1) < 256) (ht : 64 ≤ b pos) (ht2 : b pos < 128) (hp : pos + 2 ≤ lim) (hbs : base ≤ G.1) (hfar : b (pos + 1) + 1 ≤ G.1 - base) (hN : 1000 < N) (hW : Wg n ob hb sb (isO outs) G) (hG : Gv f3 f4 f5 ob hb sb 0 (-1) dp it G) :
    ∃ g3 g4 g5, pX1_readCopy N (nI (b pos)) f0 f1 f2 f3 f4 f5 f6 f7 f8 = some (upd f0 8 (nI (pos + 2)), g3, g4, g5) ∧
      (aG ob hb sb (isO outs) (b pos - 62) G < b pos - 62 ∧ Gv g3 g4 g5 ob hb sb (kG hb sb (gv (isO outs) (aG ob hb sb (isO outs) (b pos - 62) G) (G.1 + aG ob hb sb (isO outs) (b pos - 62) G) (cpR G.2.1 G.1 (b (pos + 1) + 1) (aG ob hb sb (isO outs) (b pos - 62) G)) G)) (nI pos) dp it (gv (isO outs) (aG ob hb sb (isO outs) (b pos - 62) G) (G.1 + aG ob hb sb (isO outs) (b pos - 62) G) (cpR G.2.1 G.1 (b (pos + 1) + 1) (aG ob hb sb (isO outs) (b pos - 62) G)) G) ∨
       ¬ aG ob hb sb (isO outs) (b pos - 62) G < b pos - 62 ∧ Gv g3 g4 g5 ob hb sb 0 (-1) dp it (gv (isO outs) (b pos - 62) (G.1 + (b pos - 62)) (cpR G.2.1 G.1 (b (pos + 1) + 1) (b pos - 62)) G)) := by
  obtain ⟨w1, w2, w3, w4, w5, w6, w7, w8, w9, w10, w11⟩ := id hW
  obtain ⟨hA, h4, h5⟩ := hG
  unfold pX1_readCopy
  rw [k1, A_stand_t (c := 1) h7 hl h8 hf7 (by omega) (by omega), bd2_s, if_neg (by decide), h8, s_at h1 w1 (by omega), bd1_s, lt_x, hb1, nI_add]
  unfold pX4_top
  rw [bd1_s, h7, gi_ok (by omega) (by omega), ncl (by omega), hf6, h4, nsub hbs, if_pos (nI_le hfar (by omega)), lt_x, nI_add, x_count ht, bd1_s, un (by decide), h10]
  obtain ⟨g3, g4, e2, e3, e4⟩ := A_gfb (N := N) (outs := outs) (f0 := upd f0 8 (nI (pos + 1 + 1))) (f5 := f5) (c := b pos - 62) (d := b (pos + 1) + 1) (t := G.1) (p := nI pos) (by rw [un (by decide)]; exact h7) hl w6 (by omega) w9 w4 w3 w2 w8 (by omega) (Or.inl (by omega)) (by omega) w5.symm h4 hN hA
  rw [e2, bd3_s]
  refine ⟨g3, g4, _, rfl, ?_⟩
  obtain ⟨q1, q2, q3, q4⟩ := aQ_le ob hb sb (isO outs) (b pos - 62) G.2.2.1 G.2.2.2.1 G.2.2.2.2.2
  have hrow : ∀ q i, i < G.1 + q → cpR f5 G.1 (b (pos + 1) + 1) q i = cpR G.2.1 G.1 (b (pos + 1) + 1) q i := fun q i hi => cpR_c (by omega) (by omega) h5 q i hi
  by_cases cq : aG ob hb sb (isO outs) (b pos - 62) G < b pos - 62
  · refine Or.inl ⟨cq, ?_, e3, hrow _⟩
    unfold aG at cq
    rw [if_pos cq, if_pos cq] at e4
    exact e4
  · have eq := aG_of cq
    unfold aG at eq
    rw [eq] at e3 e4 ⊢
    rw [if_neg (by omega), if_neg (by omega)] at e4
    exact Or.inr ⟨cq, e4, e3, hrow _⟩
theorem A_copy_b {f6 : Nat → Int32} (h7 : f0 7 = nI (outs.length + 1)) (hl : outs.length ≤ 5) (h8 : f0 8 = nI (pos + 1)) (hf6 : f6 (outs.length + 1) = nI base) (hf7 : f7 (outs.length + 1) = nI lim) (hlim : lim ≤ n) (h1 : f1 1 = nI n) (hb1 : f2 (pos + 1) = nI (b (pos + 1))) (hb2 : b (pos + 1) < 256) (hp : pos + 2 ≤ lim) (hbs : base ≤ G.1) (hfar : G.1 - base < b (pos + 1) + 1) (hW : Wg n ob hb sb (isO outs) G) (hG : Gv f3 f4 f5 ob hb sb 0 (-1) dp it G) :
    ∃ g3, pX1_readCopy N (nI (b pos)) f0 f1 f2 f3 f4 f5 f6 f7 f8 = some (f0, g3, f4, f5) ∧ Gv g3 f4 f5 ob hb sb 3 (nI (pos + 1)) dp it G := by
  obtain ⟨w1, w2, w3, w4, w5, w6, w7, w8, w9, w10, w11⟩ := id hW
  obtain ⟨hA, h4, h5⟩ := hG
  unfold pX1_readCopy
  rw [k1, A_stand_t (c := 1) h7 hl h8 hf7 (by omega) (by omega), bd2_s, if_neg (by decide), h8, s_at h1 w1 (by omega), bd1_s, lt_x, hb1, nI_add]
  unfold pX4_top
  obtain ⟨g3, e1, e2⟩ := c_fail (k := 3) (p := nI (pos + 1)) (kn := 3) rfl hA
  rw [bd1_s, h7, gi_ok (by omega) (by omega), ncl (by omega), hf6, h4, nsub hbs, if_neg (nI_ge hfar (by omega)), e1, bd1_s]
  exact ⟨g3, rfl, e2, h4, h5⟩
theorem A_copy_f {f6 : Nat → Int32} (h7 : f0 7 = nI (outs.length + 1)) (hl : outs.length ≤ 5) (h8 : f0 8 = nI (pos + 1)) (hf7 : f7 (outs.length + 1) = nI lim) (hf8 : f8 (outs.length + 1) = nI np) (hlim : lim ≤ 160) (hp : pos + 1 ≤ lim) (hc : lim < pos + 2) (hG : Gv f3 f4 f5 ob hb sb 0 (-1) dp it G) :
    ∃ g3, pX1_readCopy N (nI (b pos)) f0 f1 f2 f3 f4 f5 f6 f7 f8 = some (f0, g3, f4, f5) ∧ Gv g3 f4 f5 ob hb sb (mK outs) (nI np) dp it G := by
  unfold pX1_readCopy
  obtain ⟨g3, e1, e2⟩ := A_stand_f (c := 1) h7 hl h8 hf7 hf8 hlim hp (by omega) (by omega) hG.1
  rw [k1, e1, bd2_s, if_pos rfl]
  exact ⟨g3, rfl, e2, hG.2⟩
end RAW
