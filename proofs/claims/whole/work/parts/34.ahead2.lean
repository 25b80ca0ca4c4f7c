/-! ===== PURE PART 5: the reader that asks ahead: giving again, RAW, COPY ===== -/
/-- account, top and row are as G has them; kind and place of the fault -/
def Gv (f3 f4 f5 : Nat → Int32) (ob hb sb kd : Nat) (pl : Int32) (dp it : Nat) (G : GS) : Prop :=
  Ac f3 ob hb sb kd pl G.2.2.1 G.2.2.2.1 G.2.2.2.2.1 G.2.2.2.2.2 dp it ∧ f4 1 = nI G.1 ∧ ∀ i, i < G.1 → f5 i = G.2.1 i
theorem Wg_q {n ob hb sb c : Nat} {om : Bool} {G : GS} (row : Nat → Int32) (h : Wg n ob hb sb om G) : Wg n ob hb sb om (gv om (aG ob hb sb om c G) (G.1 + aG ob hb sb om c G) row G) := Wg_gv h (Or.inr (Or.inr ⟨c, Nat.le_refl _⟩))
theorem Wg_c {n ob hb sb c : Nat} {om : Bool} {G : GS} (row : Nat → Int32) (h : Wg n ob hb sb om G) (hc : ¬ aG ob hb sb om c G < c) : Wg n ob hb sb om (gv om c (G.1 + c) row G) := Wg_gv h (Or.inl (by rw [aG_of hc]; exact Nat.le_refl c))
section AGAIN
variable {N n ob hb sb : Nat} {b : Nat → Nat} {sv : Nat → Int32} {outs : List Fr} {f0 f1 f2 : Nat → Int32} {dp it first start : Nat}
set_option maxRecDepth 100000 in
/-- what the AGAINs do -/
theorem A_ga (h7 : f0 7 = nI (outs.length + 1)) (hl : outs.length ≤ 5) (h9 : f0 9 = nI first) (h11 : f0 11 = nI start) (h1 : f1 1 = nI n) (hN : 1000 < N) :
    ∀ (a m : Nat) (f3 f4 f5 : Nat → Int32) (G : GS), a < m → first + a < n → (∀ i, first ≤ i → i < first + a → f2 i = nI (b i) ∧ 128 ≤ b i ∧ b i < 192) → Wg n ob hb sb (isO outs) G → start ≤ G.1 → Gv f3 f4 f5 ob hb sb 0 (-1) dp it G →
      ∃ g3 g4 g5, bfX1_giveAgain_7 N f0 f1 f2 m (nI (first + a) - 1) f3 f4 f5 = some (g3, g4, g5) ∧
        Wg n ob hb sb (isO outs) (dn b ob hb sb (isO outs) start a (first + a) G).2.2 ∧ start ≤ (dn b ob hb sb (isO outs) start a (first + a) G).2.2.1 ∧
        ((dn b ob hb sb (isO outs) start a (first + a) G).1 = 0 ∧ Gv g3 g4 g5 ob hb sb 0 (-1) dp it (dn b ob hb sb (isO outs) start a (first + a) G).2.2 ∨
         0 < (dn b ob hb sb (isO outs) start a (first + a) G).1 ∧ (dn b ob hb sb (isO outs) start a (first + a) G).1 ≤ 10 ∧ Gv g3 g4 g5 ob hb sb (dn b ob hb sb (isO outs) start a (first + a) G).1 (nI (dn b ob hb sb (isO outs) start a (first + a) G).2.1) dp it (dn b ob hb sb (isO outs) start a (first + a) G).2.2) := by
  intro a
  induction a with
  | zero =>
    intro m f3 f4 f5 G hm hn hb2 hW hst hG
    obtain ⟨m, rfl⟩ : ∃ k, m = k + 1 := ⟨m - 1, by omega⟩
    refine ⟨f3, f4, f5, ?_, hW, hst, Or.inl ⟨rfl, hG⟩⟩
    show bFX1_giveAgain_7 N f0 f1 f2 (bfX1_giveAgain_7 N f0 f1 f2 m) (nI (first + 0) - 1) f3 f4 f5 = _
    unfold bFX1_giveAgain_7
    have hlt : nI (first + 0) - 1 < f0 9 := by
      have hn2 := hW.1
      rw [h9, k1, Int32.lt_iff_toInt_lt, pk_sub_toInt (by omega) (by omega), nI_toInt (by omega)]
      omega
    rw [if_pos hlt]
  | succ a ih =>
    intro m f3 f4 f5 G hm hn hb2 hW hst hG
    obtain ⟨m, rfl⟩ : ∃ k, m = k + 1 := ⟨m - 1, by omega⟩
    obtain ⟨w1, w2, w3, w4, w5, w6, w7, w8, w9, w10, w11⟩ := id hW
    obtain ⟨hA, h4, h5⟩ := hG
    obtain ⟨hb3, hb4, hb5⟩ := hb2 (first + a) (by omega) (by omega)
    show ∃ g3 g4 g5, bFX1_giveAgain_7 N f0 f1 f2 (bfX1_giveAgain_7 N f0 f1 f2 m) (nI (first + (a + 1)) - 1) f3 f4 f5 = _ ∧ _
    have e1 : nI (first + (a + 1)) - 1 = nI (first + a) := by rw [k1, nsub (by omega)]; congr 1
    rw [e1]
    unfold bFX1_giveAgain_7
    rw [h9, if_neg (nI_nlt (by omega) (by omega)), c_failed_0 hA.2.2.2.1, bd1_s, if_pos rfl]
    unfold pX4_top
    rw [bd1_s, lt_x, h4, h11, nsub hst, s_at h1 w1 (by omega), bd1_s, hb3, x_times hb4, bd1_s, pk_mul]
    have hc : (G.1 - start) * (b (first + a) - 127) ≤ 800 * 64 := Nat.mul_le_mul (by omega) (by omega)
    obtain ⟨g3, g4, e2, e3, e4⟩ := A_gfb (N := N) (f5 := f5) (c := (G.1 - start) * (b (first + a) - 127)) (d := G.1 - start) (t := G.1) (p := nI (first + a)) h7 hl w6 (by omega) w9 w4 w3 w2 w8 (by omega) (by rcases Nat.eq_zero_or_pos (G.1 - start) with h | h; exact Or.inr (by rw [h, Nat.zero_mul]); exact Or.inl h) (by omega) w5.symm h4 hN hA
    rw [e2, bd3_s, lt_x]
    have e5 : nI (first + a) + (-1) = nI (first + a) - 1 := by rw [Int32.sub_eq_add_neg]
    rw [e5]
    have hdn : dn b ob hb sb (isO outs) start (a + 1) (first + (a + 1)) G = if aG ob hb sb (isO outs) ((G.1 - start) * (b (first + a) - 127)) G < (G.1 - start) * (b (first + a) - 127) then (kG hb sb (gv (isO outs) (aG ob hb sb (isO outs) ((G.1 - start) * (b (first + a) - 127)) G) (G.1 + aG ob hb sb (isO outs) ((G.1 - start) * (b (first + a) - 127)) G) (cpR G.2.1 G.1 (G.1 - start) (aG ob hb sb (isO outs) ((G.1 - start) * (b (first + a) - 127)) G)) G), first + a, gv (isO outs) (aG ob hb sb (isO outs) ((G.1 - start) * (b (first + a) - 127)) G) (G.1 + aG ob hb sb (isO outs) ((G.1 - start) * (b (first + a) - 127)) G) (cpR G.2.1 G.1 (G.1 - start) (aG ob hb sb (isO outs) ((G.1 - start) * (b (first + a) - 127)) G)) G) else dn b ob hb sb (isO outs) start a (first + a) (gv (isO outs) ((G.1 - start) * (b (first + a) - 127)) (G.1 + (G.1 - start) * (b (first + a) - 127)) (cpR G.2.1 G.1 (G.1 - start) ((G.1 - start) * (b (first + a) - 127))) G) := rfl
    have hrow : ∀ q, q ≤ (G.1 - start) * (b (first + a) - 127) → ∀ i, i < G.1 + q → cpR f5 G.1 (G.1 - start) q i = cpR G.2.1 G.1 (G.1 - start) q i := by
      intro q hq i hi
      rcases Nat.eq_zero_or_pos (G.1 - start) with h | h
      · have : q = 0 := by rw [h, Nat.zero_mul] at hq; omega
        subst this
        exact h5 i hi
      · exact cpR_c h (by omega) h5 q i hi
    have hql := (aQ_le ob hb sb (isO outs) ((G.1 - start) * (b (first + a) - 127)) G.2.2.1 G.2.2.2.1 G.2.2.2.2.2).1
    by_cases cq : aG ob hb sb (isO outs) ((G.1 - start) * (b (first + a) - 127)) G < (G.1 - start) * (b (first + a) - 127)
    · rw [hdn, if_pos cq]
      have hW2 := Wg_q (c := (G.1 - start) * (b (first + a) - 127)) (cpR G.2.1 G.1 (G.1 - start) (aG ob hb sb (isO outs) ((G.1 - start) * (b (first + a) - 127)) G)) hW
      have cq2 := cq
      unfold aG at cq2
      rw [if_pos cq2, if_pos cq2] at e4
      obtain ⟨m, rfl⟩ : ∃ k, m = k + 1 := ⟨m - 1, by omega⟩
      have hk1 : 0 < kG hb sb (gv (isO outs) (aG ob hb sb (isO outs) ((G.1 - start) * (b (first + a) - 127)) G) (G.1 + aG ob hb sb (isO outs) ((G.1 - start) * (b (first + a) - 127)) G) (cpR G.2.1 G.1 (G.1 - start) (aG ob hb sb (isO outs) ((G.1 - start) * (b (first + a) - 127)) G)) G) := (kQ_pos hb sb _ _).1
      have hk2 : kG hb sb (gv (isO outs) (aG ob hb sb (isO outs) ((G.1 - start) * (b (first + a) - 127)) G) (G.1 + aG ob hb sb (isO outs) ((G.1 - start) * (b (first + a) - 127)) G) (cpR G.2.1 G.1 (G.1 - start) (aG ob hb sb (isO outs) ((G.1 - start) * (b (first + a) - 127)) G)) G) ≤ 10 := (kQ_pos hb sb _ _).2
      refine ⟨g3, g4, cpR f5 G.1 (G.1 - start) (aQ ob hb sb (isO outs) ((G.1 - start) * (b (first + a) - 127)) G.2.2.1 G.2.2.2.1 G.2.2.2.2.2), ?_, hW2, ?_, Or.inr ⟨hk1, hk2, ?_⟩⟩
      · show bFX1_giveAgain_7 N f0 f1 f2 (bfX1_giveAgain_7 N f0 f1 f2 m) (nI (first + a) - 1) g3 g4 _ = _
        unfold bFX1_giveAgain_7
        have hkd := kQ_pos hb sb (G.2.2.1 + aQ ob hb sb (isO outs) ((G.1 - start) * (b (first + a) - 127)) G.2.2.1 G.2.2.2.1 G.2.2.2.2.2) (G.2.2.2.1 + aQ ob hb sb (isO outs) ((G.1 - start) * (b (first + a) - 127)) G.2.2.1 G.2.2.2.1 G.2.2.2.2.2)
        rw [c_failed_1 e4.2.2.2.1 hkd.1 (by omega), bd1_s]
        split
        · rfl
        · rw [if_neg (by decide)]
      · exact Nat.le_trans hst (Nat.le_add_right _ _)
      · exact ⟨e4, e3, fun i hi => hrow (aQ ob hb sb (isO outs) ((G.1 - start) * (b (first + a) - 127)) G.2.2.1 G.2.2.2.1 G.2.2.2.2.2) hql i hi⟩
    · have eq := aG_of cq
      unfold aG at eq
      rw [hdn, if_neg cq]
      rw [eq] at e3 e4 ⊢
      rw [if_neg (by omega), if_neg (by omega)] at e4
      exact ih m g3 g4 _ _ (by omega) (by omega) (fun i h1 h2 => hb2 i h1 (by omega)) (Wg_c _ hW cq) (Nat.le_trans hst (Nat.le_add_right _ _)) ⟨e4, e3, fun i hi => hrow ((G.1 - start) * (b (first + a) - 127)) (Nat.le_refl _) i hi⟩
end AGAIN
