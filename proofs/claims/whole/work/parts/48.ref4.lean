/-! ===== PURE PART 15: the reference's reader: what the AGAINs do, and an item's end ===== -/
/-- entries of the AGAINs that wait: a of them from A on, at places from fp on, asked for since s -/
def AgR (b : Nat → Nat) (f9 f10 f11 : Nat → Int32) (A fp a s : Nat) : Prop := ∀ i, i < a → f9 (A + i) = nI (b (fp + i) - 126) ∧ f10 (A + i) = nI (fp + i) ∧ f11 (A + i) = nI s ∧ 128 ≤ b (fp + i) ∧ b (fp + i) < 192
section DONE
variable {N n ob hb sb d en base A pos start fp : Nat} {b : Nat → Nat} {l1 l2 : Int64} {dp it : Nat} {ia ca ga : Int32} {om : Bool} {f2 f7 f9 f10 f11 : Nat → Int32}
set_option maxRecDepth 100000 in
theorem R_done (hN : 1000 < N) (hom : om = decide (d = 0)) (hd6 : d < 6) (h2 : f2 d = nI base) (h7 : f7 d = nI A) (hsb : base ≤ start) :
    ∀ (a m : Nat) (f0 f3 f8 : Nat → Int32) (G : GS), a < m → A + a ≤ 160 → AgR b f9 f10 f11 A fp a (start - base) → Wg n ob hb sb om G → G.2.2.2.1 ≤ G.2.2.2.2.1 → start ≤ G.1 → f3 d = nI (G.1 - base) → f3 0 = nI G.2.2.2.2.2 → (d = 0 → base = 0) → (∀ i, i < G.1 → f8 i = G.2.1 i) → Mo f0 n d (A + a) pos en 0 (-1) G.2.2.1 G.2.2.2.1 G.2.2.2.2.1 dp it ob hb sb ia ca ga →
      ∃ g0 g8 ag, bfX7_done_0 N l1 l2 f2 f7 f9 f10 f11 m f0 f3 f8 = some (g0, upd f3 d (nI ((dn b ob hb sb om start a (fp + a) G).2.2.1 - base)), g8) ∧
        Wg n ob hb sb om (dn b ob hb sb om start a (fp + a) G).2.2 ∧ (dn b ob hb sb om start a (fp + a) G).2.2.2.2.2.1 ≤ (dn b ob hb sb om start a (fp + a) G).2.2.2.2.2.2.1 ∧ start ≤ (dn b ob hb sb om start a (fp + a) G).2.2.1 ∧ (∀ i, i < (dn b ob hb sb om start a (fp + a) G).2.2.1 → g8 i = (dn b ob hb sb om start a (fp + a) G).2.2.2.1 i) ∧ ((dn b ob hb sb om start a (fp + a) G).1 = 0 → ag = A) ∧ (dn b ob hb sb om start a (fp + a) G).1 ≤ 10 ∧
        Mo g0 n d ag pos en (dn b ob hb sb om start a (fp + a) G).1 (if (dn b ob hb sb om start a (fp + a) G).1 = 0 then -1 else nI (dn b ob hb sb om start a (fp + a) G).2.1) (dn b ob hb sb om start a (fp + a) G).2.2.2.2.1 (dn b ob hb sb om start a (fp + a) G).2.2.2.2.2.1 (dn b ob hb sb om start a (fp + a) G).2.2.2.2.2.2.1 dp it ob hb sb ia ca ga := by
  intro a
  induction a with
  | zero =>
    intro m f0 f3 f8 G hm hA hE hW hmx hst h3 h30 hd0 hrow hM
    obtain ⟨m, rfl⟩ : ∃ k, m = k + 1 := ⟨m - 1, by omega⟩
    refine ⟨f0, f8, A, ?_, hW, hmx, hst, hrow, fun _ => rfl, Nat.zero_le _, ?_⟩
    · show bFX7_done_0 N l1 l2 f2 f7 f9 f10 f11 (bfX7_done_0 N l1 l2 f2 f7 f9 f10 f11 m) f0 f3 f8 = _
      unfold bFX7_done_0
      rw [if_pos (by rw [hM.2.2.2.2.2.1]; rfl), hM.2.1, gi_ok hd6 (by omega), ncl (by omega), h7, hM.2.2.1, if_pos (nI_le (by omega) (by omega))]
      show _ = some (f0, upd f3 d (nI (G.1 - base)), f8)
      rw [← h3, usame]
    · exact hM
  | succ a ih =>
    intro m f0 f3 f8 G hm hA hE hW hmx hst h3 h30 hd0 hrow hM
    obtain ⟨m, rfl⟩ : ∃ k, m = k + 1 := ⟨m - 1, by omega⟩
    obtain ⟨w1, w2, w3, w4, w5, w6, w7, w8, w9, w10, w11⟩ := id hW
    obtain ⟨E1, E2, E3, E4, E5⟩ := hE a (by omega)
    show ∃ g0 g8 ag, bFX7_done_0 N l1 l2 f2 f7 f9 f10 f11 (bfX7_done_0 N l1 l2 f2 f7 f9 f10 f11 m) f0 f3 f8 = _ ∧ _
    unfold bFX7_done_0
    have eA : nI (A + (a + 1)) - 1 = nI (A + a) := by rw [k1, nsub (by omega)]; congr 1
    rw [if_pos (by rw [hM.2.2.2.2.2.1]; rfl), hM.2.1, gi_ok hd6 (by omega), ncl (by omega), h7, hM.2.2.1, if_neg (nI_ge (by omega) (by omega)), eA, lt_x]
    have hM2 : Mo (upd f0 10 (nI (A + a))) n d (A + a) pos en 0 (-1) G.2.2.1 G.2.2.2.1 G.2.2.2.2.1 dp it ob hb sb ia ca ga := by
      obtain ⟨a1, a2, a3, a4, a5, a6, a7, a8, a9, a10, a11, a12, a13, a14, a15, a16, a17, a18⟩ := hM
      refine ⟨?_, ?_, ?_, ?_, ?_, ?_, ?_, ?_, ?_, ?_, ?_, ?_, ?_, ?_, ?_, ?_, ?_, ?_⟩ <;> simp [upd, *]
    have q2 : upd f0 10 (nI (A + a)) 2 = nI d := hM2.2.1
    have q10 : upd f0 10 (nI (A + a)) 10 = nI (A + a) := us
    have eF : nI base + nI (start - base) = nI start := by rw [nI_add]; congr 1; omega
    have eN : nI (G.1 - base) - nI (start - base) = nI (G.1 - start) := by rw [nsub (by omega)]; congr 1; omega
    simp only [q2, q10, gi_ok hd6 (show 6 < 2 ^ 31 by decide), gi_ok (show A + a < 170 by omega) (show 170 < 2 ^ 31 by decide), ncl (show d < 2 ^ 31 by omega), ncl (show A + a < 2 ^ 31 by omega), lt_x, h2, h3, E1, E3, eF, eN]
    have eT : nI (b (fp + a) - 126) - 1 = nI (b (fp + a) - 127) := by rw [k1, nsub (by omega), show b (fp + a) - 126 - 1 = b (fp + a) - 127 by omega]
    rw [eT]
    have hdn : dn b ob hb sb om start (a + 1) (fp + (a + 1)) G = if aG ob hb sb om ((G.1 - start) * (b (fp + a) - 127)) G < (G.1 - start) * (b (fp + a) - 127) then (kG hb sb (gv om (aG ob hb sb om ((G.1 - start) * (b (fp + a) - 127)) G) (G.1 + aG ob hb sb om ((G.1 - start) * (b (fp + a) - 127)) G) (cpR G.2.1 G.1 (G.1 - start) (aG ob hb sb om ((G.1 - start) * (b (fp + a) - 127)) G)) G), fp + a, gv om (aG ob hb sb om ((G.1 - start) * (b (fp + a) - 127)) G) (G.1 + aG ob hb sb om ((G.1 - start) * (b (fp + a) - 127)) G) (cpR G.2.1 G.1 (G.1 - start) (aG ob hb sb om ((G.1 - start) * (b (fp + a) - 127)) G)) G) else dn b ob hb sb om start a (fp + a) (gv om ((G.1 - start) * (b (fp + a) - 127)) (G.1 + (G.1 - start) * (b (fp + a) - 127)) (cpR G.2.1 G.1 (G.1 - start) ((G.1 - start) * (b (fp + a) - 127))) G) := rfl
    rw [hdn]
    by_cases cb : G.1 - start = 0
    · have e0 : (G.1 - start) * (b (fp + a) - 127) = 0 := by rw [cb, Nat.zero_mul]
      rw [if_pos (by rw [cb]; rfl), if_neg (by omega), e0]
      unfold bfX7_done_92
      obtain ⟨N', rfl⟩ : ∃ x, N = x + 1 := ⟨N - 1, by omega⟩
      have e1 : bfX7_done_96 (N' + 1) l1 l2 f2 f7 f9 f10 f11 (bfX7_done_0 (N' + 1) l1 l2 f2 f7 f9 f10 f11 m) (N' + 1) (nI start) (nI (G.1 - start)) 0 0 (upd f0 10 (nI (A + a))) f3 f8 = bfX7_done_0 (N' + 1) l1 l2 f2 f7 f9 f10 f11 m (upd f0 10 (nI (A + a))) f3 f8 := by
        show bFX7_done_96 (N' + 1) l1 l2 f2 f7 f9 f10 f11 (bfX7_done_0 (N' + 1) l1 l2 f2 f7 f9 f10 f11 m) (bfX7_done_96 (N' + 1) l1 l2 f2 f7 f9 f10 f11 (bfX7_done_0 (N' + 1) l1 l2 f2 f7 f9 f10 f11 m) N') (nI start) (nI (G.1 - start)) 0 0 (upd f0 10 (nI (A + a))) f3 f8 = _
        unfold bFX7_done_96
        rw [if_pos (by decide)]
        rfl
      rw [e1]
      have hG : gv om 0 (G.1 + 0) (cpR G.2.1 G.1 (G.1 - start) 0) G = G := by
        unfold gv
        have : max G.2.2.2.2.1 (G.2.2.2.1 + 0) = G.2.2.2.2.1 := by omega
        rw [this]
        simp only [Nat.add_zero, ite_self]
        rfl
      rw [hG]
      exact ih m _ f3 f8 G (by omega) (by omega) (fun i hi => hE i (by omega)) hW hmx hst h3 h30 hd0 hrow hM2
    · rw [if_neg (nI_ne0 (by omega) (by omega))]
      unfold bfX7_done_92
      rw [k0]
      have hou : d = 0 → G.2.2.2.2.2 = G.1 - base := fun h => by rw [w11 (by rw [hom]; simp [h]), hd0 h]; omega
      obtain ⟨g0, e1, e2⟩ := R_96 (N := N) (l1 := l1) (l2 := l2) (f7 := f7) (f9 := f9) (f10 := f10) (f11 := f11) (rc0 := bfX7_done_0 N l1 l2 f2 f7 f9 f10 f11 m) (blk := G.1 - start) (start := start) (more := b (fp + a) - 127) hN hom hd6 w4 w3 w2 h2 (show A + a < 170 by omega) hsb (by omega) (by omega) (by omega) N 0 pos G.1 G.2.2.1 G.2.2.2.1 G.2.2.2.2.1 G.2.2.2.2.2 (upd f0 10 (nI (A + a))) f3 f8 (by omega) (by omega) w6 (by omega) w9 hmx (by omega) h3 (by omega) (by omega) h30 hou (fun i hi => by rw [show G.1 - (G.1 - start) + i = start + i by omega]) hM2
      rw [Nat.sub_zero, Nat.mul_comm] at e1 e2
      rw [e1]
      have hrow2 : ∀ q i, i < G.1 + q → cpR f8 G.1 (G.1 - start) q i = cpR G.2.1 G.1 (G.1 - start) q i := fun q i hi => cpR_c (by omega) (by omega) hrow q i hi
      have hdd : (d = 0) = (om = true) := by rw [hom]; simp
      by_cases cq : aG ob hb sb om ((G.1 - start) * (b (fp + a) - 127)) G < (G.1 - start) * (b (fp + a) - 127)
      · rw [if_pos cq]
        have cq2 := cq
        unfold aG at cq2
        unfold Mq at e2
        rw [if_pos cq2, if_pos cq2, E2] at e2
        obtain ⟨m, rfl⟩ : ∃ x, m = x + 1 := ⟨m - 1, by omega⟩
        have hkd := kQ_pos hb sb (G.2.2.1 + aQ ob hb sb om ((G.1 - start) * (b (fp + a) - 127)) G.2.2.1 G.2.2.2.1 G.2.2.2.2.2) (G.2.2.2.1 + aQ ob hb sb om ((G.1 - start) * (b (fp + a) - 127)) G.2.2.1 G.2.2.2.1 G.2.2.2.2.2)
        have hkG : 0 < kG hb sb (gv om (aG ob hb sb om ((G.1 - start) * (b (fp + a) - 127)) G) (G.1 + aG ob hb sb om ((G.1 - start) * (b (fp + a) - 127)) G) (cpR G.2.1 G.1 (G.1 - start) (aG ob hb sb om ((G.1 - start) * (b (fp + a) - 127)) G)) G) := hkd.1
        refine ⟨g0, cpR f8 G.1 (G.1 - start) (aQ ob hb sb om ((G.1 - start) * (b (fp + a) - 127)) G.2.2.1 G.2.2.2.1 G.2.2.2.2.2), A + a, ?_, Wg_q _ hW, ?_, Nat.le_trans hst (Nat.le_add_right _ _), fun i hi => hrow2 (aQ ob hb sb om ((G.1 - start) * (b (fp + a) - 127)) G.2.2.1 G.2.2.2.1 G.2.2.2.2.2) i hi, fun h => absurd h (by omega), hkd.2, ?_⟩
        · show bFX7_done_0 N l1 l2 f2 f7 f9 f10 f11 (bfX7_done_0 N l1 l2 f2 f7 f9 f10 f11 m) g0 _ _ = _
          unfold bFX7_done_0
          rw [if_neg (by rw [e2.2.2.2.2.2.1]; exact nI_ne0 hkd.1 (by omega))]
          rfl
        · exact Nat.le_max_right _ _
        · rw [if_neg (by omega)]
          exact e2
      · have eq := aG_of cq
        unfold aG at eq
        rw [if_neg cq, eq]
        unfold Mq at e2
        rw [eq, if_neg (by omega), if_neg (by omega)] at e2
        have := ih m g0 (upd f3 d (nI (G.1 + (G.1 - start) * (b (fp + a) - 127) - base))) (cpR f8 G.1 (G.1 - start) ((G.1 - start) * (b (fp + a) - 127))) (gv om ((G.1 - start) * (b (fp + a) - 127)) (G.1 + (G.1 - start) * (b (fp + a) - 127)) (cpR G.2.1 G.1 (G.1 - start) ((G.1 - start) * (b (fp + a) - 127))) G) (by omega) (by omega) (fun i hi => hE i (by omega)) (Wg_c _ hW cq) (Nat.le_max_right _ _) (Nat.le_trans hst (Nat.le_add_right _ _)) us
          (by
            show upd f3 d (nI (G.1 + (G.1 - start) * (b (fp + a) - 127) - base)) 0 = nI (if om = true then G.2.2.2.2.2 + (G.1 - start) * (b (fp + a) - 127) else G.2.2.2.2.2)
            by_cases h0 : d = 0
            · have ho1 : om = true := by rw [← hdd]; exact h0
              rw [if_pos ho1, h0, us, hou h0, show G.1 + (G.1 - start) * (b (fp + a) - 127) - base = G.1 - base + (G.1 - start) * (b (fp + a) - 127) by omega]
            · have ho1 : ¬ om = true := by rw [← hdd]; exact h0
              rw [if_neg ho1, un (by omega)]; exact h30)
          hd0 (fun i hi => hrow2 ((G.1 - start) * (b (fp + a) - 127)) i hi) e2
        rw [uu] at this
        exact this
end DONE
