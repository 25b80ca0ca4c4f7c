/-! ===== PURE PART 35: draw: packs within packs ===== -/
/-- class and reference at the end of a pack that stood at depth d -/
def EndR (N : Nat) (a1 : Int64) (so a4 : Int32) (l31 : Int64) (d base np n t : Nat) (cls : Option (Int64 × (Nat → Int32) × (Nat → Int32) × (Nat → Int32) × (Nat → Int32))) (f0 : Nat → Int32) (l32 : Int64) (f1 f2 f3 f4 f5 f6 f7 f8 : Nat → Int32) : Prop :=
  ∃ (n' t' : Nat) (l' : Int64) (g1 g2 g3 g4 : Nat → Int32) (k : Nat) (x0 : Nat → Int32) (lb : Int64) (x1 x2 x3 x4 x5 x6 x7 x8 : Nat → Int32),
    cls = some (l', g1, g2, g3, g4) ∧ k ≤ n' - n ∧ n ≤ n' ∧ n' ≤ 107 + 2 * (4 - d) ∧ t ≤ t' ∧ t' ≤ 4 * n' ∧
    (∀ m, bfX7_draw_68 N a1 so a4 (m + k) f0 l31 l32 f1 f2 f3 f4 f5 f6 f7 f8 = bfX7_draw_68 N a1 so a4 m x0 l31 lb x1 x2 x3 x4 x5 x6 x7 x8) ∧
    l' = l31 + lb * KK ∧ g3 1 = nI t' ∧ (∀ i, i < t' → g4 i = x8 i) ∧
    (d = 0 → x0 2 = -1 ∧ SmN n' g1 g2 x0 x1) ∧
    (∀ e, d = e + 1 → x0 2 = nI e ∧ np < n' ∧ SmN n' g1 (upd g2 np (nI (n' - np - 1))) x0 x1 ∧ x3 e = f3 e + nI (t' - base) ∧ (∀ j, j < e → x3 j = f3 j) ∧ ∀ j, j ≤ e → x2 j = f2 j ∧ x4 j = f4 j ∧ x6 j = f6 j)
theorem EndR_pre {N : Nat} {a1 : Int64} {so a4 : Int32} {l31 : Int64} {d base np n t n1 t1 k0 : Nat} {cls : Option (Int64 × (Nat → Int32) × (Nat → Int32) × (Nat → Int32) × (Nat → Int32))} {l32 lb : Int64} {f0 f1 f2 f3 f4 f5 f6 f7 f8 y0 y1 y2 y3 y4 y5 y6 y7 y8 : Nat → Int32}
    (hk : ∀ m, bfX7_draw_68 N a1 so a4 (m + k0) f0 l31 l32 f1 f2 f3 f4 f5 f6 f7 f8 = bfX7_draw_68 N a1 so a4 m y0 l31 lb y1 y2 y3 y4 y5 y6 y7 y8) (h0 : k0 ≤ n1 - n) (hn : n ≤ n1) (ht : t ≤ t1)
    (hf : ∀ j, j < d → y2 j = f2 j ∧ y3 j = f3 j ∧ y4 j = f4 j ∧ y6 j = f6 j) (h : EndR N a1 so a4 l31 d base np n1 t1 cls y0 lb y1 y2 y3 y4 y5 y6 y7 y8) : EndR N a1 so a4 l31 d base np n t cls f0 l32 f1 f2 f3 f4 f5 f6 f7 f8 := by
  obtain ⟨n', t', l', g1, g2, g3, g4, k, x0, lc, x1, x2, x3, x4, x5, x6, x7, x8, q1, q2, q3, q4, q5, q6, q7, q8, q9, q10, q11, q12⟩ := h
  refine ⟨n', t', l', g1, g2, g3, g4, k + k0, x0, lc, x1, x2, x3, x4, x5, x6, x7, x8, q1, by omega, by omega, q4, by omega, q6, fun m => ?_, q8, q9, q10, q11, fun e he => ?_⟩
  · rw [← Nat.add_assoc, hk, q7]
  · obtain ⟨p1, p2, p3, p4, p5, p6⟩ := q12 e he
    refine ⟨p1, p2, p3, ?_, fun j hj => ?_, fun j hj => ?_⟩
    · rw [p4, (hf e (by omega)).2.1]
    · rw [p5 j hj, (hf j (by omega)).2.1]
    · have := hf j (by omega)
      rw [(p6 j hj).1, (p6 j hj).2.1, (p6 j hj).2.2]
      exact ⟨this.1, this.2.2.1, this.2.2.2⟩
section PACK
variable {N : Nat} {a1 : Int64} {so a4 : Int32} {l31 : Int64} {fc : Nat → Int32}
/-- a pack opened at depth d, seen by what draws packs -/
def JJ (N : Nat) (a1 : Int64) (so a4 : Int32) (l31 : Int64) (fc : Nat → Int32) (d : Nat) (rp : RP) : Prop :=
  ∀ (n t np : Nat) (l l32 : Int64) (c1 c2 c3 c4 f0 f1 f2 f3 f4 f5 f6 f7 f8 : Nat → Int32), n ≤ 101 → t ≤ 4 * n → SmN n c1 c2 f0 f1 → Rw t d t c3 c4 f0 f2 f3 f8 → l = l31 + l32 * KK → (d ≠ 0 → f6 d = nI np ∧ np < n) →
    ∃ r lb, pX7_pick a4 f0 l31 l32 = some (nI r, lb) ∧ EndR N a1 so a4 l31 d t np n t (rp (nI (d + 1)) fc l c1 c2 c3 c4) f0 lb f1 f2 f3 (upd f4 d (nI (1 + r))) f5 f6 f7 f8
theorem l_end {d base np n t : Nat} {rp : RP} {ad : Int32} {l l32 : Int64} {c1 c2 c3 c4 f0 f1 f2 f3 f4 f5 f6 f7 f8 : Nat → Int32} (hN : 1000 < N) (hd : d ≤ 3) (hn : n ≤ 107 + 2 * (3 - d)) (ht : t ≤ 4 * n) (hS : SmN n c1 c2 f0 f1) (hR : Rw t d base c3 c4 f0 f2 f3 f8) (hl : l = l31 + l32 * KK) (hnp : d ≠ 0 → f6 d = nI np ∧ np < n)
    (hm : ∀ m, bfX7_draw_68 N a1 so a4 (m + 1) f0 l31 l32 f1 f2 f3 f4 f5 f6 f7 f8 = bfX7_draw_119 N a1 so a4 (bfX7_draw_68 N a1 so a4 m) f0 l31 l32 f1 f2 f3 f4 f5 f6 f7 f8) :
    EndR N a1 so a4 l31 d base np n t (bfX2_drawPack_52 N rp ad fc (nI base) l c1 c2 c3 c4) f0 l32 f1 f2 f3 f4 f5 f6 f7 f8 := by
  obtain ⟨g1, g2, x0, x1, v, e1, e2, e3, e4, y0, y1, e5, e6⟩ := d_end (N := N) (l31 := l31) (l32 := l32) (f6 := f6) (a1 := ad) (rp := rp) (l := l) (fc := fc) hN (by omega) (by omega) hS hR
  rcases Nat.eq_zero_or_pos d with c | c
  · subst c
    have e7 := mEnd_0 (f6 := f6) (f3 := f3) e5 e6 e3
    refine ⟨n + 2, t, l, g1, g2, c3, c4, 1, upd x0 2 (-1), l32, x1, f2, f3, f4, f5, f6, f7, f8, e1, by omega, by omega, by omega, by omega, by omega, fun m => ?_, hl, hR.1, hR.2.1, fun _ => ⟨us, e2.1, e2.2.1, ?_, e2.2.2.2⟩, fun e he => by omega⟩
    · rw [hm m]
      unfold bfX7_draw_119
      rw [e4, e7, bd3_s]
    · rw [un (by decide)]; exact e2.2.2.1
  · obtain ⟨e, rfl⟩ : ∃ e, d = e + 1 := ⟨d - 1, by omega⟩
    obtain ⟨h6, hnp⟩ := hnp (by omega)
    have e7 := mEnd_s (f3 := f3) e5 e6 e3 (by omega) e2.2.2.1 h6 (by omega) (by omega)
    refine ⟨n + 2, t, l, g1, g2, c3, c4, 1, upd x0 2 (nI e), l32, upd x1 np (nI (n + 2 - np - 1)), f2, upd f3 e (f3 e + f3 (e + 1)), f4, f5, f6, f7, f8, e1, by omega, by omega, by omega, by omega, by omega, fun m => ?_, hl, hR.1, hR.2.1, fun h => by omega, fun e' he => ?_⟩
    · rw [hm m]
      unfold bfX7_draw_119
      rw [e4, e7, bd3_s]
    · obtain rfl : e = e' := by omega
      refine ⟨us, by omega, ⟨e2.1, e2.2.1, by rw [un (by decide)]; exact e2.2.2.1, fun i hi => ?_⟩, by rw [us, hR.2.2.2.2.1], fun j hj => un (by omega), fun j _ => ⟨rfl, rfl, rfl⟩⟩
      by_cases ci : i = np
      · subst ci; rw [us, us]; exact ⟨_, by omega, rfl, rfl⟩
      · rw [un ci, un ci]; exact e2.2.2.2 i hi
theorem l_loop {d base np most : Nat} {rp : RP} (hN : 1000 < N) (hso : fc 3 = so) (hd : d ≤ 3) (hmost : most ≤ 5) (hin : d < 3 → JJ N a1 so a4 l31 fc (d + 1) rp) : ∀ (mc i n t : Nat) (l l32 : Int64) (c1 c2 c3 c4 f0 f1 f2 f3 f4 f5 f6 f7 f8 : Nat → Int32), i ≤ most → most - i < mc → n ≤ 107 + 2 * (3 - d) → t ≤ 4 * n → SmN n c1 c2 f0 f1 → Rw t d base c3 c4 f0 f2 f3 f8 → l = l31 + l32 * KK → (d ≠ 0 → f6 d = nI np ∧ np < n) → f4 d = nI (most - i) →
    EndR N a1 so a4 l31 d base np n t (bfX2_drawPack_22 N rp (nI (d + 1)) fc mc (nI base) (nI most) (nI i) l c1 c2 c3 c4) f0 l32 f1 f2 f3 f4 f5 f6 f7 f8 := by
  intro mc
  induction mc with
  | zero => intro i n t l l32 c1 c2 c3 c4 f0 f1 f2 f3 f4 f5 f6 f7 f8 _ h; omega
  | succ mc ih =>
    intro i n t l l32 c1 c2 c3 c4 f0 f1 f2 f3 f4 f5 f6 f7 f8 hi hmc hn ht hS hR hl hnp hf4
    show EndR N a1 so a4 l31 d base np n t (bFX2_drawPack_22 N rp (nI (d + 1)) fc (bfX2_drawPack_22 N rp (nI (d + 1)) fc mc) (nI base) (nI most) (nI i) l c1 c2 c3 c4) f0 l32 f1 f2 f3 f4 f5 f6 f7 f8
    have h2 : f0 2 = nI d := hR.2.2.1
    have h01 : f0 1 = nI n := hS.2.2.1
    have hst : ∀ m, bfX7_draw_68 N a1 so a4 (m + 1) f0 l31 l32 f1 f2 f3 f4 f5 f6 f7 f8 = if nI (most - i) ≤ 0 then bfX7_draw_119 N a1 so a4 (bfX7_draw_68 N a1 so a4 m) f0 l31 l32 f1 f2 f3 f4 f5 f6 f7 f8 else if (100 : Int32) ≤ nI n then bfX7_draw_119 N a1 so a4 (bfX7_draw_68 N a1 so a4 m) f0 l31 l32 f1 f2 f3 f4 f5 f6 f7 f8 else bd10 (pX7_drawItem N so a4 f0 l31 l32 f1 f2 f3 (upd f4 d (nI (most - i) - 1)) f5 f6 f7 f8) (fun f0_12 l0_32_13 f1_14 f2_15 f3_16 f4_17 f5_18 f6_19 f7_20 f8_21 => bfX7_draw_68 N a1 so a4 m f0_12 l31 l0_32_13 f1_14 f2_15 f3_16 f4_17 f5_18 f6_19 f7_20 f8_21) := by
      intro m
      show bFX7_draw_68 N a1 so a4 (bfX7_draw_68 N a1 so a4 m) f0 l31 l32 f1 f2 f3 f4 f5 f6 f7 f8 = _
      unfold bFX7_draw_68
      rw [h2, if_neg (nI_pos (by omega)), gi_ok (by omega) (by omega), gi_ok (by omega) (by omega), gi_ok (by omega) (by omega), ncl (by omega), hf4, h01, lt_x]
    unfold bFX2_drawPack_22
    by_cases ci : most ≤ i
    · rw [if_pos (nI_le ci (by omega))]
      refine l_end hN hd hn ht hS hR hl hnp (fun m => ?_)
      rw [hst m, if_pos (by rw [show most - i = 0 by omega]; decide)]
    · rw [if_neg (nI_ge (by omega) (by omega))]
      unfold pX5_count
      rw [bd1_s, hS.2.1]
      have nq : ((100 : Int32) ≤ nI n) = (100 ≤ n) := nle (a := 100) (b := n) (by omega) (by omega)
      by_cases cn : 100 ≤ n
      · rw [if_pos (nq.mpr cn)]
        refine l_end hN hd hn ht hS hR hl hnp (fun m => ?_)
        rw [hst m, if_neg (nI_nle (by omega) (by omega)), if_pos (nq.mpr cn)]
      · rw [if_neg (fun h => cn (nq.mp h))]
        have hst2 : ∀ m, bfX7_draw_68 N a1 so a4 (m + 1) f0 l31 l32 f1 f2 f3 f4 f5 f6 f7 f8 = bd10 (pX7_drawItem N so a4 f0 l31 l32 f1 f2 f3 (upd f4 d (nI (most - i - 1))) f5 f6 f7 f8) (fun f0_12 l0_32_13 f1_14 f2_15 f3_16 f4_17 f5_18 f6_19 f7_20 f8_21 => bfX7_draw_68 N a1 so a4 m f0_12 l31 l0_32_13 f1_14 f2_15 f3_16 f4_17 f5_18 f6_19 f7_20 f8_21) := by
          intro m
          rw [hst m, if_neg (nI_nle (by omega) (by omega)), if_neg (fun h => cn (nq.mp h)), k1, nsub (by omega)]
        rcases d_item (a2 := a4) (rp := rp) (f4 := upd f4 d (nI (most - i - 1))) (f5 := f5) (f6 := f6) (f7 := f7) hN hso (by omega) ht hS hR hl with ⟨n1, t1, l', g1, g2, g3, g4, x0, lb, x1, x3, x8, q1, q2, ⟨q3, q4, q5, q6⟩, q7, q8, q9, q10⟩ | ⟨hd3, la, lb, q1, q2, q3⟩
        · rw [q1, bd5_s, lt_x, nI_1]
          refine EndR_pre (k0 := 1) (n1 := n1) (t1 := t1) (fun m => ?_) (by omega) (by omega) q9 (fun j hj => ⟨rfl, q6 j (by omega), un (by omega), rfl⟩) (ih (i + 1) n1 t1 l' lb g1 g2 g3 g4 x0 x1 f2 x3 (upd f4 d (nI (most - i - 1))) f5 f6 f7 x8 (by omega) (by omega) (by omega) (by omega) q3 q4 q5 (fun h => ⟨(hnp h).1, by have := (hnp h).2; omega⟩) (by rw [us]; congr 1))
          rw [hst2 m, q2]
          rfl
        · rw [q2]
          -- an inner pack
          obtain ⟨y1, y2, y0, y26, a4', a5, a6, -, -, a7, -⟩ := both_app (l1 := l31) (l2 := lb) (v := 192) hS (by omega) (by omega)
          obtain ⟨z1, z2, z0, z26, b4, b5, b6, b8, -, b7, -⟩ := both_app (l1 := l31) (l2 := lb) (v := 0) a6 (by omega) (by omega)
          have a4' : pX5_append 192 c1 c2 = some (y1, y2) := a4'
          have a5 : pX7_lay 192 f0 l31 lb f1 = some (y0, y26) := a5
          have b4 : pX5_append 0 y1 y2 = some (z1, z2) := b4
          have b5 : pX7_lay 0 y0 l31 lb y26 = some (z0, z26) := b5
          have hz2 : z0 2 = nI d := by rw [b7, a7, un (by decide), un (by decide), h2]
          obtain ⟨h1, hrow, -, h4, h5, h6, h7⟩ := hR
          obtain ⟨w0, hop, hw1, hw2⟩ : ∃ w0, pX7_opens 0 (nI n) (nI (n + 1)) (upd z0 2 (nI (d + 1))) l31 lb f2 f3 (upd f4 d (nI (most - i - 1))) f5 f6 f7 = some (w0, upd f2 (d + 1) (nI t), upd f3 (d + 1) 0, upd (upd f4 d (nI (most - i - 1))) (d + 1) 0, upd f5 (d + 1) (nI n), upd f6 (d + 1) (nI (n + 1)), upd f7 (d + 1) (upd z0 2 (nI (d + 1)) 10)) ∧ w0 1 = nI (n + 2) ∧ w0 2 = nI (d + 1) := by
            have u2 : upd z0 2 (nI (d + 1)) 2 = nI (d + 1) := us
            have u1 : upd z0 2 (nI (d + 1)) 1 = nI (n + 2) := by rw [un (by decide)]; exact b6.2.2.1
            have ez : ¬ (nI (d + 1) = 0) := fun h => by have := (nI_q (k := d + 1) (j := 0) (by omega) (by omega)).mp h; omega
            have es : nI (d + 1) - 1 = nI d := by rw [k1, nsub (by omega)]; rfl
            have ea : nI base + nI (t - base) = nI t := by rw [nI_add]; congr 1; omega
            unfold pX7_opens bfX7_opens_42
            rw [u2, if_neg ez, es, gi_ok (by omega) (by omega), gi_ok (by omega) (by omega), gi_ok (by omega) (by omega), ncl (by omega), ncl (by omega), h4, h5, ea, lt_x, gi_ok (by omega) (by omega), lt_x, gi_ok (by omega) (by omega), lt_x, gi_ok (by omega) (by omega), lt_x, gi_ok (by omega) (by omega), lt_x, gi_ok (by omega) (by omega), lt_x]
            split
            · exact ⟨_, rfl, by rw [un (by decide), u1], by rw [un (by decide), u2]⟩
            · exact ⟨_, rfl, by rw [un (by decide), u1], by rw [un (by decide), u2]⟩
          have hR2 : Rw t (d + 1) t c3 c4 w0 (upd f2 (d + 1) (nI t)) (upd f3 (d + 1) 0) f8 := ⟨h1, hrow, hw2, us, by rw [us, Nat.sub_self]; rfl, Nat.le_refl _, by omega⟩
          obtain ⟨r, lc, p1, n', t', l', g1, g2, g3, g4, k, x0, ld, x1, x2, x3, x4, x5, x6, x7, x8, p2, p3, p4, p5, p6, p7, p8, p9, p10, p11, -, p12⟩ := hin hd3 (n + 2) t (n + 1) la lb z1 z2 c3 c4 w0 z26 (upd f2 (d + 1) (nI t)) (upd f3 (d + 1) 0) (upd (upd f4 d (nI (most - i - 1))) (d + 1) 0) (upd f5 (d + 1) (nI n)) (upd f6 (d + 1) (nI (n + 1))) (upd f7 (d + 1) (upd z0 2 (nI (d + 1)) 10)) f8 (by omega) (by omega) ⟨b6.1, b6.2.1, hw1, b6.2.2.2⟩ hR2 q1 (fun _ => ⟨us, by omega⟩)
          obtain ⟨s1, s2, s3, s4, s5, s6⟩ := p12 d rfl
          have hcl : pX2_drawInner N rp (nI (d + 1)) fc la c1 c2 c3 c4 = some (l', g1, upd g2 (n + 1) (nI (n' - (n + 1) - 1)), g3, g4) := by
            unfold pX2_drawInner pX5_count
            rw [a4', bd2_s, bd1_s, b4, bd2_s, nI_1, p2, bd5_s, bd1_s, a6.2.1, s3.2.1, nsub (by omega), k1, nsub (by omega), s_chg s3.2.1 s3.1 s2, bd1_s]
          rw [hcl, bd5_s, lt_x, nI_1]
          have hR3 : Rw t' d base g3 g4 x0 x2 x3 x8 := by
            refine ⟨p10, p11, s1, ?_, ?_, by omega, h7⟩
            · rw [(s6 d (Nat.le_refl _)).1, un (by omega), h4]
            · rw [s4, un (by omega), h5, nI_add]; congr 1; omega
          refine EndR_pre (k0 := k + 1) (n1 := n') (t1 := t') (fun m => ?_) (by omega) (by omega) p6 (fun j hj => ⟨?_, ?_, ?_, ?_⟩) (ih (i + 1) n' t' l' ld g1 _ g3 g4 x0 x1 x2 x3 x4 x5 x6 x7 x8 (by omega) (by omega) (by omega) (by omega) s3 hR3 p9 (fun h => ⟨?_, by have := (hnp h).2; omega⟩) ?_)
          · rw [← Nat.add_assoc, hst2 (m + k), q3]
            unfold mInn
            have es : nI d + 1 = nI (d + 1) := nI_1 d
            have ew : upd z0 2 (nI (d + 1)) 1 = nI (n + 2) := by rw [un (by decide)]; exact b6.2.2.1
            rw [a5, bd2_s, b5, bd2_s, lt_x, hz2, es, ew, k2, nsub (by omega), k1, nsub (by omega), show n + 2 - 2 = n by omega, show n + 2 - 1 = n + 1 by omega, hop, bd7_s, p1, bd2_s, hw2, gi_ok (by omega) (by omega), ncl (by omega), lt_x, nI_add]
            exact p8 m
          · rw [(s6 j (by omega)).1, un (by omega)]
          · rw [s5 j hj, un (by omega)]
          · rw [(s6 j (by omega)).2.1, un (by omega), un (by omega), un (by omega)]
          · rw [(s6 j (by omega)).2.2, un (by omega)]
          · rw [(s6 d (Nat.le_refl _)).2.2, un (by omega)]; exact (hnp h).1
          · rw [(s6 d (Nat.le_refl _)).2.1, un (by omega), un (by omega), us]; congr 1
theorem l_pack {d : Nat} {rp : RP} {sz : Nat} (hN : 1000 < N) (hso : fc 3 = so) (hsz : fc 4 = nI sz) (ha4 : a4 = nI sz) (h1 : 1 ≤ sz) (h5 : sz ≤ 5) (hd : d ≤ 3) (hin : d < 3 → JJ N a1 so a4 l31 fc (d + 1) rp) : JJ N a1 so a4 l31 fc d (pX2_drawPack N rp) := by
  intro n t np l l32 c1 c2 c3 c4 f0 f1 f2 f3 f4 f5 f6 f7 f8 hn ht hS hR hl hnp
  obtain ⟨k, la, lb, hk, e1, e2, e3⟩ := both_pick (f0 := fc) (g0 := f0) (n := sz) h1 (by omega) hl
  refine ⟨k, lb, by rw [ha4]; exact e2, ?_⟩
  unfold pX2_drawPack pX4_top
  rw [bd1_s, hsz, e1, bd2_s, lt_x, hR.1, k1, nI_add]
  have := l_loop (a4 := a4) (np := np) (base := t) (most := 1 + k) hN hso hd (by omega) hin N 0 n t la lb c1 c2 c3 c4 f0 f1 f2 f3 (upd f4 d (nI (1 + k))) f5 f6 f7 f8 (by omega) (by omega) (by omega) ht hS hR e3 hnp us
  exact this
theorem l_packs {sz : Nat} (hN : 1000 < N) (hso : fc 3 = so) (hsz : fc 4 = nI sz) (ha4 : a4 = nI sz) (h1 : 1 ≤ sz) (h5 : sz ≤ 5) : ∀ s d, d + s = 3 → JJ N a1 so a4 l31 fc d (qX2_drawPack N (s + 5)) := by
  intro s
  induction s with
  | zero => intro d hd; exact l_pack (rp := qX2_drawPack N 4) hN hso hsz ha4 h1 h5 (by omega) (fun h => by omega)
  | succ s ih => intro d hd; exact l_pack (rp := qX2_drawPack N (s + 5)) hN hso hsz ha4 h1 h5 (by omega) (fun h => ih (d + 1) (by omega))
end PACK
