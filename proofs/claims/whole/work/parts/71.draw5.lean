/-! ===== PURE PART 36: draw ===== -/
section DRAW
variable {N : Nat} {f1 f2 f5 f6 f7 f9 f22 f23 f24 f25 f26 f27 f28 f29 f30 f31 f32 f33 f37 f38 : Nat → Int32} {a1 l22_2 l25_31 l25_32 : Int64} {a3 a4 : Int32}
theorem s_draw (hN : 1000 < N) (hI : Iv f1 f2 f5 f6 f7 f9 f23 f25 f26 f37 f38) : ∃ (r : Int32) (f1' : Nat → Int32) (f2' : Nat → Int32) (f22' : Nat → Int32) (l22_2' : Int64) (f23' : Nat → Int32) (f24' : Nat → Int32) (f25' : Nat → Int32) (l25_31' : Int64) (l25_32' : Int64) (f26' : Nat → Int32) (f27' : Nat → Int32) (f28' : Nat → Int32) (f29' : Nat → Int32) (f30' : Nat → Int32) (f31' : Nat → Int32) (f32' : Nat → Int32) (f33' : Nat → Int32), pX6_draw N a1 a3 a4 f1 f2 f22 l22_2 f23 f24 = some (r, f1', f2', f22', l22_2', f23', f24') ∧ pX7_draw N a1 a3 a4 f25 l25_31 l25_32 f26 f27 f28 f29 f30 f31 f32 f33 = some (r, f25', l25_31', l25_32', f26', f27', f28', f29', f30', f31', f32', f33') ∧ Iv f1' f2' f5 f6 f7 f9 f23' f25' f26' f37 f38 := by
  have hI0 := hI
  obtain ⟨⟨n, b, hn, hb, h1, h2, h25, h26⟩, hr6, hr9, ⟨t, ht, h23⟩, hrl⟩ := hI
  unfold pX6_draw pX7_draw pX7_in
  by_cases c1 : a3 < 0
  · rw [if_pos c1, if_pos c1, bd1_s, if_pos rfl]
    exact ⟨_, _, _, _, _, _, _, _, _, _, _, _, _, _, _, _, _, _, rfl, rfl, hI0⟩
  · rw [if_neg c1, if_neg c1]
    by_cases c2 : (2 : Int32) < a3
    · rw [if_pos c2, if_pos c2, bd1_s, if_pos rfl]
      exact ⟨_, _, _, _, _, _, _, _, _, _, _, _, _, _, _, _, _, _, rfl, rfl, hI0⟩
    · rw [if_neg c2, if_neg c2, bd1_s, if_neg (show ¬ (1 : Int32) = 0 by decide)]
      by_cases c3 : a4 < 1
      · rw [if_pos c3, if_pos c3, bd1_s, if_pos rfl]
        exact ⟨_, _, _, _, _, _, _, _, _, _, _, _, _, _, _, _, _, _, rfl, rfl, hI0⟩
      · rw [if_neg c3, if_neg c3]
        by_cases c4 : (5 : Int32) < a4
        · rw [if_neg (show ¬ a4 ≤ 5 from Int32.not_le.mpr c4), if_pos c4, bd1_s, if_pos rfl]
          exact ⟨_, _, _, _, _, _, _, _, _, _, _, _, _, _, _, _, _, _, rfl, rfl, hI0⟩
        · rw [if_pos (show a4 ≤ 5 from Int32.not_lt.mp c4), if_neg c4, bd1_s, if_neg (show ¬ (1 : Int32) = 0 by decide)]
          obtain ⟨sz, hsz, rfl⟩ : ∃ sz, sz < 2 ^ 31 ∧ a4 = nI sz := nn_of (fun h => c3 (Int32.lt_trans h (by decide)))
          have hs1 : 1 ≤ sz := by
            rcases Nat.lt_or_ge sz 1 with h | h
            · exact absurd ((nI_ltI hsz (by omega)).mpr h) c3
            · exact h
          have hs5 : sz ≤ 5 := by
            rcases Nat.lt_or_ge 5 sz with h | h
            · exact absurd ((nI_ltI (by omega) hsz).mpr h) c4
            · exact h
          obtain ⟨k1', hk1, hk2⟩ : ∃ g, pX5_keep 0 f1 = some g ∧ g 1 = nI 0 := by
            rcases Nat.eq_zero_or_pos n with c | c
            · subst c; exact ⟨_, s_keep_n (k := 0) h1 (Nat.le_refl _) (by omega), h1⟩
            · exact ⟨_, s_keep (k := 0) h1 hn c, us⟩
          obtain ⟨k3, hk3, hk4⟩ : ∃ g, pX4_backTo 0 f23 = some g ∧ g 1 = nI 0 := r_back' (k := 0) h23 (by omega) (by omega)
          unfold pX2_drawStream
          rw [hk1, bd1_s, hk3, bd1_s, lt_x, lt_x, lt_x, lt_x, lt_x]
          -- the reference opens the outermost pack
          obtain ⟨w0, hop, hw1, hw2⟩ : ∃ w0, pX7_opens 0 (-1) (-1) (upd (upd (upd f25 1 0) 2 0) 10 0) a1 0 f27 f28 f29 f30 f31 f32 = some (w0, upd f27 0 0, upd f28 0 0, upd f29 0 0, upd f30 0 (-1), upd f31 0 (-1), upd f32 0 0) ∧ w0 1 = nI 0 ∧ w0 2 = nI 0 := by
            have u2 : upd (upd (upd f25 1 0) 2 0) 10 0 2 = nI 0 := by rw [un (by decide), us]; rfl
            have u1 : upd (upd (upd f25 1 0) 2 0) 10 0 1 = nI 0 := by rw [un (by decide), un (by decide), us]; rfl
            have u10 : upd (upd (upd f25 1 0) 2 0) 10 0 10 = 0 := us
            unfold pX7_opens bfX7_opens_42
            rw [u2, u10, if_pos (show nI 0 = 0 from rfl), gi_ok (by omega) (by omega), ncl (by omega), lt_x, gi_ok (by omega) (by omega), lt_x, gi_ok (by omega) (by omega), lt_x, gi_ok (by omega) (by omega), lt_x, gi_ok (by omega) (by omega), lt_x, gi_ok (by omega) (by omega), lt_x]
            split
            · exact ⟨_, rfl, by rw [un (by decide), u1], by rw [un (by decide), u2]⟩
            · exact ⟨_, rfl, by rw [un (by decide), u1], by rw [un (by decide), u2]⟩
          have hJ := l_packs (N := N) (a1 := a1) (so := a3) (a4 := nI sz) (l31 := a1) (fc := upd (upd f22 3 a3) 4 (nI sz)) (sz := sz) hN (by rw [un (by decide), us]) us rfl hs1 hs5 3 0 rfl
          obtain ⟨r, lc, p1, n', t', l', g1, g2, g3, g4, k, x0, ld, x1, x2, x3, x4, x5, x6, x7, x8, p2, p3, p4, p5, p6, p7, p8, p9, p10, p11, p12, -⟩ := hJ 0 0 0 a1 0 k1' f2 k3 f24 w0 f26 (upd f27 0 0) (upd f28 0 0) (upd f29 0 0) (upd f30 0 (-1)) (upd f31 0 (-1)) (upd f32 0 0) f33 (by omega) (by omega) ⟨by omega, hk2, hw1, fun i hi => by omega⟩ ⟨hk4, fun i hi => by omega, hw2, us, us, Nat.le_refl _, by omega⟩ (by rw [Int64.zero_mul, Int64.add_zero]) (fun h => absurd rfl h)
          obtain ⟨s1, s2⟩ := p12 rfl
          have p2 : qX2_drawPack N 8 1 (upd (upd f22 3 a3) 4 (nI sz)) a1 k1' f2 k3 f24 = some (l', g1, g2, g3, g4) := p2
          have hf : bfX7_draw_68 N a1 a3 (nI sz) N w0 a1 lc f26 (upd f27 0 0) (upd f28 0 0) (upd (upd f29 0 0) 0 (nI (1 + r))) (upd f30 0 (-1)) (upd f31 0 (-1)) (upd f32 0 0) f33 = some (nI n', x0, a1, ld, x1, x2, x3, x4, x5, x6, x7, x8) := by
            obtain ⟨m, hm⟩ : ∃ m, N = m + 1 + k := ⟨N - 1 - k, by omega⟩
            have := p8 (m + 1)
            rw [← hm] at this
            rw [this]
            show bFX7_draw_68 N a1 a3 (nI sz) (bfX7_draw_68 N a1 a3 (nI sz) m) x0 a1 ld x1 x2 x3 x4 x5 x6 x7 x8 = _
            unfold bFX7_draw_68
            rw [s1, if_pos (by decide), s2.2.2.1]
          have er : (1 : Int32) + nI r = nI (1 + r) := by rw [k1, nI_add]
          unfold pX5_count
          rw [p2, bd5_s, bd6_s, bd1_s, s2.2.1, hop, bd7_s, p1, bd2_s, show gi_ (0 : Int32) 6 = gi_ (nI 0) 6 from rfl, gi_ok (by omega) (by omega), lt_x, er]
          rw [show (0 : Int32).toNatClampNeg = 0 from rfl, hf]
          exact ⟨_, _, _, _, _, _, _, _, _, _, _, _, _, _, _, _, _, _, rfl, rfl, SmN_to s2, hr6, hr9, ⟨t', by omega, p10⟩, hrl⟩
end DRAW
