/-! ===== PURE PART 31: plant ===== -/
theorem xor1 {k : Nat} (h : k < 256) : ∃ j, j < 256 ∧ nI k ^^^ 1 = nI j := by
  refine ⟨k ^^^ 1, Nat.xor_lt_two_pow (n := 8) h (by decide), ?_⟩
  apply Int32.toBitVec_inj.mp
  apply BitVec.eq_of_toNat_eq
  show ((BitVec.ofNat 32 k) ^^^ (BitVec.ofNat 32 1)).toNat = (BitVec.ofNat 32 (k ^^^ 1)).toNat
  have h2 : k ^^^ 1 < 256 := Nat.xor_lt_two_pow (n := 8) h (by decide)
  rw [BitVec.toNat_xor, BitVec.toNat_ofNat, BitVec.toNat_ofNat, BitVec.toNat_ofNat, Nat.mod_eq_of_lt (by omega), Nat.mod_eq_of_lt (by omega), Nat.mod_eq_of_lt (by omega)]
section PLANT
variable {N : Nat} {f1 f2 f3 f4 f5 f6 f7 f8 f9 f10 f17 f18 f19 f20 f21 f23 f25 f26 f27 f28 f29 f30 f31 f32 f33 f34 f35 f36 f37 f38 : Nat → Int32} {l1 l2 : Int64}
theorem both_gv {n : Nat} {b : Nat → Nat} (hN : 1000 < N) (hS : Sm n b f1 f2 f25 f26) (h9 : Tp f9) :
    ∃ (r : Rz) (g3 g4 g8 g9 g10 g17 g18 g19 g20 g21 x25 x27 x28 x29 x30 x31 x32 x33 x34 x35 x36 : Nat → Int32), spO (fun i => nI (b i)) b n 400 800 1500 (fun _ => 0) = some r ∧ r.1 ≤ 10 ∧ pX6_greatestVerdict N f1 f2 f3 f4 f8 f9 f10 f17 f18 f19 f20 f21 = some (nI r.1, g3, g4, g8, g9, g10, g17, g18, g19, g20, g21) ∧ Tp g9 ∧
      pX7_run N 400 800 1500 f25 l1 l2 f26 f27 f28 f29 f30 f31 f32 f33 f34 f35 f36 = some (x25, x27, x28, x29, x30, x31, x32, x33, x34, x35, x36) ∧ x25 1 = nI n ∧ x25 16 = nI r.1 ∧ x25 26 = r.2.2.2.2.2.2.2.2.1 ∧ x25 27 = r.2.2.2.2.2.2.2.2.2.1 ∧ x25 28 = r.2.2.2.2.2.2.2.2.2.2 := by
  obtain ⟨hn, hbb, h1, h2, h25, h26⟩ := hS
  obtain ⟨r, g17, g8, g9, g10, g18, g19, g20, g21, x25, x27, x28, x29, x30, x31, x32, x33, x34, x35, x36, y1, y2, y3, y4, y5, y6, y7, y8, y9, y10⟩ := both_read (N := N) (ob := 400) (hb := 800) (sb := 1500) (l1 := l1) (l2 := l2) (n := n) (b := b) (f3 := upd f3 1 (nI n)) (f4 := va_cpy f2 f4 0 0 n) (f8 := f8) (f9 := f9) (f10 := f10) (f17 := f17) (f18 := f18) (f19 := f19) (f20 := f20) (f21 := f21) (f25 := f25) (f26 := f26) (f27 := f27) (f28 := f28) (f29 := f29) (f30 := f30) (f31 := f31) (f32 := f32) (f33 := f33) (f34 := f34) (f35 := f35) (f36 := f36) hN hn (by omega) (by omega) (by omega) hbb us
      (fun i hi => by show (if 0 ≤ i ∧ i < 0 + n then f2 (0 + (i - 0)) else f4 i) = _; rw [if_pos (by omega), show 0 + (i - 0) = i by omega, h2 i hi]) h9 h25 h26
  refine ⟨r, upd f3 1 (nI n), va_cpy f2 f4 0 0 n, g8, g9, g10, g17, g18, g19, g20, g21, x25, x27, x28, x29, x30, x31, x32, x33, x34, x35, x36, y1, y2, ?_, y4, y5, y6, y7, y8, y9, y10⟩
  unfold pX6_greatestVerdict
  have y3 : pX1_read N 400 800 1500 f17 (upd f3 1 (nI n)) (va_cpy f2 f4 0 0 n) f8 f9 f10 f18 f19 f20 f21 = some (nI r.1, g17, g8, g9, g10, g18, g19, g20, g21) := y3
  rw [s_become (f0 := f3) (f1 := f4) h1 hn, bd2_s, y3, bd9_s]
/-- behind what was planted: both open anew -/
theorem pl_end {n : Nat} {a1 : Int32} (hN : 1000 < N) (hS : SmN n f1 f2 f25 f26) (h6 : Tp f6) (h9 : Tp f9) (h23 : Tp f23) (hT : Tl f5 f7 f37 f38) :
    ∃ (r : Int32) (f1' f2' f3' f4' f8' f9' f10' f17' f18' f19' f20' f21' f25' f26' f27' f28' f29' f30' f31' f32' f33' f34' f35' f36' : Nat → Int32), bd11 (pX6_greatestVerdict N f1 f2 f3 f4 f8 f9 f10 f17 f18 f19 f20 f21) (fun r_19 f3_20 f4_21 f8_22 f9_23 f10_24 f17_25 f18_26 f19_27 f20_28 f21_29 => some (r_19, f1, f2, f3_20, f4_21, f8_22, f9_23, f10_24, f17_25, f18_26, f19_27, f20_28, f21_29)) = some (r, f1', f2', f3', f4', f8', f9', f10', f17', f18', f19', f20', f21') ∧ bfX7_plant_228 N a1 l1 l2 f25 f26 f27 f28 f29 f30 f31 f32 f33 f34 f35 f36 = some (r, f25', f26', f27', f28', f29', f30', f31', f32', f33', f34', f35', f36') ∧ Iv f1' f2' f5 f6 f7 f9' f23 f25' f26' f37 f38 := by
  obtain ⟨b, hS2⟩ := SmN_b hS
  obtain ⟨r, g3, g4, g8, g9, g10, g17, g18, g19, g20, g21, x25, x27, x28, x29, x30, x31, x32, x33, x34, x35, x36, y1, y2, y3, y4, y5, y6, y7, -⟩ := both_gv (N := N) (l1 := l1) (l2 := l2) (f3 := f3) (f4 := f4) (f8 := f8) (f10 := f10) (f17 := f17) (f18 := f18) (f19 := f19) (f20 := f20) (f21 := f21) (f27 := f27) (f28 := f28) (f29 := f29) (f30 := f30) (f31 := f31) (f32 := f32) (f33 := f33) (f34 := f34) (f35 := f35) (f36 := f36) hN hS2 h9
  unfold bfX7_plant_228
  rw [y3, bd11_s, y5, bd11_s, y7]
  obtain ⟨hn, hbb, h1, h2, h25, h26⟩ := hS2
  exact ⟨_, _, _, _, _, _, _, _, _, _, _, _, _, _, _, _, _, _, _, _, _, _, _, _, _, rfl, rfl, ⟨n, b, hn, hbb, h1, h2, y6, h26⟩, h6, y4, h23, hT⟩
theorem pl_38 {n w : Nat} {b : Nat → Nat} (hN : 1000 < N) (hw : w = 1 ∨ w = 2 ∨ w = 3 ∨ w = 4 ∨ w = 5 ∨ w = 7) (hw5 : w = 5 → n < 160) (hS : Sm n b f1 f2 f25 f26) (h6 : Tp f6) (h9 : Tp f9) (h23 : Tp f23) (hT : Tl f5 f7 f37 f38) :
    ∃ (r : Int32) (f1' f2' f3' f4' f8' f9' f10' f17' f18' f19' f20' f21' f25' f26' f27' f28' f29' f30' f31' f32' f33' f34' f35' f36' : Nat → Int32), bfX6_plant_38 N (nI w) f1 f2 f3 f4 f8 f9 f10 f17 f18 f19 f20 f21 = some (r, f1', f2', f3', f4', f8', f9', f10', f17', f18', f19', f20', f21') ∧ bfX7_plant_37 N (nI w) l1 l2 f25 f26 f27 f28 f29 f30 f31 f32 f33 f34 f35 f36 = some (r, f25', f26', f27', f28', f29', f30', f31', f32', f33', f34', f35', f36') ∧ Iv f1' f2' f5 f6 f7 f9' f23 f25' f26' f37 f38 := by
  obtain ⟨r, g3, g4, g8, g9, g10, g17, g18, g19, g20, g21, x25, x27, x28, x29, x30, x31, x32, x33, x34, x35, x36, y1, y2, y3, y4, y5, y6, y7, y8, y9, y10⟩ := both_gv (N := N) (l1 := l1) (l2 := l2) (f3 := f3) (f4 := f4) (f8 := f8) (f10 := f10) (f17 := f17) (f18 := f18) (f19 := f19) (f20 := f20) (f21 := f21) (f27 := f27) (f28 := f28) (f29 := f29) (f30 := f30) (f31 := f31) (f32 := f32) (f33 := f33) (f34 := f34) (f35 := f35) (f36 := f36) hN hS h9
  obtain ⟨hn, hbb, h1, h2, h25, h26⟩ := id hS
  unfold bfX6_plant_38 bfX7_plant_37
  rw [y3, bd11_s, y5, bd11_s]
  have hz : (nI r.1 = 0) = (r.1 = 0) := by rw [k0, neq (by omega) (by omega)]
  have hIv : Iv f1 f2 f5 f6 f7 g9 f23 x25 f26 f37 f38 := ⟨⟨n, b, hn, hbb, h1, h2, y6, h26⟩, h6, y4, h23, hT⟩
  by_cases c0 : r.1 = 0
  · rw [if_pos (show nI r.1 = 0 by rw [c0]; rfl)]
    obtain ⟨⟨s1, s2⟩, ⟨s3, s4⟩, ⟨s5, s6⟩⟩ := sp_scan (n := n) (b := b) hn c0 (n + 1) N 0 0 0 n n [] 1 0 (-1) (-1) (-1) (0, fun _ => 0, 0, 0, 0, 0) y1 (by omega) ⟨Nat.le_refl _, fun x hx => by cases hx⟩ (Or.inl rfl) (Or.inl rfl) (Or.inl rfl)
    have hfx : ∀ s, fx (-1) s = s := fun s => if_pos rfl
    rw [hfx] at s1 s3 s5
    have hn1 : 0 + 1 ≤ n := sp_lim (k := n + 1) y1 c0
    have hls : ∀ q, q < 6 → pX6_leastPlace N (nI q) f1 f2 = some (scn n b q N 0) := fun q hq => x_least (N := N) h1 hn hbb h2 hq N 0 0 (Nat.le_refl _) (by omega) (by omega) (by omega)
    have x16 : x25 16 = 0 := by rw [y7, c0]; rfl
    have e1 : nI n - 1 = nI (n - 1) := by rw [k1, nsub (by omega)]
    unfold pX6_plantInSound pX5_count
    rw [bd1_s, lt_x, h1, e1]
    -- what is common to the three items
    have hitem : ∀ (x : Int32) (v : Nat) (w2 w26 : Int32), v < 256 → (∀ p, x = nI p → p + 1 < n → w2 = nI v ∧ w26 = nI v) → Pk n x → x ≠ -1 → ∃ p, x + 1 = nI (p + 1) ∧ p + 1 < n ∧ SmN n f1 (upd f2 (p + 1) w2) x25 (upd f26 (p + 1) w26) := by
      intro x v w2 w26 hv hw2 hx hx1
      rcases hx with hx | ⟨p, rfl, hp⟩
      · exact absurd hx hx1
      · obtain ⟨q1, q2⟩ := hw2 p rfl hp
        refine ⟨p, nI_1 p, hp, hn, h1, y6, fun i hi => ?_⟩
        by_cases ci : i = p + 1
        · subst ci; exact ⟨v, hv, by rw [us, q1], by rw [us, q2]⟩
        · rw [un ci, un ci]; exact ⟨b i, hbb i hi, h2 i hi, h26 i hi⟩
    rcases hw with rfl | rfl | rfl | rfl | rfl | rfl
    · -- 1 CUT
      rw [if_pos (show nI 1 = 1 from rfl), s_keep h1 hn (show n - 1 < n by omega), bd1_s, bd3_s, if_neg (show ¬ (1 : Int32) = 0 by decide)]
      rw [if_neg (show ¬ nI 1 = 2 by decide), if_neg (show ¬ nI 1 = 3 by decide), if_neg (show ¬ nI 1 = 7 by decide)]
      unfold bfX7_plant_88
      rw [if_pos x16, if_neg (show ¬ (0 : Int32) = -1 by decide), if_pos (show nI 1 = 1 from rfl), lt_x, y6, e1]
      exact pl_end (n := n - 1) hN ⟨by omega, us, us, fun i hi => ⟨b i, hbb i (by omega), h2 i (by omega), h26 i (by omega)⟩⟩ h6 y4 h23 hT
    · -- 2 LIE
      have hl : pX6_leastPlace N 4 f1 f2 = some (scn n b 4 N 0) := hls 4 (by omega)
      rw [if_neg (show ¬ nI 2 = 1 by decide), if_pos (show nI 2 = 2 from rfl), if_pos (show nI 2 = 2 from rfl)]
      unfold bfX7_plant_88 pX6_plantInItem
      rw [if_pos x16, y8, hl, bd1_s, s1]
      by_cases cx : r.2.2.2.2.2.2.2.2.1 = -1
      · rw [if_pos cx, if_pos cx, bd2_s, show zb_ 0 = true from rfl, gz_t, bd3_s, if_pos rfl]
        exact ⟨_, _, _, _, _, _, _, _, _, _, _, _, _, _, _, _, _, _, _, _, _, _, _, _, _, rfl, rfl, hIv⟩
      · rw [if_neg cx, if_neg cx, lt_x, if_pos (show nI 2 = 2 from rfl), if_neg (show ¬ nI 2 = 1 by decide), if_pos (show nI 2 = 2 from rfl)]
        rcases s2 with hx | ⟨p, hx, hp⟩
        · exact absurd hx cx
        · rw [hx, nI_1, s_at h1 hn hp, bd1_s, s_chg h1 hn hp, bd1_s, bd2_s, show zb_ 1 = true from rfl, gz_t, bd3_s, if_neg (show ¬ (1 : Int32) = 0 by decide), gi_ok (by omega) (by omega), gi_ok (by omega) (by omega), lt_x, ncl (by omega), h2 (p + 1) hp, h26 (p + 1) hp, nI_1, and255 (by have := hbb (p + 1) hp; omega)]
          refine pl_end (n := n) hN ⟨hn, h1, y6, fun i hi => ?_⟩ h6 y4 h23 hT
          by_cases ci : i = p + 1
          · subst ci; exact ⟨_, Nat.mod_lt _ (by omega), us, us⟩
          · rw [un ci, un ci]; exact ⟨b i, hbb i hi, h2 i hi, h26 i hi⟩
    · -- 3 BACK
      have hl : pX6_leastPlace N 2 f1 f2 = some (scn n b 2 N 0) := hls 2 (by omega)
      rw [if_neg (show ¬ nI 3 = 1 by decide), if_neg (show ¬ nI 3 = 2 by decide), if_pos (show nI 3 = 3 from rfl), if_neg (show ¬ nI 3 = 2 by decide), if_pos (show nI 3 = 3 from rfl)]
      unfold bfX7_plant_88 pX6_plantInItem
      rw [if_pos x16, y9, hl, bd1_s, s3]
      by_cases cx : r.2.2.2.2.2.2.2.2.2.1 = -1
      · rw [if_pos cx, if_pos cx, bd2_s, show zb_ 0 = true from rfl, gz_t, bd3_s, if_pos rfl]
        exact ⟨_, _, _, _, _, _, _, _, _, _, _, _, _, _, _, _, _, _, _, _, _, _, _, _, _, rfl, rfl, hIv⟩
      · rw [if_neg cx, if_neg cx, lt_x, if_neg (show ¬ nI 3 = 2 by decide), if_pos (show nI 3 = 3 from rfl), if_neg (show ¬ nI 3 = 1 by decide), if_neg (show ¬ nI 3 = 2 by decide), if_pos (show nI 3 = 3 from rfl)]
        rcases s4 with hx | ⟨p, hx, hp⟩
        · exact absurd hx cx
        · unfold bfX6_plantInItem_68
          rw [hx, nI_1, s_chg h1 hn hp, bd1_s, bd2_s, show zb_ 1 = true from rfl, gz_t, bd3_s, if_neg (show ¬ (1 : Int32) = 0 by decide), gi_ok (by omega) (by omega), lt_x, ncl (by omega)]
          refine pl_end (n := n) hN ⟨hn, h1, y6, fun i hi => ?_⟩ h6 y4 h23 hT
          by_cases ci : i = p + 1
          · subst ci; exact ⟨255, by omega, us, us⟩
          · rw [un ci, un ci]; exact ⟨b i, hbb i hi, h2 i hi, h26 i hi⟩
    · -- 4 SUM
      rw [if_neg (show ¬ nI 4 = 1 by decide), if_neg (show ¬ nI 4 = 2 by decide), if_neg (show ¬ nI 4 = 3 by decide), if_pos (show nI 4 = 4 from rfl), if_neg (show ¬ nI 4 = 2 by decide), if_neg (show ¬ nI 4 = 3 by decide), if_neg (show ¬ nI 4 = 7 by decide)]
      unfold bfX7_plant_88
      rw [if_pos x16, if_neg (show ¬ (0 : Int32) = -1 by decide), if_neg (show ¬ nI 4 = 1 by decide), if_neg (show ¬ nI 4 = 2 by decide), if_neg (show ¬ nI 4 = 3 by decide), if_pos (show nI 4 = 4 from rfl), y6, e1, gi_ok (by omega) (by omega), gi_ok (by omega) (by omega), lt_x, ncl (by omega), s_at h1 hn (show n - 1 < n by omega), bd1_s, s_chg h1 hn (show n - 1 < n by omega), bd1_s, bd3_s, if_neg (show ¬ (1 : Int32) = 0 by decide), h2 (n - 1) (by omega), h26 (n - 1) (by omega)]
      refine pl_end (n := n) hN ⟨hn, h1, y6, fun i hi => ?_⟩ h6 y4 h23 hT
      by_cases ci : i = n - 1
      · subst ci
        obtain ⟨j, hj, ej⟩ := xor1 (hbb (n - 1) (by omega))
        exact ⟨j, hj, by rw [us, ej], by rw [us, ej]⟩
      · rw [un ci, un ci]; exact ⟨b i, hbb i hi, h2 i hi, h26 i hi⟩
    · -- 5 MORE
      have hn5 := hw5 rfl
      obtain ⟨q1, q2, q25, q26, z1, z2, z3, -⟩ := both_app (l1 := l1) (l2 := l2) (v := 7) (n := n) (f1 := f1) (f2 := f2) (f25 := x25) (f26 := f26) (SmN_of ⟨hn, hbb, h1, h2, y6, h26⟩) hn5 (by omega)
      have z1 : pX5_append 7 f1 f2 = some (q1, q2) := z1
      have z2 : pX7_lay 7 x25 l1 l2 f26 = some (q25, q26) := z2
      rw [if_neg (show ¬ nI 5 = 1 by decide), if_neg (show ¬ nI 5 = 2 by decide), if_neg (show ¬ nI 5 = 3 by decide), if_neg (show ¬ nI 5 = 4 by decide), if_pos (show nI 5 = 5 from rfl), if_neg (show ¬ nI 5 = 2 by decide), if_neg (show ¬ nI 5 = 3 by decide), if_neg (show ¬ nI 5 = 7 by decide)]
      unfold bfX7_plant_88
      rw [if_pos x16, if_neg (show ¬ (0 : Int32) = -1 by decide), if_neg (show ¬ nI 5 = 1 by decide), if_neg (show ¬ nI 5 = 2 by decide), if_neg (show ¬ nI 5 = 3 by decide), if_neg (show ¬ nI 5 = 4 by decide), if_pos (show nI 5 = 5 from rfl), z1, z2, bd2_s, bd2_s, bd3_s, if_neg (show ¬ (1 : Int32) = 0 by decide)]
      exact pl_end hN z3 h6 y4 h23 hT
    · -- 7 NOT
      have hl : pX6_leastPlace N 3 f1 f2 = some (scn n b 3 N 0) := hls 3 (by omega)
      rw [if_neg (show ¬ nI 7 = 1 by decide), if_neg (show ¬ nI 7 = 2 by decide), if_neg (show ¬ nI 7 = 3 by decide), if_neg (show ¬ nI 7 = 4 by decide), if_neg (show ¬ nI 7 = 5 by decide), if_neg (show ¬ nI 7 = 2 by decide), if_neg (show ¬ nI 7 = 3 by decide), if_pos (show nI 7 = 7 from rfl)]
      unfold bfX7_plant_88 pX6_plantInItem
      rw [if_pos x16, y10, hl, bd1_s, s5]
      by_cases cx : r.2.2.2.2.2.2.2.2.2.2 = -1
      · rw [if_pos cx, if_pos cx, bd2_s, show zb_ 0 = true from rfl, gz_t, bd3_s, if_pos rfl]
        exact ⟨_, _, _, _, _, _, _, _, _, _, _, _, _, _, _, _, _, _, _, _, _, _, _, _, _, rfl, rfl, hIv⟩
      · rw [if_neg cx, if_neg cx, lt_x, if_neg (show ¬ nI 7 = 2 by decide), if_neg (show ¬ nI 7 = 3 by decide), if_neg (show ¬ nI 7 = 1 by decide), if_neg (show ¬ nI 7 = 2 by decide), if_neg (show ¬ nI 7 = 3 by decide), if_neg (show ¬ nI 7 = 4 by decide), if_neg (show ¬ nI 7 = 5 by decide)]
        rcases s6 with hx | ⟨p, hx, hp⟩
        · exact absurd hx cx
        · unfold bfX6_plantInItem_68
          rw [hx, nI_1, s_chg h1 hn hp, bd1_s, bd2_s, show zb_ 1 = true from rfl, gz_t, bd3_s, if_neg (show ¬ (1 : Int32) = 0 by decide), gi_ok (by omega) (by omega), lt_x, ncl (by omega)]
          refine pl_end (n := n) hN ⟨hn, h1, y6, fun i hi => ?_⟩ h6 y4 h23 hT
          by_cases ci : i = p + 1
          · subst ci; exact ⟨0, by omega, us, us⟩
          · rw [un ci, un ci]; exact ⟨b i, hbb i hi, h2 i hi, h26 i hi⟩
  · have x16 : ¬ x25 16 = 0 := by rw [y7, hz]; exact c0
    have h88 : ∀ s0, bfX7_plant_88 N (nI w) l1 l2 s0 x25 f26 x27 x28 x29 x30 x31 x32 x33 x34 x35 x36 = some (-4, x25, f26, x27, x28, x29, x30, x31, x32, x33, x34, x35, x36) := by
      intro s0
      unfold bfX7_plant_88
      rw [if_neg x16]
    rw [if_neg (by rw [hz]; exact c0), h88, h88, h88, h88, ite_self, ite_self, ite_self]
    exact ⟨_, _, _, _, _, _, _, _, _, _, _, _, _, _, _, _, _, _, _, _, _, _, _, _, _, rfl, rfl, hIv⟩
theorem s_plant {a1 : Int32} (hN : 1000 < N) (hI : Iv f1 f2 f5 f6 f7 f9 f23 f25 f26 f37 f38) : ∃ (r : Int32) (f1' f2' f3' f4' f8' f9' f10' f17' f18' f19' f20' f21' f25' f26' f27' f28' f29' f30' f31' f32' f33' f34' f35' f36' : Nat → Int32), pX6_plant N a1 f1 f2 f3 f4 f8 f9 f10 f17 f18 f19 f20 f21 = some (r, f1', f2', f3', f4', f8', f9', f10', f17', f18', f19', f20', f21') ∧ pX7_plant N a1 f25 l1 l2 f26 f27 f28 f29 f30 f31 f32 f33 f34 f35 f36 = some (r, f25', f26', f27', f28', f29', f30', f31', f32', f33', f34', f35', f36') ∧ Iv f1' f2' f5 f6 f7 f9' f23 f25' f26' f37 f38 := by
  have hI0 := hI
  obtain ⟨⟨n, b, hS⟩, h6, h9, h23, hT⟩ := hI
  obtain ⟨hn, hbb, h1, h2, h25, h26⟩ := id hS
  unfold pX6_plant pX7_plant pX7_in
  by_cases c1 : a1 < 1
  · rw [if_pos c1, if_pos c1, bd1_s, if_pos rfl]
    exact ⟨_, _, _, _, _, _, _, _, _, _, _, _, _, _, _, _, _, _, _, _, _, _, _, _, _, rfl, rfl, hI0⟩
  · rw [if_neg c1, if_neg c1]
    by_cases c2 : (7 : Int32) < a1
    · rw [if_pos c2, if_pos c2, bd1_s, if_pos rfl]
      exact ⟨_, _, _, _, _, _, _, _, _, _, _, _, _, _, _, _, _, _, _, _, _, _, _, _, _, rfl, rfl, hI0⟩
    · rw [if_neg c2, if_neg c2, bd1_s, if_neg (show ¬ (1 : Int32) = 0 by decide)]
      have c10 : ¬ a1 < 0 := fun h => c1 (Int32.lt_trans h (by decide))
      obtain ⟨w, hw, rfl⟩ := nn_of c10
      rw [k1, nlt hw (by omega)] at c1
      rw [k7, nlt (by omega) hw] at c2
      by_cases c6 : w = 6
      · subst c6
        rw [if_pos (show nI 6 = 6 from rfl), if_pos (show nI 6 = 6 from rfl)]
        exact ⟨_, _, _, _, _, _, _, _, _, _, _, _, _, _, _, _, _, _, _, _, _, _, _, _, _, rfl, rfl, hI0⟩
      · have c6' : ¬ nI w = 6 := by rw [k6, neq hw (by omega)]; exact c6
        rw [if_neg c6', if_neg c6']
        by_cases c5 : w = 5
        · subst c5
          rw [if_pos (show nI 5 = 5 from rfl), if_pos (show nI 5 = 5 from rfl), s_full h1 hn, bd1_s, h25]
          by_cases cn : n = 160
          · rw [if_pos cn, if_neg (show ¬ (1 : Int32) = 0 by decide), if_pos (show nI n = 160 by rw [cn]; rfl)]
            exact ⟨_, _, _, _, _, _, _, _, _, _, _, _, _, _, _, _, _, _, _, _, _, _, _, _, _, rfl, rfl, hI0⟩
          · rw [if_neg cn, if_pos rfl, if_neg (show ¬ nI n = 160 by rw [k160, neq (by omega) (by omega)]; exact cn)]
            exact pl_38 hN (by omega) (fun _ => by omega) hS h6 h9 h23 hT
        · have c5' : ¬ nI w = 5 := by rw [k5, neq hw (by omega)]; exact c5
          rw [if_neg c5', if_neg c5']
          exact pl_38 hN (by omega) (fun h => absurd h c5) hS h6 h9 h23 hT
end PLANT
