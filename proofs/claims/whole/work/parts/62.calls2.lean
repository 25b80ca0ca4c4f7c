/-! ===== PURE PART 27: open, plain ===== -/
theorem tn0 : (0 : Int32).toNatClampNeg = 0 := ncl (a := 0) (by omega)
theorem tn1 : (1 : Int32).toNatClampNeg = 1 := ncl (a := 1) (by omega)
theorem tn2 : (2 : Int32).toNatClampNeg = 2 := ncl (a := 2) (by omega)
theorem tn3 : (3 : Int32).toNatClampNeg = 3 := ncl (a := 3) (by omega)
theorem tn4 : (4 : Int32).toNatClampNeg = 4 := ncl (a := 4) (by omega)
theorem tn5 : (5 : Int32).toNatClampNeg = 5 := ncl (a := 5) (by omega)
theorem tn6 : (6 : Int32).toNatClampNeg = 6 := ncl (a := 6) (by omega)
section OPENS
variable {N n ob hb sb : Nat} {b : Nat → Nat} {sv : Nat → Int32} {l1 l2 : Int64} {a1 a2 a3 : Int32}
theorem R_106 {f0 f1 f2 f3 f4 f5 f6 f7 f8 f9 f10 f11 f12 : Nat → Int32} {ou : Nat} (h3 : f3 0 = nI ou) (ho : ou ≤ 400) : ∀ (m j : Nat) (f13 : Nat → Int32), j ≤ ou → ou - j < m → ∃ g13, bfX7_open_106 N a1 a2 a3 l1 l2 f1 m (nI j) f0 f2 f3 f4 f5 f6 f7 f8 f9 f10 f11 f12 f13 = some ((if f0 16 = 0 then nI ou else -10 - f0 16), f0, f2, f3, f4, f5, f6, f7, f8, f9, f10, f11, f12, g13) ∧ (∀ i, j ≤ i → i < ou → g13 i = f8 i) ∧ (∀ i, i < j → g13 i = f13 i) := by
  intro m
  induction m with
  | zero => intro j f13 _ h; omega
  | succ m ih =>
    intro j f13 hj hm
    show ∃ g13, bFX7_open_106 N a1 a2 a3 l1 l2 f1 (bfX7_open_106 N a1 a2 a3 l1 l2 f1 m) (nI j) f0 f2 f3 f4 f5 f6 f7 f8 f9 f10 f11 f12 f13 = _ ∧ _
    unfold bFX7_open_106
    have g0 : ∀ {β : Type} {n : Nat} {k : Option β}, 0 < n → n < 2 ^ 31 → gi_ 0 n k = k := fun h1 h2 => gi_ok (i := 0) h1 h2
    rw [g0 (by omega) (by omega), g0 (by omega) (by omega), tn0, h3]
    have nq := nle (a := ou) (b := j) (by omega) (by omega)
    by_cases c : ou ≤ j
    · rw [if_pos (nq.mpr c)]
      refine ⟨f13, ?_, fun i h1 h2 => absurd h2 (by omega), fun i _ => rfl⟩
      by_cases cz : f0 16 = 0
      · rw [if_pos cz, if_pos cz]
      · rw [if_neg cz, if_neg cz]
    · rw [if_neg (fun h => c (nq.mp h)), gi_ok (by omega) (by omega), gi_ok (by omega) (by omega), lt_x, lt_x, nI_1, ncl (by omega)]
      obtain ⟨g13, e1, e2, e3⟩ := ih (j + 1) (upd f13 j (f8 j)) (by omega) (by omega)
      refine ⟨g13, e1, fun i h1 h2 => ?_, fun i h1 => ?_⟩
      · by_cases ci : i = j
        · subst ci; rw [e3 i (by omega), us]
        · exact e2 i (by omega) h2
      · rw [e3 i (by omega), un (by omega)]
/-- what the reference tells behind its run -/
theorem R_39 {r : Rz} {s2 : Int32} {f0 f1 f2 f3 f4 f5 f6 f7 f8 f9 f10 f11 f12 f13 : Nat → Int32} (hN : 1000 < N) (hF : Fm n ob hb sb r f0 f3 f8) : ∃ g12 g13, bfX7_open_39 N a1 a2 a3 l1 l2 f1 0 s2 f0 f2 f3 f4 f5 f6 f7 f8 f9 f10 f11 f12 f13 = some ((if f0 16 = 0 then nI r.2.2.2.2.1 else -10 - f0 16), f0, f2, f3, f4, f5, f6, f7, f8, f9, f10, f11, g12, g13) ∧
    g12 0 = s2 ∧ g12 1 = f0 17 ∧ g12 2 = f0 18 ∧ g12 3 = f0 20 ∧ g12 4 = nI r.2.2.2.2.1 ∧ g12 5 = f0 21 ∧ g12 6 = f0 22 ∧ ∀ i, i < r.2.2.2.2.1 → g13 i = f8 i := by
  obtain ⟨d, ag, pos, en, hd, hM, h3, h8, hk, ho, -⟩ := hF
  unfold bfX7_open_39
  have g0 : ∀ {β : Type} {n : Nat} {k : Option β}, 0 < n → n < 2 ^ 31 → gi_ 0 n k = k := fun h1 h2 => gi_ok (i := 0) h1 h2
  have g1 : ∀ {β : Type} {k : Option β}, gi_ 1 7 k = k := gi_ok (i := 1) (by omega) (by omega)
  have g2 : ∀ {β : Type} {k : Option β}, gi_ 2 7 k = k := gi_ok (i := 2) (by omega) (by omega)
  have g3 : ∀ {β : Type} {k : Option β}, gi_ 3 7 k = k := gi_ok (i := 3) (by omega) (by omega)
  have g4 : ∀ {β : Type} {k : Option β}, gi_ 4 7 k = k := gi_ok (i := 4) (by omega) (by omega)
  have g5 : ∀ {β : Type} {k : Option β}, gi_ 5 7 k = k := gi_ok (i := 5) (by omega) (by omega)
  have g6 : ∀ {β : Type} {k : Option β}, gi_ 6 7 k = k := gi_ok (i := 6) (by omega) (by omega)
  rw [g0 (by omega) (by omega), lt_x, g1, lt_x, g2, lt_x, g3, lt_x, g0 (by omega) (by omega), g4, lt_x, g5, lt_x, g6, lt_x, tn0, tn1, tn2, tn3, tn4, tn5, tn6, h3]
  obtain ⟨g13, e1, e2, e3⟩ := R_106 (N := N) (a1 := a1) (a2 := a2) (a3 := a3) (l1 := l1) (l2 := l2) (f0 := f0) (f1 := f1) (f2 := f2) (f4 := f4) (f5 := f5) (f6 := f6) (f7 := f7) (f8 := f8) (f9 := f9) (f10 := f10) (f11 := f11) (f12 := upd (upd (upd (upd (upd (upd (upd f12 0 s2) 1 (f0 17)) 2 (f0 18)) 3 (f0 20)) 4 (nI r.2.2.2.2.1)) 5 (f0 21)) 6 (f0 22)) h3 ho N 0 f13 (Nat.zero_le _) (by omega)
  rw [← k0] at e1
  refine ⟨_, g13, e1, ?_, ?_, ?_, ?_, ?_, ?_, ?_, fun i hi => e2 i (Nat.zero_le _) hi⟩ <;> simp [upd]
theorem R_open (hsb : ∀ i, i < n → sv i = nI (b i) ∧ b i < 256) (hN : 1000 < N) {f0 f1 f2 f3 f4 f5 f6 f7 f8 f9 f10 f11 f12 f13 row : Nat → Int32} (hn : n ≤ 160) (ho : ob ≤ 400) (hh : hb ≤ 800) (hs : sb ≤ 1500) (hB : pX7_isBound (nI ob) (nI hb) (nI sb) = some 1) (h1 : f0 1 = nI n) (hsv : ∀ i, i < n → f1 i = sv i) :
    ∃ r x0 x2 x3 x4 x5 x6 x7 x8 x9 x10 x11 x12 x13, spO sv b n ob hb sb row = some r ∧ pX7_open N (nI ob) (nI hb) (nI sb) f0 l1 l2 f1 f2 f3 f4 f5 f6 f7 f8 f9 f10 f11 f12 f13 = some ((if r.1 = 0 then nI r.2.2.2.2.1 else -10 - nI r.1), x0, x2, x3, x4, x5, x6, x7, x8, x9, x10, x11, x12, x13) ∧ x0 1 = nI n ∧
      x12 0 = (if r.1 = 0 then -1 else nI r.1) ∧ x12 1 = r.2.1 ∧ x12 2 = nI r.2.2.1 ∧ x12 3 = nI r.2.2.2.1 ∧ x12 4 = nI r.2.2.2.2.1 ∧ x12 5 = nI r.2.2.2.2.2.1 ∧ x12 6 = nI r.2.2.2.2.2.2.1 ∧ ∀ i, i < r.2.2.2.2.1 → x13 i = r.2.2.2.2.2.2.2.1 i := by
  obtain ⟨r, x0, x2, x3, x4, x5, x6, x7, x8, x9, x10, x11, e1, e2, e3⟩ := R_run (N := N) (l1 := l1) (l2 := l2) (f2 := f2) (f3 := f3) (f4 := f4) (f5 := f5) (f6 := f6) (f7 := f7) (f8 := f8) (f9 := f9) (f10 := f10) (f11 := f11) (row := row) hsb hN hn ho hh hs h1 hsv
  unfold pX7_open
  rw [hB, bd1_s, if_neg (show ¬ (1 : Int32) = 0 by decide), e2]
  obtain ⟨d, ag, pos, en, hd, hM, h3, h8, hk, ho2, -⟩ := id e3
  obtain ⟨m1, m2, m3, m4, m5, m6, m7, m8, m9, m10, m11, m12, m13⟩ := hM
  obtain ⟨g12, g13, y1, y2, y3, y4, y5, y6, y7, y8, y9⟩ := R_39 (N := N) (a1 := nI ob) (a2 := nI hb) (a3 := nI sb) (l1 := l1) (l2 := l2) (s2 := if r.1 = 0 then -1 else nI r.1) (f1 := f1) (f2 := x2) (f4 := x4) (f5 := x5) (f6 := x6) (f7 := x7) (f9 := x9) (f10 := x10) (f11 := x11) (f12 := f12) (f13 := f13) hN e3
  have hz : (x0 16 = 0) = (r.1 = 0) := by rw [m6, k0, neq (by omega) (by omega)]
  refine ⟨r, x0, x2, x3, x4, x5, x6, x7, x8, x9, x10, x11, g12, g13, e1, ?_, m1, y2, by rw [y3, m7], by rw [y4, m8], by rw [y5, m10], y6, by rw [y7, m11], by rw [y8, m12], fun i hi => by rw [y9 i hi, h8 i hi]⟩
  simp only [hz] at y1
  rw [m6] at y1
  show (if x0 16 = 0 then _ else _) = _
  by_cases cz : r.1 = 0
  · rw [if_pos (by rw [hz]; exact cz), if_pos cz]
    rw [if_pos cz, if_pos cz] at y1
    exact y1
  · rw [if_neg (by rw [hz]; exact cz), if_neg cz]
    show bfX7_open_39 N (nI ob) (nI hb) (nI sb) l1 l2 f1 0 (x0 16) x0 x2 x3 x4 x5 x6 x7 x8 x9 x10 x11 f12 f13 = _
    rw [m6]
    rw [if_neg cz, if_neg cz] at y1
    exact y1
theorem Fz_answer {r : Rz} {g3 g4 g5 : Nat → Int32} (hF : Fz g3 g4 g5 ob hb sb r) : pX0_answer g3 = some (if r.1 = 0 then nI r.2.2.2.2.1 else -10 - nI r.1) := by
  obtain ⟨hd, t, hA, ht, ht8, hk, hou, hrow⟩ := hF
  by_cases cz : r.1 = 0
  · rw [if_pos cz]
    rw [cz] at hA
    exact c_answer_0 hA
  · rw [if_neg cz]
    exact c_answer_1 (by omega) (by omega) hA
theorem Tl_of {r : Rz} {g3 g4 g5 x12 x13 : Nat → Int32} (hF : Fz g3 g4 g5 ob hb sb r) (t0 : x12 0 = (if r.1 = 0 then -1 else nI r.1)) (t1 : x12 1 = r.2.1) (t2 : x12 2 = nI r.2.2.1) (t3 : x12 3 = nI r.2.2.2.1) (t4 : x12 4 = nI r.2.2.2.2.1) (t5 : x12 5 = nI r.2.2.2.2.2.1) (t6 : x12 6 = nI r.2.2.2.2.2.2.1) (t7 : ∀ i, i < r.2.2.2.2.1 → x13 i = r.2.2.2.2.2.2.2.1 i) : Tl g3 g5 x12 x13 := by
  obtain ⟨hd, t, ⟨h1, h2, h3, h4, h5, h6, h7, h8, h9, h10, h11⟩, ht, ht8, hk, hou, hrow⟩ := hF
  exact ⟨r.1, r.2.2.2.2.1, hk, hou, h4, t0, t1.trans h5.symm, t2.trans h6.symm, t3.trans h8.symm, h9, t4, t5.trans h10.symm, t6.trans h11.symm, fun i hi => (hrow i hi).trans (t7 i hi).symm⟩
end OPENS
section OPENS2
variable {N : Nat} {f1 f2 f5 f6 f7 f9 f23 f25 f26 f27 f28 f29 f30 f31 f32 f33 f34 f35 f36 f37 f38 : Nat → Int32} {l25_31 l25_32 : Int64} {a1 a2 a3 : Int32}
theorem s_open {f11 f12 f13 f14 f15 : Nat → Int32} (hN : 1000 < N) (hI : Iv f1 f2 f5 f6 f7 f9 f23 f25 f26 f37 f38) : ∃ (r : Int32) (f5' f6' f7' f11' f12' f13' f14' f15' f25' f27' f28' f29' f30' f31' f32' f33' f34' f35' f36' f37' f38' : Nat → Int32), pX6_open N a1 a2 a3 f1 f2 f5 f6 f7 f11 f12 f13 f14 f15 = some (r, f5', f6', f7', f11', f12', f13', f14', f15') ∧ pX7_open N a1 a2 a3 f25 l25_31 l25_32 f26 f27 f28 f29 f30 f31 f32 f33 f34 f35 f36 f37 f38 = some (r, f25', f27', f28', f29', f30', f31', f32', f33', f34', f35', f36', f37', f38') ∧ Iv f1 f2 f5' f6' f7' f9 f23 f25' f26 f37' f38' := by
  have hI0 := hI
  obtain ⟨⟨n, b, hn, hb, h1, h2, h25, h26⟩, ⟨t6, ht6, e6⟩, hr9, hr23, hT⟩ := hI
  unfold pX6_open
  rcases bounds_cases a1 a2 a3 with e | ⟨e, ob, hb', sb, ho, hh, hs, rfl, rfl, rfl⟩
  · rw [e, bd1_s, if_pos rfl]
    unfold pX7_open
    rw [bounds_eq, e, bd1_s, if_pos rfl]
    exact ⟨_, _, _, _, _, _, _, _, _, _, _, _, _, _, _, _, _, _, _, _, _, _, rfl, rfl, hI0⟩
  · rw [e, bd1_s, if_neg (show ¬ (1 : Int32) = 0 by decide)]
    have hsv : ∀ i, i < n → (fun i => nI (b i)) i = nI (b i) ∧ b i < 256 := fun i hi => ⟨rfl, hb i hi⟩
    obtain ⟨r, g0, g3, g4, g5, g6, g7, g8, g9, y1, y2, y3⟩ := A_read (row := fun _ => 0) (f0 := f11) (f3 := f5) (f4 := f6) (f5 := f7) (f6 := f12) (f7 := f13) (f8 := f14) (f9 := f15) hsv hN hn ho hh hs h1 h2 e6 (by omega)
    obtain ⟨r2, x0, x2, x3, x4, x5, x6, x7, x8, x9, x10, x11, x12, x13, z1, z2, z3, z4, z5, z6, z7, z8, z9, z10, z11⟩ := R_open (row := fun _ => 0) (l1 := l25_31) (l2 := l25_32) (f2 := f27) (f3 := f28) (f4 := f29) (f5 := f30) (f6 := f31) (f7 := f32) (f8 := f33) (f9 := f34) (f10 := f35) (f11 := f36) (f12 := f37) (f13 := f38) hsv hN hn ho hh hs (by rw [bounds_eq, e]) h25 h26
    rw [y1] at z1
    injection z1 with z1
    subst z1
    obtain ⟨hd, t, hA, ht, ht8, -⟩ := id y3
    rw [y2]
    refine ⟨_, g3, g4, g5, g0, g6, g7, g8, g9, _, _, _, _, _, _, _, _, _, _, _, _, _, ?_, z2, ⟨⟨n, b, hn, hb, h1, h2, z3, h26⟩, ⟨t, ht8, ht⟩, hr9, hr23, Tl_of y3 z4 z5 z6 z7 z8 z9 z10 z11⟩⟩
    show bd1 (pX0_answer g3) _ = _
    rw [Fz_answer y3, bd1_s]
theorem s_plain {f16 : Nat → Int32} (hN : 1000 < N) (hI : Iv f1 f2 f5 f6 f7 f9 f23 f25 f26 f37 f38) : ∃ (r : Int32) (f5' f6' f7' f16' f25' f27' f28' f29' f30' f31' f32' f33' f34' f35' f36' f37' f38' : Nat → Int32), pX6_plain N a1 a2 a3 f1 f2 f5 f6 f7 f16 = some (r, f5', f6', f7', f16') ∧ pX7_plain N a1 a2 a3 f25 l25_31 l25_32 f26 f27 f28 f29 f30 f31 f32 f33 f34 f35 f36 f37 f38 = some (r, f25', f27', f28', f29', f30', f31', f32', f33', f34', f35', f36', f37', f38') ∧ Iv f1 f2 f5' f6' f7' f9 f23 f25' f26 f37' f38' := by
  have hI0 := hI
  obtain ⟨⟨n, b, hn, hb, h1, h2, h25, h26⟩, ⟨t6, ht6, e6⟩, hr9, hr23, hT⟩ := hI
  unfold pX6_plain pX7_plain
  rcases bounds_cases a1 a2 a3 with e | ⟨e, ob, hb', sb, ho, hh, hs, rfl, rfl, rfl⟩
  · rw [e, bd1_s, if_pos rfl]
    unfold pX7_open
    rw [bounds_eq, e, bd1_s, if_pos rfl]
    exact ⟨_, _, _, _, _, _, _, _, _, _, _, _, _, _, _, _, _, _, rfl, rfl, hI0⟩
  · rw [e, bd1_s, if_neg (show ¬ (1 : Int32) = 0 by decide)]
    have hsv : ∀ i, i < n → (fun i => nI (b i)) i = nI (b i) ∧ b i < 256 := fun i hi => ⟨rfl, hb i hi⟩
    obtain ⟨r, g0, g3, g4, g5, y1, y2, y3⟩ := P_read (row := fun _ => 0) (f0 := f16) (f3 := f5) (f4 := f6) (f5 := f7) hsv hN hn ho hh hs h1 h2 e6 (by omega)
    obtain ⟨r2, x0, x2, x3, x4, x5, x6, x7, x8, x9, x10, x11, x12, x13, z1, z2, z3, z4, z5, z6, z7, z8, z9, z10, z11⟩ := R_open (row := fun _ => 0) (l1 := l25_31) (l2 := l25_32) (f2 := f27) (f3 := f28) (f4 := f29) (f5 := f30) (f6 := f31) (f7 := f32) (f8 := f33) (f9 := f34) (f10 := f35) (f11 := f36) (f12 := f37) (f13 := f38) hsv hN hn ho hh hs (by rw [bounds_eq, e]) h25 h26
    rw [y1] at z1
    injection z1 with z1
    subst z1
    obtain ⟨hd, t, hA, ht, ht8, -⟩ := id y3
    rw [y2, bd4_s, Fz_answer y3, bd1_s, z2]
    exact ⟨_, g3, g4, g5, g0, _, _, _, _, _, _, _, _, _, _, _, _, _, rfl, rfl, ⟨⟨n, b, hn, hb, h1, h2, z3, h26⟩, ⟨t, ht8, ht⟩, hr9, hr23, Tl_of y3 z4 z5 z6 z7 z8 z9 z10 z11⟩⟩
end OPENS2
