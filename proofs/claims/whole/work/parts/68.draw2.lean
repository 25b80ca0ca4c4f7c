/-! ===== PURE PART 33: draw: copies, items done again, ends ===== -/
theorem and255x (x : Int32) : ∃ k, k < 256 ∧ x &&& 255 = nI k := by
  refine ⟨x.toBitVec.toNat % 256, Nat.mod_lt _ (by omega), ?_⟩
  apply Int32.toBitVec_inj.mp
  apply BitVec.eq_of_toNat_eq
  show (x.toBitVec &&& (BitVec.ofNat 32 255)).toNat = (BitVec.ofNat 32 (x.toBitVec.toNat % 256)).toNat
  rw [BitVec.toNat_and, BitVec.toNat_ofNat, BitVec.toNat_ofNat]
  have e2 : x.toBitVec.toNat % 256 % 2 ^ 32 = x.toBitVec.toNat % 256 := Nat.mod_eq_of_lt (by omega)
  rw [e2]
  exact Nat.and_two_pow_sub_one_eq_mod _ 8
theorem cpR_1 {row : Nat → Int32} {t d : Nat} (a : Nat) : cpR (upd row t (row (t - d))) (t + 1) d a = cpR row t d (a + 1) := by
  have := cpR_add (row := row) (t := t) (d := d) (a := 1) a
  rw [Nat.add_comm 1 a] at this
  exact this
theorem cpR_per {row : Nat → Int32} {t0 m0 : Nat} (hm : 1 ≤ m0) : ∀ (k i : Nat), i < m0 + k → cpR row (t0 + m0) m0 k (t0 + i) = row (t0 + i % m0) := by
  intro k
  induction k with
  | zero => intro i hi; rw [Nat.mod_eq_of_lt (by omega)]; rfl
  | succ k ih =>
    intro i hi
    show upd (cpR row (t0 + m0) m0 k) (t0 + m0 + k) (cpR row (t0 + m0) m0 k (t0 + m0 + k - m0)) (t0 + i) = _
    by_cases c : i = m0 + k
    · subst c
      rw [show t0 + (m0 + k) = t0 + m0 + k by omega, us, show t0 + m0 + k - m0 = t0 + k by omega, ih k (by omega), Nat.add_mod_left]
    · rw [un (by omega), ih i (by omega)]
section COPIES
variable {N d base : Nat} {a1 a2 : Int32} {l31 l32 : Int64} {f0 f1 f2 f4 f5 f6 f7 : Nat → Int32}
theorem m_gives2 {t : Nat} {f3 f8 : Nat → Int32} {v : Int32} (h3 : f0 2 = nI d) (h4 : f2 d = nI base) (h5 : f3 d = nI (t - base)) (h6 : base ≤ t) (h7 : d < 6) (ht : t < 2000) : pX7_gives v f0 l31 l32 f2 f3 f8 = some (upd f3 d (nI (t + 1 - base)), upd f8 t v) := by
  unfold pX7_gives
  have e : nI base + nI (t - base) = nI t := by rw [nI_add]; congr 1; omega
  rw [h3, gi_ok h7 (by omega), gi_ok h7 (by omega), ncl (by omega), h4, h5, e, gi_ok ht (by omega), lt_x, gi_ok h7 (by omega), gi_ok h7 (by omega), lt_x, ncl (by omega), nI_1, show t - base + 1 = t + 1 - base by omega]
theorem m_copy_loop {c far : Nat} (h3 : f0 2 = nI d) (h4 : f2 d = nI base) (h7 : d < 6) (hc : c < 100) : ∀ (m j t : Nat) (f3 f8 : Nat → Int32), f3 d = nI (t - base) → base ≤ t → far + 1 ≤ t → t + (c - j) ≤ 800 → j ≤ c → c - j < m →
    ∃ x3, bfX7_drawItem_93 N a1 a2 l31 m (nI c) (nI far) (nI j) f0 l32 f1 f2 f3 f4 f5 f6 f7 f8 = some (f0, l32, f1, f2, x3, f4, f5, f6, f7, cpR f8 t (far + 1) (c - j)) ∧ x3 d = nI (t + (c - j) - base) ∧ ∀ i, i ≠ d → x3 i = f3 i := by
  intro m
  induction m with
  | zero => intro j t f3 f8 _ _ _ _ _ h; omega
  | succ m ih =>
    intro j t f3 f8 h5 h6 hf ht hj hm
    show ∃ x3, bFX7_drawItem_93 N a1 a2 l31 (bfX7_drawItem_93 N a1 a2 l31 m) (nI c) (nI far) (nI j) f0 l32 f1 f2 f3 f4 f5 f6 f7 f8 = _ ∧ _
    unfold bFX7_drawItem_93
    by_cases cj : c ≤ j
    · rw [if_pos (nI_le cj (by omega)), show c - j = 0 by omega]
      exact ⟨f3, rfl, h5, fun _ _ => rfl⟩
    · rw [if_neg (nI_ge (by omega) (by omega))]
      have e : nI base + nI (t - base) = nI t := by rw [nI_add]; congr 1; omega
      rw [h3, gi_ok h7 (by omega), gi_ok h7 (by omega), ncl (by omega), h4, h5, e, nsub (by omega), k1, nsub (by omega), gi_ok (by omega) (by omega), ncl (by omega), m_gives2 h3 h4 h5 h6 h7 (by omega), bd2_s, lt_x, nI_add]
      obtain ⟨x3, q1, q2, q3⟩ := ih (j + 1) (t + 1) (upd f3 d (nI (t + 1 - base))) (upd f8 t (f8 (t - far - 1))) us (by omega) (by omega) (by omega) (by omega) (by omega)
      refine ⟨x3, ?_, ?_, fun i hi => by rw [q3 i hi, un hi]⟩
      · rw [q1, show t - far - 1 = t - (far + 1) by omega, cpR_1, show c - (j + 1) + 1 = c - j by omega]
      · rw [q2]; congr 1; omega
theorem m_again_loop {ti t0 m0 c t1 : Nat} {row : Nat → Int32} (h3 : f0 2 = nI d) (h4 : f2 d = nI base) (h7 : d < 6) (hm0 : 1 ≤ m0) (hti : 1 ≤ ti) (hc : c = (ti - 1) * m0) (hb : base ≤ t0) (e1 : t1 = t0 + m0) (ht : t1 + c ≤ 800) : ∀ (m k : Nat) (f3 : Nat → Int32), f3 d = nI (t1 + k - base) → k ≤ c → c - k < m →
    ∃ x3, bfX7_drawItem_218 N a1 a2 l31 m (nI ti) (nI t0) (nI m0) (nI k) f0 l32 f1 f2 f3 f4 f5 f6 f7 (cpR row t1 m0 k) = some (f0, l32, f1, f2, x3, f4, f5, f6, f7, cpR row t1 m0 c) ∧ x3 d = nI (t1 + c - base) ∧ ∀ i, i ≠ d → x3 i = f3 i := by
  intro m
  induction m with
  | zero => intro k f3 _ _ h; omega
  | succ m ih =>
    intro k f3 h5 hk hm
    show ∃ x3, bFX7_drawItem_218 N a1 a2 l31 (bfX7_drawItem_218 N a1 a2 l31 m) (nI ti) (nI t0) (nI m0) (nI k) f0 l32 f1 f2 f3 f4 f5 f6 f7 (cpR row t1 m0 k) = _ ∧ _
    unfold bFX7_drawItem_218
    have e2 : (nI ti - 1) * nI m0 = nI c := by rw [k1, nsub hti, pk_mul, hc]
    rw [e2]
    by_cases ck : c ≤ k
    · rw [if_pos (nI_le ck (by omega)), show k = c by omega]
      exact ⟨f3, rfl, by rw [h5]; congr 1; omega, fun _ _ => rfl⟩
    · have hnz : decide (¬ nI m0 = 0) = true := by
        apply decide_eq_true
        intro e
        have := (nI_eq (a := m0) (b := 0) (by omega) (by omega)).mp e
        omega
      have hmd : k % m0 < m0 := Nat.mod_lt _ (by omega)
      have er : nI k - nI k / nI m0 * nI m0 = nI (k % m0) := pk_rem (by omega) (by omega) (by omega)
      rw [if_neg (nI_ge (by omega) (by omega)), hnz, gz_t, er, nI_add, gi_ok (by omega) (by omega), ncl (by omega), m_gives2 (t := t1 + k) h3 h4 h5 (by omega) h7 (by omega), bd2_s, lt_x, nI_1]
      obtain ⟨x3, q1, q2, q3⟩ := ih (k + 1) (upd f3 d (nI (t1 + k + 1 - base))) us (by omega) (by omega)
      refine ⟨x3, ?_, q2, fun i hi => by rw [q3 i hi, un hi]⟩
      have e3 : upd (cpR row t1 m0 k) (t1 + k) (cpR row t1 m0 k (t0 + k % m0)) = cpR row t1 m0 (k + 1) := by
        show _ = upd (cpR row t1 m0 k) (t1 + k) (cpR row t1 m0 k (t1 + k - m0))
        rw [show t1 + k - m0 = t0 + k by omega, e1, cpR_per hm0 k k (by omega), cpR_per hm0 k (k % m0) (by omega), Nat.mod_mod]
      rw [e3, q1]
end COPIES
section ITEMS
variable {N d base : Nat} {l31 : Int64} {f2 fc : Nat → Int32} {so a2 : Int32}
/-- a COPY item -/
theorem d_copy {n t v3 : Nat} {l l32 : Int64} {c1 c2 c3 c4 f0 f1 f3 f4 f5 f6 f7 f8 : Nat → Int32} (hN : 1000 < N) (hg : 1 ≤ t - base) (hn : n + 2 ≤ 160) (ht : t + 7 ≤ 800) (hS : SmN n c1 c2 f0 f1) (hR : Rw t d base c3 c4 f0 f2 f3 f8) (hl : l = l31 + l32 * KK) :
    ∃ c l' g1 g2 g3 g4 x0 l32' x1 x3 x8, 2 ≤ c ∧ c ≤ 7 ∧ pX2_drawCopy N (nI (t - base)) fc l c1 c2 c3 c4 = some (l', g1, g2, g3, g4) ∧ bfX7_drawItem_17 N so a2 l31 (nI v3) f0 l32 f1 f2 f3 f4 f5 f6 f7 f8 = some (x0, l32', x1, f2, x3, f4, f5, f6, f7, x8) ∧ DO (n + 2) (t + c) d base l31 f2 f3 l' g1 g2 g3 g4 x0 l32' x1 x3 x8 := by
  have hR0 := hR
  obtain ⟨h1, h2, h3, h4, h5, h6, h7⟩ := hR
  unfold pX2_drawCopy bfX7_drawItem_17
  obtain ⟨k, la, lb, hk, e1, e2, e3⟩ := both_pick (f0 := fc) (g0 := f0) (n := 6) (by omega) (by omega) hl
  have e1 : pX2_pick 6 fc l = some (nI k, la) := e1
  have e2 : pX7_pick 6 f0 l31 l32 = some (nI k, lb) := e2
  obtain ⟨q, hq0, hq1, hq2, hq3, hq4⟩ : ∃ q, 0 < q ∧ q ≤ 256 ∧ q ≤ t - base ∧ (if (256 : Int32) < nI (t - base) then (256 : Int32) else nI (t - base)) = nI q ∧ (256 ≤ t - base → q = 256) ∧ (t - base < 256 → q = t - base) := by
    have nq := nlt (a := 256) (b := t - base) (by omega) (by omega)
    by_cases c : 256 < t - base
    · exact ⟨256, by omega, by omega, by omega, if_pos (nq.mpr c), fun _ => rfl, fun h => by omega⟩
    · exact ⟨t - base, by omega, by omega, by omega, if_neg (fun h => c (nq.mp h)), fun h => by omega, fun _ => rfl⟩
  obtain ⟨far, lc, ld, hfar, e4, e5, e6⟩ := both_pick (f0 := fc) (g0 := f0) (n := q) hq0 hq1 e3
  obtain ⟨y1, y2, y0, y26, a4, a5, a6, -, -, a7, -⟩ := both_app (l1 := l31) (l2 := ld) (v := 64 + k) hS (by omega) (by omega)
  obtain ⟨z1, z2, z0, z26, b4, b5, b6, -, -, b7, -⟩ := both_app (l1 := l31) (l2 := ld) (v := far) a6 (by omega) (by omega)
  have hR2 : Rw t d base c3 c4 z0 f2 f3 f8 := by rw [b7, a7]; exact Rw_u (Rw_u hR0)
  obtain ⟨g0, r1, r2⟩ := r_copy (N := N) (d := far + 1) (c := 2 + k) (f0 := c3) (f1 := c4) (by omega) h1 (by omega) (by omega) (by omega)
  obtain ⟨x3, s1, s2, s3⟩ := m_copy_loop (N := N) (a1 := so) (a2 := a2) (l31 := l31) (l32 := ld) (f1 := z26) (f4 := f4) (f5 := f5) (f6 := f6) (f7 := f7) (c := 2 + k) (far := far) hR2.2.2.1 h4 h7 (by omega) N 0 t f3 f8 h5 h6 (by omega) (by omega) (by omega) (by omega)
  have s1 : bfX7_drawItem_93 N so a2 l31 N (nI (2 + k)) (nI far) 0 z0 ld z26 f2 f3 f4 f5 f6 f7 f8 = some (z0, ld, z26, f2, x3, f4, f5, f6, f7, cpR f8 t (far + 1) (2 + k)) := s1
  refine ⟨2 + k, lc, z1, z2, g0, cpR c4 t (far + 1) (2 + k), z0, ld, z26, x3, cpR f8 t (far + 1) (2 + k), by omega, by omega, ?_, ?_, b6, ?_, e6, s3⟩
  · rw [e1, bd2_s, hq3, e4, bd2_s, k64, nI_add, a4, bd2_s, b4, bd2_s, nI_1, k2, nI_add, r1, bd2_s]
  · have h70 : ∀ (s : Int32), s = nI q → bfX7_drawItem_70 N so a2 l31 (nI (2 + k)) s f0 lb f1 f2 f3 f4 f5 f6 f7 f8 = some (z0, ld, z26, f2, x3, f4, f5, f6, f7, cpR f8 t (far + 1) (2 + k)) := by
      intro s hs
      unfold bfX7_drawItem_70
      rw [hs, e5, bd2_s, k62, nI_add, show 62 + (2 + k) = 64 + k by omega, a5, bd2_s, b5, bd2_s, s1]
    rw [h3, gi_ok h7 (by omega), ncl (by omega), h5, if_neg (nI_nle (by omega) (by omega)), e2, bd2_s, lt_x, k2, nI_add, gi_ok h7 (by omega)]
    have nq : ((256 : Int32) ≤ nI (t - base)) = (256 ≤ t - base) := nle (a := 256) (b := t - base) (by omega) (by omega)
    by_cases c : 256 ≤ t - base
    · rw [if_pos (nq.mpr c)]
      exact h70 256 (by rw [hq4.1 c]; rfl)
    · rw [if_neg (fun h => c (nq.mp h)), gi_ok h7 (by omega)]
      exact h70 _ (by rw [hq4.2 (by omega)])
  · exact ⟨r2, fun i hi => cpR_c (by omega) (by omega) h2 (2 + k) i hi, hR2.2.2.1, h4, s2, by omega, h7⟩
/-- an item done again and again -/
theorem d_again {n t : Nat} {l l32 : Int64} {c1 c2 c3 c4 f0 f1 f3 f4 f5 f6 f7 f8 : Nat → Int32} (hN : 1000 < N) (hso : fc 3 = so) (hn : n + 7 ≤ 160) (ht : t + 25 ≤ 800) (hS : SmN n c1 c2 f0 f1) (hR : Rw t d base c3 c4 f0 f2 f3 f8) (hl : l = l31 + l32 * KK) :
    ∃ c tt l' g1 g2 g3 g4 x0 l32' x1 x3 x8, 1 ≤ c ∧ c ≤ 5 ∧ t ≤ tt ∧ tt ≤ t + 5 * c ∧ pX2_drawAgain N fc l c1 c2 c3 c4 = some (l', g1, g2, g3, g4) ∧ bfX7_drawItem_142 N so a2 l31 5 f0 l32 f1 f2 f3 f4 f5 f6 f7 f8 = some (x0, l32', x1, f2, x3, f4, f5, f6, f7, x8) ∧ DO (n + 2 + c) tt d base l31 f2 f3 l' g1 g2 g3 g4 x0 l32' x1 x3 x8 := by
  have hR0 := hR
  obtain ⟨h1, h2, h3, h4, h5, h6, h7⟩ := hR
  unfold pX2_drawAgain bfX7_drawItem_142
  rw [if_pos rfl]
  obtain ⟨k, la, lb, hk, e1, e2, e3⟩ := both_pick (f0 := fc) (g0 := f0) (n := 4) (by omega) (by omega) hl
  have e1 : pX2_pick 4 fc l = some (nI k, la) := e1
  have e2 : pX7_pick 4 f0 l31 l32 = some (nI k, lb) := e2
  obtain ⟨y1, y2, y0, y26, a4, a5, a6, -, -, a7, -⟩ := both_app (l1 := l31) (l2 := lb) (v := 128 + k) hS (by omega) (by omega)
  have hR2 : Rw t d base c3 c4 y0 f2 f3 f8 := by rw [a7]; exact Rw_u hR0
  obtain ⟨c, lc, z1, z2, z3, z4, w0, ld, w1, w3, w8, hc1, hc2, p1, p2, p3, p4, p5, p6⟩ := d_raw (N := N) (so := so) (n := n + 1) (t := t) (d := d) (base := base) hN hso (by omega) (by omega) a6 hR2 e3
  obtain ⟨i1, i2, i3, i4, i5, i6, i7⟩ := p4
  have hcm : c * (1 + k) ≤ c * 4 := Nat.mul_le_mul_left _ (by omega)
  have hcm2 : c * (1 + k) = (1 + k) * c := Nat.mul_comm _ _
  obtain ⟨g0, r1, r2⟩ := r_copy (N := N) (d := c) (c := c * (1 + k)) (f0 := z3) (f1 := z4) (by omega) i1 (by omega) (by omega) (by omega)
  obtain ⟨x3, s1, s2, s3⟩ := m_again_loop (N := N) (a1 := so) (a2 := a2) (l31 := l31) (l32 := ld) (f1 := w1) (f4 := f4) (f5 := f5) (f6 := f6) (f7 := f7) (ti := 2 + k) (t0 := t) (m0 := c) (c := c * (1 + k)) (t1 := t + c) (row := w8) i3 i4 i7 hc1 (by omega) (by rw [hcm2, show 2 + k - 1 = 1 + k by omega]) h6 rfl (by omega) N 0 w3 (by rw [i5]; rfl) (by omega) (by omega)
  have s1 : bfX7_drawItem_218 N so a2 l31 N (nI (2 + k)) (nI t) (nI c) 0 w0 ld w1 f2 w3 f4 f5 f6 f7 w8 = some (w0, ld, w1, f2, x3, f4, f5, f6, f7, cpR w8 (t + c) c (c * (1 + k))) := s1
  refine ⟨c, t + c + c * (1 + k), lc, z1, z2, g0, cpR z4 (t + c) c (c * (1 + k)), w0, ld, w1, x3, cpR w8 (t + c) c (c * (1 + k)), hc1, hc2, by omega, by omega, ?_, ?_, ?_, ?_, p5, fun j hj => by rw [s3 j hj, p6 j hj]⟩
  · unfold pX4_top
    rw [e1, bd2_s, k128, nI_add, a4, bd2_s, bd1_s, p1, bd5_s, bd1_s, i1, h1, lt_x, nsub (by omega), show t + c - t = c by omega, x_times (by omega), bd1_s, show 128 + k - 127 = 1 + k by omega, pk_mul, r1, bd2_s]
  · have e : nI base + nI (t - base) = nI t := by rw [nI_add]; congr 1; omega
    have e' : nI base + nI (t + c - base) = nI (t + c) := by rw [nI_add]; congr 1; omega
    rw [e2, bd2_s, lt_x, h3, gi_ok h7 (by omega), gi_ok h7 (by omega), lt_x, k2, nI_add, k126, nI_add, show 126 + (2 + k) = 128 + k by omega, a5, bd2_s, p2, bd5_s, i3, gi_ok h7 (by omega), gi_ok h7 (by omega), lt_x, ncl (by omega), h4, h5, e, i5, e', nsub (by omega), show t + c - t = c by omega, s1]
  · rw [show n + 2 + c = n + 1 + 1 + c by omega]; exact p3
  · exact ⟨r2, fun i hi => cpR_c (by omega) (by omega) i2 _ i hi, i3, i4, s2, by omega, h7⟩
end ITEMS
section ENDS
variable {N d base : Nat} {l31 l32 : Int64} {f2 f6 f8 : Nat → Int32}
/-- what the reference does at an end once it has the sum -/
def mEnd (l31 l32 : Int64) (f6 f0 f1 f3 : Nat → Int32) (v : Int32) : Option ((Nat → Int32) × (Nat → Int32) × (Nat → Int32)) := bd2 (pX7_lay (0 : Int32) f0 l31 l32 f1) (fun f0_3 f1_4 => bd2 (pX7_lay (v &&& (255 : Int32)) f0_3 l31 l32 f1_4) (fun f0_6 f1_7 => if (f0_6 2) ≤ 0 then lt_ (upd f0_6 2 ((f0_6 2) - (1 : Int32))) (fun f0_10 => some (f0_10, f1_7, f3)) else gi_ (f0_6 2) 6 (gi_ (f0_6 2) 6 (gi_ (f6 (f0_6 2).toNatClampNeg) 160 (lt_ (upd f1_7 (f6 (f0_6 2).toNatClampNeg).toNatClampNeg (((f0_6 1) - (f6 (f0_6 2).toNatClampNeg)) - (1 : Int32))) (fun f1_14 => gi_ ((f0_6 2) - (1 : Int32)) 6 (gi_ (f0_6 2) 6 (gi_ ((f0_6 2) - (1 : Int32)) 6 (lt_ (upd f3 ((f0_6 2) - (1 : Int32)).toNatClampNeg ((f3 ((f0_6 2) - (1 : Int32)).toNatClampNeg) + (f3 (f0_6 2).toNatClampNeg))) (fun f3_18 => lt_ (upd f0_6 2 ((f0_6 2) - (1 : Int32))) (fun f0_19 => some (f0_19, f1_14, f3_18))))))))))))
theorem m_end_loop {t : Nat} {f0 f1 f3 : Nat → Int32} (h3 : f0 2 = nI d) (h4 : f2 d = nI base) (h7 : d < 6) (h5 : f3 d = nI (t - base)) (h6 : base ≤ t) (ht : t ≤ 800) : ∀ (m j : Nat) (s : Int32), j ≤ t - base → t - base - j < m → bfX7_drawEnd_4 N l31 l32 f2 f6 f8 m s (nI j) f0 f1 f3 = mEnd l31 l32 f6 f0 f1 f3 (s + smR f8 (base + j) (t - base - j)) := by
  intro m
  induction m with
  | zero => intro j s _ h; omega
  | succ m ih =>
    intro j s hj hm
    show bFX7_drawEnd_4 N l31 l32 f2 f6 f8 (bfX7_drawEnd_4 N l31 l32 f2 f6 f8 m) s (nI j) f0 f1 f3 = _
    unfold bFX7_drawEnd_4
    rw [h3, gi_ok h7 (by omega), ncl (by omega), h5]
    by_cases c : t - base ≤ j
    · rw [if_pos (nI_le c (by omega)), show t - base - j = 0 by omega, show s + smR f8 (base + j) 0 = s from Int32.add_zero s]
      rfl
    · rw [if_neg (nI_ge (by omega) (by omega)), gi_ok h7 (by omega), h4, nI_add, gi_ok (by omega) (by omega), ncl (by omega), lt_x, lt_x, nI_1, ih (j + 1) _ (by omega) (by omega), show t - base - j = t - base - (j + 1) + 1 by omega, smR_s, Int32.add_assoc]
      rfl
theorem d_end {n t : Nat} {a1 : Int32} {rp : Int32 → (Nat → Int32) → Int64 → (Nat → Int32) → (Nat → Int32) → (Nat → Int32) → (Nat → Int32) → Option (Int64 × (Nat → Int32) × (Nat → Int32) × (Nat → Int32) × (Nat → Int32))} {l : Int64} {fc c1 c2 c3 c4 f0 f1 f3 : Nat → Int32} (hN : 1000 < N) (hn : n + 2 ≤ 160) (ht : t ≤ 800) (hS : SmN n c1 c2 f0 f1) (hR : Rw t d base c3 c4 f0 f2 f3 f8) :
    ∃ g1 g2 x0 x1 v, bfX2_drawPack_52 N rp a1 fc (nI base) l c1 c2 c3 c4 = some (l, g1, g2, c3, c4) ∧ SmN (n + 2) g1 g2 x0 x1 ∧ x0 2 = nI d ∧ pX7_drawEnd N f0 l31 l32 f1 f2 f3 f6 f8 = mEnd l31 l32 f6 f0 f1 f3 v ∧ ∃ y0 y1, pX7_lay 0 f0 l31 l32 f1 = some (y0, y1) ∧ pX7_lay (v &&& 255) y0 l31 l32 y1 = some (x0, x1) := by
  obtain ⟨h1, h2, h3, h4, h5, h6, h7⟩ := hR
  have hsum : smR f8 base (t - base) = smR c4 base (t - base) := smR_c (fun j _ hj => (h2 j (by omega)).symm)
  obtain ⟨k, hk, e0⟩ := and255x (smR c4 base (t - base))
  obtain ⟨y1, y2, y0, y26, a4, a5, a6, -, -, a7, -⟩ := both_app (l1 := l31) (l2 := l32) (v := 0) hS (by omega) (by omega)
  obtain ⟨z1, z2, z0, z26, b4, b5, b6, -, -, b7, -⟩ := both_app (l1 := l31) (l2 := l32) (v := k) a6 (by omega) (by omega)
  have a4 : pX5_append 0 c1 c2 = some (y1, y2) := a4
  have a5 : pX7_lay 0 f0 l31 l32 f1 = some (y0, y26) := a5
  refine ⟨z1, z2, z0, z26, smR c4 base (t - base), ?_, b6, ?_, ?_, y0, y26, a5, ?_⟩
  · unfold bfX2_drawPack_52 pX2_drawEnd
    rw [a4, bd2_s, r_sum h1 ht h6 (by omega), bd1_s, e0, b4, bd2_s, bd2_s]
  · rw [b7, a7, un (by decide), un (by decide), h3]
  · unfold pX7_drawEnd
    have := m_end_loop (N := N) (l31 := l31) (l32 := l32) (f6 := f6) (f8 := f8) (f1 := f1) h3 h4 h7 h5 h6 ht N 0 0 (by omega) (by omega)
    rw [Int32.zero_add, Nat.add_zero, Nat.sub_zero, hsum] at this
    exact this
  · rw [e0]; exact b5
theorem mEnd_0 {f0 f1 f3 x0 x1 y0 y1 : Nat → Int32} {v : Int32} (h1 : pX7_lay 0 f0 l31 l32 f1 = some (y0, y1)) (h2 : pX7_lay (v &&& 255) y0 l31 l32 y1 = some (x0, x1)) (h3 : x0 2 = nI 0) : mEnd l31 l32 f6 f0 f1 f3 v = some (upd x0 2 (-1), x1, f3) := by
  unfold mEnd
  rw [h1, bd2_s, h2, bd2_s, h3, if_pos (by decide), lt_x]
  rfl
theorem mEnd_s {e np q : Nat} {f0 f1 f3 x0 x1 y0 y1 : Nat → Int32} {v : Int32} (h1 : pX7_lay 0 f0 l31 l32 f1 = some (y0, y1)) (h2 : pX7_lay (v &&& 255) y0 l31 l32 y1 = some (x0, x1)) (h3 : x0 2 = nI (e + 1)) (he : e + 1 < 6) (h4 : x0 1 = nI q) (h6 : f6 (e + 1) = nI np) (hnp : np < 160) (hq : np + 1 ≤ q) : mEnd l31 l32 f6 f0 f1 f3 v = some (upd x0 2 (nI e), upd x1 np (nI (q - np - 1)), upd f3 e (f3 e + f3 (e + 1))) := by
  unfold mEnd
  have e1 : nI (e + 1) - 1 = nI e := by rw [k1, nsub (by omega)]; rfl
  have e2 : nI q - nI np - 1 = nI (q - np - 1) := by rw [nsub (by omega), k1, nsub (by omega)]
  rw [h1, bd2_s, h2, bd2_s, h3, if_neg (nI_nle (by omega) (by omega)), gi_ok he (by omega), gi_ok he (by omega), ncl (by omega), h6, gi_ok hnp (by omega), ncl (by omega), h4, e2, e1, lt_x, gi_ok (by omega) (by omega), gi_ok he (by omega), gi_ok (by omega) (by omega), ncl (by omega), lt_x, lt_x]
end ENDS
