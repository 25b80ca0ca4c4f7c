/-! ===== PURE PART 32: draw: picking, laying and giving bytes ===== -/
abbrev KK : Int64 := -7046029254386353131
def shc (x : Int64) (k : Int32) : Int64 := (x.toUInt64 >>> (k.toInt64.toUInt64 &&& Int64.toUInt64 63)).toInt64
theorem shr33 (x : Int64) : ∃ k, k < 2 ^ 31 ∧ shc x 33 = lN k := by
  unfold shc
  have hs : ((33 : Int32).toInt64.toUInt64 &&& Int64.toUInt64 63).toNat = 33 := by decide
  refine ⟨(x.toUInt64 >>> ((33 : Int32).toInt64.toUInt64 &&& Int64.toUInt64 63)).toNat, ?_, ?_⟩
  · rw [UInt64.toNat_shiftRight, hs, Nat.shiftRight_eq_div_pow]
    have := x.toUInt64.toNat_lt
    show x.toUInt64.toNat / 2 ^ 33 < 2 ^ 31
    omega
  · apply Int64.toBitVec_inj.mp
    apply BitVec.eq_of_toNat_eq
    show (x.toUInt64 >>> ((33 : Int32).toInt64.toUInt64 &&& Int64.toUInt64 63)).toNat = (BitVec.ofNat 64 _).toNat
    rw [BitVec.toNat_ofNat, Nat.mod_eq_of_lt (UInt64.toNat_lt _)]
def mxA (z : Int64) : Int64 := (z ^^^ shc z 30) * (-4658895280553007687 : Int64)
def mxB (z : Int64) : Int64 := (z ^^^ shc z 27) * (-7723592293110705685 : Int64)
def mxC (z : Int64) : Int64 := z ^^^ shc z 31
def rdc (x : Int64) (a : Int32) : Int32 := (shc x 33 - shc x 33 / a.toInt64 * a.toInt64).toInt32
theorem pick_c {a : Int32} {f0 : Nat → Int32} {l : Int64} : pX2_pick a f0 l = if a ≤ 0 then some (0, l + KK) else gz_ (decide (¬ a.toInt64 = 0)) (some (rdc (mxC (mxB (mxA (l + KK)))) a, l + KK)) := rfl
theorem pick_m {a : Int32} {f0 : Nat → Int32} {l31 l32 : Int64} : pX7_pick a f0 l31 l32 = gz_ (decide (¬ a.toInt64 = 0)) (some (rdc (mxC (mxB (mxA (l31 + (l32 + 1) * KK)))) a, l32 + 1)) := rfl
/-- what a state picks -/
theorem pick_r (x : Int64) {n : Nat} (h0 : 0 < n) (hn : n ≤ 256) : ∃ k, k < n ∧ rdc x (nI n) = nI k := by
  obtain ⟨z, hz, e⟩ := shr33 x
  refine ⟨z % n, Nat.mod_lt _ h0, ?_⟩
  unfold rdc
  rw [e, nI_l (by omega), pk_lRem (by omega) h0 (by omega), lN_i]
theorem both_pick {f0 g0 : Nat → Int32} {l l31 l32 : Int64} {n : Nat} (h0 : 0 < n) (hn : n ≤ 256) (hl : l = l31 + l32 * KK) :
    ∃ k l' l32', k < n ∧ pX2_pick (nI n) f0 l = some (nI k, l') ∧ pX7_pick (nI n) g0 l31 l32 = some (nI k, l32') ∧ l' = l31 + l32' * KK := by
  have hl2 : l + KK = l31 + (l32 + 1) * KK := by rw [hl, Int64.add_mul, Int64.one_mul, Int64.add_assoc]
  have hnz : decide (¬ (nI n).toInt64 = 0) = true := by
    apply decide_eq_true
    rw [nI_l (by omega)]
    intro e
    have := (lN_eq (a := n) (b := 0) (by omega) (by omega)).mp e
    omega
  obtain ⟨k, hk, e⟩ := pick_r (mxC (mxB (mxA (l31 + (l32 + 1) * KK)))) h0 hn
  refine ⟨k, l31 + (l32 + 1) * KK, l32 + 1, hk, ?_, ?_, rfl⟩
  · rw [pick_c, hl2, if_neg (nI_nle h0 (by omega)), hnz, gz_t, e]
  · rw [pick_m, hnz, gz_t, e]
/-- the rows of class and reference: t bytes, of which the innermost open pack gave those from base on -/
def Rw (t d base : Nat) (c3 c4 f0 f2 f3 f8 : Nat → Int32) : Prop := c3 1 = nI t ∧ (∀ i, i < t → c4 i = f8 i) ∧ f0 2 = nI d ∧ f2 d = nI base ∧ f3 d = nI (t - base) ∧ base ≤ t ∧ d < 6
theorem Rw_u {t d base : Nat} {c3 c4 f0 f2 f3 f8 : Nat → Int32} {x : Int32} (h : Rw t d base c3 c4 f0 f2 f3 f8) : Rw t d base c3 c4 (upd f0 1 x) f2 f3 f8 := ⟨h.1, h.2.1, by rw [un (by decide)]; exact h.2.2.1, h.2.2.2⟩
section GIVES2
variable {l31 l32 : Int64}
theorem m_gives {t d base : Nat} {c3 c4 f0 f2 f3 f8 : Nat → Int32} {v : Int32} (h : Rw t d base c3 c4 f0 f2 f3 f8) (ht : t < 2000) : pX7_gives v f0 l31 l32 f2 f3 f8 = some (upd f3 d (nI (t + 1 - base)), upd f8 t v) := by
  obtain ⟨h1, h2, h3, h4, h5, h6, h7⟩ := h
  unfold pX7_gives
  have e : nI base + nI (t - base) = nI t := by rw [nI_add]; congr 1; omega
  rw [h3, gi_ok h7 (by omega), gi_ok h7 (by omega), ncl (by omega), h4, h5, e, gi_ok ht (by omega), lt_x, gi_ok h7 (by omega), gi_ok h7 (by omega), lt_x, ncl (by omega), nI_1, show t - base + 1 = t + 1 - base by omega]
theorem both_push {t d base : Nat} {c3 c4 f0 f2 f3 f8 : Nat → Int32} {v : Int32} (h : Rw t d base c3 c4 f0 f2 f3 f8) (ht : t < 800) :
    ∃ g3 g4 x3 x8, pX4_push v c3 c4 = some (g3, g4) ∧ pX7_gives v f0 l31 l32 f2 f3 f8 = some (x3, x8) ∧ Rw (t + 1) d base g3 g4 f0 f2 x3 x8 ∧ ∀ j, j ≠ d → x3 j = f3 j := by
  refine ⟨_, _, _, _, r_push h.1 ht, m_gives h (by omega), ?_, fun j hj => un hj⟩
  obtain ⟨h1, h2, h3, h4, h5, h6, h7⟩ := h
  refine ⟨us, fun i hi => ?_, h3, h4, us, by omega, h7⟩
  by_cases ci : i = t
  · subst ci; rw [us, us]
  · rw [un ci, un ci, h2 i (by omega)]
end GIVES2
/-- what comes of laying and giving -/
def DO (n t d base : Nat) (l31 : Int64) (f2 f3 : Nat → Int32) (l' : Int64) (g1 g2 g3 g4 x0 : Nat → Int32) (l32' : Int64) (x1 x3 x8 : Nat → Int32) : Prop :=
  SmN n g1 g2 x0 x1 ∧ Rw t d base g3 g4 x0 f2 x3 x8 ∧ l' = l31 + l32' * KK ∧ ∀ j, j ≠ d → x3 j = f3 j
section BYTES
variable {N d base : Nat} {l31 : Int64} {f2 fc : Nat → Int32} {so : Int32}
theorem d_bytes_loop {c v2 : Nat} (hc : c < 100) (hv : v2 < 256) (hso : fc 3 = so) :
    ∀ (m j n t : Nat) (l l32 : Int64) (c1 c2 c3 c4 f0 f1 f3 f8 : Nat → Int32), j ≤ c → c - j < m → n + (c - j) ≤ 160 → t + (c - j) ≤ 800 → SmN n c1 c2 f0 f1 → Rw t d base c3 c4 f0 f2 f3 f8 → l = l31 + l32 * KK →
      ∃ l' g1 g2 g3 g4 x0 l32' x1 x3 x8, bfX2_drawBytes_22 N (nI c) fc m (nI v2) (nI j) l c1 c2 c3 c4 = some (l', g1, g2, g3, g4) ∧ bfX7_drawBytes_20 N (nI c) so l31 f2 m (nI v2) (nI j) f0 l32 f1 f3 f8 = some (x0, l32', x1, x3, x8) ∧ DO (n + (c - j)) (t + (c - j)) d base l31 f2 f3 l' g1 g2 g3 g4 x0 l32' x1 x3 x8 := by
  intro m
  induction m with
  | zero => intro j n t l l32 c1 c2 c3 c4 f0 f1 f3 f8 _ h; omega
  | succ m ih =>
    intro j n t l l32 c1 c2 c3 c4 f0 f1 f3 f8 hj hm hn ht hS hR hl
    show ∃ l' g1 g2 g3 g4 x0 l32' x1 x3 x8, bFX2_drawBytes_22 N (nI c) fc (bfX2_drawBytes_22 N (nI c) fc m) (nI v2) (nI j) l c1 c2 c3 c4 = _ ∧ bFX7_drawBytes_20 N (nI c) so l31 f2 (bfX7_drawBytes_20 N (nI c) so l31 f2 m) (nI v2) (nI j) f0 l32 f1 f3 f8 = _ ∧ _
    unfold bFX2_drawBytes_22 bFX7_drawBytes_20
    rw [hso]
    by_cases cj : c ≤ j
    · rw [if_pos (nI_le cj (by omega)), if_pos (nI_le cj (by omega))]
      rw [show c - j = 0 by omega]
      exact ⟨_, _, _, _, _, _, _, _, _, _, rfl, rfl, hS, hR, hl, fun _ _ => rfl⟩
    · rw [if_neg (nI_ge (by omega) (by omega)), if_neg (nI_ge (by omega) (by omega))]
      -- one byte v, from a state of the picking
      have one : ∀ (v : Nat) (la lb : Int64), v < 256 → la = l31 + lb * KK → ∃ l' g1 g2 g3 g4 x0 l32' x1 x3 x8, bfX2_drawBytes_67 N (nI c) fc (bfX2_drawBytes_22 N (nI c) fc m) (nI v2) (nI j) (nI v) la c1 c2 c3 c4 = some (l', g1, g2, g3, g4) ∧ bfX7_drawBytes_57 N (nI c) so l31 f2 (bfX7_drawBytes_20 N (nI c) so l31 f2 m) (nI v2) (nI j) (nI v) f0 lb f1 f3 f8 = some (x0, l32', x1, x3, x8) ∧ DO (n + (c - j)) (t + (c - j)) d base l31 f2 f3 l' g1 g2 g3 g4 x0 l32' x1 x3 x8 := by
        intro v la lb hv hla
        obtain ⟨y1, y2, y0, y26, e1, e2, e3, -, -, e4, -⟩ := both_app (l1 := l31) (l2 := lb) (v := v) hS (by omega) hv
        have hR2 : Rw t d base c3 c4 y0 f2 f3 f8 := by rw [e4]; exact Rw_u hR
        obtain ⟨z3, z4, w3, w8, e5, e6, e7, e8⟩ := both_push (l31 := l31) (l32 := lb) (v := nI v) hR2 (by omega)
        unfold bfX2_drawBytes_67 bfX7_drawBytes_57
        rw [e1, bd2_s, e5, bd2_s, lt_x, e2, bd2_s, e6, bd2_s, lt_x, nI_1]
        obtain ⟨l', g1, g2, g3, g4, x0, l32', x1, x3, x8, q1, q2, q3, q4, q5, q6⟩ := ih (j + 1) (n + 1) (t + 1) la lb y1 y2 z3 z4 y0 y26 w3 w8 (by omega) (by omega) (by omega) (by omega) e3 e7 hla
        rw [show n + 1 + (c - (j + 1)) = n + (c - j) by omega] at q3
        rw [show t + 1 + (c - (j + 1)) = t + (c - j) by omega] at q4
        exact ⟨l', g1, g2, g3, g4, x0, l32', x1, x3, x8, q1, q2, q3, q4, q5, fun j hj => by rw [q6 j hj, e8 j hj]⟩
      by_cases s0 : so = 0
      · rw [if_pos s0, if_pos s0]
        obtain ⟨k, la, lb, hk, e1, e2, e3⟩ := both_pick (f0 := fc) (g0 := f0) (n := 256) (by omega) (by omega) hl
        have e1 : pX2_pick 256 fc l = some (nI k, la) := e1
        have e2 : pX7_pick 256 f0 l31 l32 = some (nI k, lb) := e2
        rw [e1, e2, bd2_s, bd2_s]
        exact one k la lb hk e3
      · rw [if_neg s0, if_neg s0]
        by_cases s1 : so = 1
        · rw [if_pos s1, if_pos s1]
          obtain ⟨k, la, lb, hk, e1, e2, e3⟩ := both_pick (f0 := fc) (g0 := f0) (n := 3) (by omega) (by omega) hl
          have e1 : pX2_pick 3 fc l = some (nI k, la) := e1
          have e2 : pX7_pick 3 f0 l31 l32 = some (nI k, lb) := e2
          rw [e1, e2, bd2_s, bd2_s, lt_x, show (97 : Int32) = nI 97 from rfl, nI_add]
          exact one (97 + k) la lb (by omega) e3
        · rw [if_neg s1, if_neg s1]
          exact one v2 l l32 hv hl
theorem d_bytes {c n t : Nat} {l l32 : Int64} {c1 c2 c3 c4 f0 f1 f3 f8 : Nat → Int32} (hN : 1000 < N) (hc : c < 100) (hso : fc 3 = so) (hn : n + c ≤ 160) (ht : t + c ≤ 800) (hS : SmN n c1 c2 f0 f1) (hR : Rw t d base c3 c4 f0 f2 f3 f8) (hl : l = l31 + l32 * KK) :
    ∃ l' g1 g2 g3 g4 x0 l32' x1 x3 x8, pX2_drawBytes N (nI c) fc l c1 c2 c3 c4 = some (l', g1, g2, g3, g4) ∧ pX7_drawBytes N (nI c) so f0 l31 l32 f1 f2 f3 f8 = some (x0, l32', x1, x3, x8) ∧ DO (n + c) (t + c) d base l31 f2 f3 l' g1 g2 g3 g4 x0 l32' x1 x3 x8 := by
  unfold pX2_drawBytes pX7_drawBytes bfX2_drawBytes_19 bfX7_drawBytes_16
  rw [hso]
  by_cases s2 : so = 2
  · rw [if_pos s2, if_pos s2]
    obtain ⟨k, la, lb, hk, e1, e2, e3⟩ := both_pick (f0 := fc) (g0 := f0) (n := 256) (by omega) (by omega) hl
    have e1 : pX2_pick 256 fc l = some (nI k, la) := e1
    have e2 : pX7_pick 256 f0 l31 l32 = some (nI k, lb) := e2
    rw [e1, e2, bd2_s, bd2_s]
    exact d_bytes_loop (N := N) hc hk hso N 0 n t la lb c1 c2 c3 c4 f0 f1 f3 f8 (Nat.zero_le _) (by omega) hn ht hS hR e3
  · rw [if_neg s2, if_neg s2]
    exact d_bytes_loop (N := N) (v2 := 0) hc (by omega) hso N 0 n t l l32 c1 c2 c3 c4 f0 f1 f3 f8 (Nat.zero_le _) (by omega) hn ht hS hR hl
theorem d_raw {n t : Nat} {l l32 : Int64} {c1 c2 c3 c4 f0 f1 f3 f8 : Nat → Int32} (hN : 1000 < N) (hso : fc 3 = so) (hn : n + 6 ≤ 160) (ht : t + 5 ≤ 800) (hS : SmN n c1 c2 f0 f1) (hR : Rw t d base c3 c4 f0 f2 f3 f8) (hl : l = l31 + l32 * KK) :
    ∃ c l' g1 g2 g3 g4 x0 l32' x1 x3 x8, 1 ≤ c ∧ c ≤ 5 ∧ pX2_drawRaw N fc l c1 c2 c3 c4 = some (l', g1, g2, g3, g4) ∧ pX7_drawRaw N so f0 l31 l32 f1 f2 f3 f8 = some (x0, l32', x1, x3, x8) ∧ DO (n + 1 + c) (t + c) d base l31 f2 f3 l' g1 g2 g3 g4 x0 l32' x1 x3 x8 := by
  unfold pX2_drawRaw pX7_drawRaw
  obtain ⟨k, la, lb, hk, e1, e2, e3⟩ := both_pick (f0 := fc) (g0 := f0) (n := 5) (by omega) (by omega) hl
  have e1 : pX2_pick 5 fc l = some (nI k, la) := e1
  have e2 : pX7_pick 5 f0 l31 l32 = some (nI k, lb) := e2
  obtain ⟨y1, y2, y0, y26, e4, e5, e6, -, -, e7, -⟩ := both_app (l1 := l31) (l2 := lb) (v := 1 + k) hS (by omega) (by omega)
  rw [e1, e2, bd2_s, bd2_s, lt_x, lt_x, k1, nI_add, e4, e5, bd2_s, bd2_s]
  have hR2 : Rw t d base c3 c4 y0 f2 f3 f8 := by rw [e7]; exact Rw_u hR
  obtain ⟨l', g1, g2, g3, g4, x0, l32', x1, x3, x8, q1, q2, q3⟩ := d_bytes (N := N) (c := 1 + k) (so := so) (n := n + 1) (t := t) (d := d) (base := base) hN (by omega) hso (by omega) (by omega) e6 hR2 e3
  rw [q1, q2, bd5_s, bd5_s]
  exact ⟨1 + k, l', g1, g2, g3, g4, x0, l32', x1, x3, x8, by omega, by omega, rfl, rfl, q3⟩
/-- a WIDE item -/
theorem d_wide {n t : Nat} {l l32 : Int64} {c1 c2 c3 c4 f0 f1 f3 f4 f5 f6 f7 f8 : Nat → Int32} {a2 : Int32} (hN : 1000 < N) (hso : fc 3 = so) (hn : n + 8 ≤ 160) (ht : t + 5 ≤ 800) (hS : SmN n c1 c2 f0 f1) (hR : Rw t d base c3 c4 f0 f2 f3 f8) (hl : l = l31 + l32 * KK) :
    ∃ c l' g1 g2 g3 g4 x0 l32' x1 x3 x8, 1 ≤ c ∧ c ≤ 5 ∧ pX2_drawWide N fc l c1 c2 c3 c4 = some (l', g1, g2, g3, g4) ∧ bfX7_drawItem_328 N so a2 l31 7 f0 l32 f1 f2 f3 f4 f5 f6 f7 f8 = some (x0, l32', x1, f2, x3, f4, f5, f6, f7, x8) ∧ DO (n + 3 + c) (t + c) d base l31 f2 f3 l' g1 g2 g3 g4 x0 l32' x1 x3 x8 := by
  unfold pX2_drawWide bfX7_drawItem_328
  rw [if_pos rfl]
  obtain ⟨k, la, lb, hk, e1, e2, e3⟩ := both_pick (f0 := fc) (g0 := f0) (n := 5) (by omega) (by omega) hl
  have e1 : pX2_pick 5 fc l = some (nI k, la) := e1
  have e2 : pX7_pick 5 f0 l31 l32 = some (nI k, lb) := e2
  obtain ⟨y1, y2, y0, y26, a4, a5, a6, -, -, a7, -⟩ := both_app (l1 := l31) (l2 := lb) (v := 255) hS (by omega) (by omega)
  obtain ⟨z1, z2, z0, z26, b4, b5, b6, -, -, b7, -⟩ := both_app (l1 := l31) (l2 := lb) (v := 0) a6 (by omega) (by omega)
  obtain ⟨w1, w2, w0, w26, d4, d5, d6, -, -, d7, -⟩ := both_app (l1 := l31) (l2 := lb) (v := 1 + k) b6 (by omega) (by omega)
  have a4 : pX5_append 255 c1 c2 = some (y1, y2) := a4
  have a5 : pX7_lay 255 f0 l31 lb f1 = some (y0, y26) := a5
  have b4 : pX5_append 0 y1 y2 = some (z1, z2) := b4
  have b5 : pX7_lay 0 y0 l31 lb y26 = some (z0, z26) := b5
  rw [e1, e2, bd2_s, bd2_s, lt_x, lt_x, k1, nI_add, a4, a5, bd2_s, bd2_s, b4, b5, bd2_s, bd2_s, d4, d5, bd2_s, bd2_s]
  have hR2 : Rw t d base c3 c4 w0 f2 f3 f8 := by rw [d7, b7, a7]; exact Rw_u (Rw_u (Rw_u hR))
  obtain ⟨l', g1, g2, g3, g4, x0, l32', x1, x3, x8, q1, q2, q3⟩ := d_bytes (N := N) (c := 1 + k) (so := so) (n := n + 3) (t := t) (d := d) (base := base) hN (by omega) hso (by omega) (by omega) d6 hR2 e3
  rw [q1, q2, bd5_s, bd5_s]
  exact ⟨1 + k, l', g1, g2, g3, g4, x0, l32', x1, x3, x8, by omega, by omega, rfl, rfl, q3⟩
end BYTES
