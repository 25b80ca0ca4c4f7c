/-! ===== PURE PART 29: shorter ===== -/
theorem bd9_s {α1 α2 α3 α4 α5 α6 α7 α8 α9 β : Type} (x1 : α1) (x2 : α2) (x3 : α3) (x4 : α4) (x5 : α5) (x6 : α6) (x7 : α7) (x8 : α8) (x9 : α9) (k : α1 → α2 → α3 → α4 → α5 → α6 → α7 → α8 → α9 → Option β) : bd9 (some (x1, x2, x3, x4, x5, x6, x7, x8, x9)) k = k x1 x2 x3 x4 x5 x6 x7 x8 x9 := rfl
theorem bd11_s {α1 α2 α3 α4 α5 α6 α7 α8 α9 α10 α11 β : Type} (x1 : α1) (x2 : α2) (x3 : α3) (x4 : α4) (x5 : α5) (x6 : α6) (x7 : α7) (x8 : α8) (x9 : α9) (x10 : α10) (x11 : α11) (k : α1 → α2 → α3 → α4 → α5 → α6 → α7 → α8 → α9 → α10 → α11 → Option β) : bd11 (some (x1, x2, x3, x4, x5, x6, x7, x8, x9, x10, x11)) k = k x1 x2 x3 x4 x5 x6 x7 x8 x9 x10 x11 := rfl
theorem SmN_b {n : Nat} {f1 f2 f25 f26 : Nat → Int32} (h : SmN n f1 f2 f25 f26) : ∃ b, Sm n b f1 f2 f25 f26 := by
  obtain ⟨h0, h1, h25, h2⟩ := h
  have h3 : ∀ i, ∃ k, i < n → k < 256 ∧ f2 i = nI k ∧ f26 i = nI k := by
    intro i
    by_cases c : i < n
    · obtain ⟨k, hk⟩ := h2 i c; exact ⟨k, fun _ => hk⟩
    · exact ⟨0, fun hc => absurd hc c⟩
  exact ⟨fun i => Classical.choose (h3 i), h0, fun i hi => (Classical.choose_spec (h3 i) hi).1, h1, fun i hi => (Classical.choose_spec (h3 i) hi).2.1, h25, fun i hi => (Classical.choose_spec (h3 i) hi).2.2⟩
section SHORT
variable {N ob hb sb : Nat} {l1 l2 : Int64}
/-- both open the same stream: the same kind -/
theorem both_read {n : Nat} {b : Nat → Nat} {f3 f4 f8 f9 f10 f17 f18 f19 f20 f21 f25 f26 f27 f28 f29 f30 f31 f32 f33 f34 f35 f36 : Nat → Int32} (hN : 1000 < N) (hn : n ≤ 160) (ho : ob ≤ 400) (hh : hb ≤ 800) (hs : sb ≤ 1500) (hbb : ∀ i, i < n → b i < 256) (h3 : f3 1 = nI n) (h4 : ∀ i, i < n → f4 i = nI (b i)) (h9 : Tp f9) (h25 : f25 1 = nI n) (h26 : ∀ i, i < n → f26 i = nI (b i)) :
    ∃ (r : Rz) (g17 g8 g9 g10 g18 g19 g20 g21 x25 x27 x28 x29 x30 x31 x32 x33 x34 x35 x36 : Nat → Int32), spO (fun i => nI (b i)) b n ob hb sb (fun _ => 0) = some r ∧ r.1 ≤ 10 ∧ pX1_read N (nI ob) (nI hb) (nI sb) f17 f3 f4 f8 f9 f10 f18 f19 f20 f21 = some (nI r.1, g17, g8, g9, g10, g18, g19, g20, g21) ∧ Tp g9 ∧
      pX7_run N (nI ob) (nI hb) (nI sb) f25 l1 l2 f26 f27 f28 f29 f30 f31 f32 f33 f34 f35 f36 = some (x25, x27, x28, x29, x30, x31, x32, x33, x34, x35, x36) ∧ x25 1 = nI n ∧ x25 16 = nI r.1 ∧ x25 26 = r.2.2.2.2.2.2.2.2.1 ∧ x25 27 = r.2.2.2.2.2.2.2.2.2.1 ∧ x25 28 = r.2.2.2.2.2.2.2.2.2.2 := by
  have hsv : ∀ i, i < n → (fun i => nI (b i)) i = nI (b i) ∧ b i < 256 := fun i hi => ⟨rfl, hbb i hi⟩
  obtain ⟨t9, ht9, e9⟩ := h9
  obtain ⟨r, g0, g3, g4, g5, g6, g7, g8, g9, y1, y2, y3⟩ := A_read (row := fun _ => 0) (f0 := f17) (f3 := f8) (f4 := f9) (f5 := f10) (f6 := f18) (f7 := f19) (f8 := f20) (f9 := f21) hsv hN hn ho hh hs h3 h4 e9 (by omega)
  obtain ⟨r2, x0, x2, x3, x4, x5, x6, x7, x8, x9, x10, x11, z1, z2, z3⟩ := R_run (N := N) (l1 := l1) (l2 := l2) (f2 := f27) (f3 := f28) (f4 := f29) (f5 := f30) (f6 := f31) (f7 := f32) (f8 := f33) (f9 := f34) (f10 := f35) (f11 := f36) (row := fun _ => 0) hsv hN hn ho hh hs h25 h26
  rw [y1] at z1
  injection z1 with z1
  subst z1
  obtain ⟨hd, t, hA, ht, ht8, hk, -⟩ := y3
  obtain ⟨d, ag, pos, en, hd2, ⟨m1, m2, m3, m4, m5, m6, m7, m8, m9, m10, m11, m12, m13, m14, m15, m16, m17, m18⟩, -⟩ := z3
  exact ⟨r, g0, g3, g4, g5, g6, g7, g8, g9, x0, x2, x3, x4, x5, x6, x7, x8, x9, x10, x11, y1, hk, y2, ⟨t, ht8, ht⟩, z2, m1, m6, m16, m17, m18⟩
section SHIFT
variable {a1 a2 a3 v4 v5 v6 v7 : Int32} {f0 f2 f3 f4 f5 f6 f7 f8 f9 f10 f11 : Nat → Int32} {rc31 : Int32 → Int32 → Int32 → (Nat → Int32) → (Nat → Int32) → (Nat → Int32) → (Nat → Int32) → (Nat → Int32) → (Nat → Int32) → (Nat → Int32) → (Nat → Int32) → (Nat → Int32) → (Nat → Int32) → (Nat → Int32) → (Nat → Int32) → Option (Int32 × (Nat → Int32) × (Nat → Int32) × (Nat → Int32) × (Nat → Int32) × (Nat → Int32) × (Nat → Int32) × (Nat → Int32) × (Nat → Int32) × (Nat → Int32) × (Nat → Int32) × (Nat → Int32) × (Nat → Int32))}
theorem R_63 {sz : Nat} (hsz : sz < 160) (h0 : f0 1 = nI sz) : ∀ (m k : Nat) (f1 : Nat → Int32), k ≤ sz → sz - k < m → ∃ m2 g, bfX7_shorter_63 N a1 a2 a3 l1 l2 rc31 m v4 v5 v6 v7 (nI k) f0 f1 f2 f3 f4 f5 f6 f7 f8 f9 f10 f11 = bfX7_shorter_63 N a1 a2 a3 l1 l2 rc31 (m2 + 1) v4 v5 v6 v7 (nI sz) f0 g f2 f3 f4 f5 f6 f7 f8 f9 f10 f11 ∧ ∀ i, g i = if k ≤ i ∧ i < sz then f1 (i + 1) else f1 i := by
  intro m
  induction m with
  | zero => intro k f1 _ h; omega
  | succ m ih =>
    intro k f1 hk hm
    by_cases c : k = sz
    · subst c
      exact ⟨m, f1, rfl, fun i => by rw [if_neg (by omega)]⟩
    · have e1 : bfX7_shorter_63 N a1 a2 a3 l1 l2 rc31 (m + 1) v4 v5 v6 v7 (nI k) f0 f1 f2 f3 f4 f5 f6 f7 f8 f9 f10 f11 = bfX7_shorter_63 N a1 a2 a3 l1 l2 rc31 m v4 v5 v6 v7 (nI (k + 1)) f0 (upd f1 k (f1 (k + 1))) f2 f3 f4 f5 f6 f7 f8 f9 f10 f11 := by
        show bFX7_shorter_63 N a1 a2 a3 l1 l2 rc31 (bfX7_shorter_63 N a1 a2 a3 l1 l2 rc31 m) v4 v5 v6 v7 (nI k) f0 f1 f2 f3 f4 f5 f6 f7 f8 f9 f10 f11 = _
        unfold bFX7_shorter_63
        rw [h0, if_neg (nI_ge (by omega) (by omega)), nI_1, gi_ok (by omega) (by omega), gi_ok (by omega) (by omega), lt_x, lt_x, ncl (by omega), ncl (by omega)]
      obtain ⟨m2, g, e2, e3⟩ := ih (k + 1) (upd f1 k (f1 (k + 1))) (by omega) (by omega)
      refine ⟨m2, g, by rw [e1, e2], fun i => ?_⟩
      rw [e3 i]
      by_cases ci : i = k
      · subst ci
        rw [if_neg (by omega), us, if_pos (by omega)]
      · by_cases cj : k + 1 ≤ i ∧ i < sz
        · rw [if_pos cj, if_pos (by omega), un (by omega)]
        · rw [if_neg cj, if_neg (by omega), un ci]
theorem R_122 {p : Nat} : ∀ (m k : Nat) (f1 : Nat → Int32), p ≤ k → k < 160 → k - p < m → ∃ m2 g, bfX7_shorter_122 N a1 a2 a3 l1 l2 rc31 m v4 v5 (nI p) v7 (nI k) f0 f1 f2 f3 f4 f5 f6 f7 f8 f9 f10 f11 = bfX7_shorter_122 N a1 a2 a3 l1 l2 rc31 (m2 + 1) v4 v5 (nI p) v7 (nI p) f0 g f2 f3 f4 f5 f6 f7 f8 f9 f10 f11 ∧ ∀ i, g i = if p < i ∧ i ≤ k then f1 (i - 1) else f1 i := by
  intro m
  induction m with
  | zero => intro k f1 _ _ h; omega
  | succ m ih =>
    intro k f1 hk hk2 hm
    by_cases c : k = p
    · subst c
      exact ⟨m, f1, rfl, fun i => by rw [if_neg (by omega)]⟩
    · obtain ⟨j, rfl⟩ : ∃ j, k = j + 1 := ⟨k - 1, by omega⟩
      have e0 : nI (j + 1) - 1 = nI j := by rw [k1, nsub (by omega)]; congr 1
      have e1 : bfX7_shorter_122 N a1 a2 a3 l1 l2 rc31 (m + 1) v4 v5 (nI p) v7 (nI (j + 1)) f0 f1 f2 f3 f4 f5 f6 f7 f8 f9 f10 f11 = bfX7_shorter_122 N a1 a2 a3 l1 l2 rc31 m v4 v5 (nI p) v7 (nI j) f0 (upd f1 (j + 1) (f1 j)) f2 f3 f4 f5 f6 f7 f8 f9 f10 f11 := by
        show bFX7_shorter_122 N a1 a2 a3 l1 l2 rc31 (bfX7_shorter_122 N a1 a2 a3 l1 l2 rc31 m) v4 v5 (nI p) v7 (nI (j + 1)) f0 f1 f2 f3 f4 f5 f6 f7 f8 f9 f10 f11 = _
        unfold bFX7_shorter_122
        rw [if_neg (nI_ge (by omega) (by omega)), e0, gi_ok (by omega) (by omega), gi_ok (by omega) (by omega), lt_x, lt_x, ncl (by omega), ncl (by omega), ndec]
      obtain ⟨m2, g, e2, e3⟩ := ih j (upd f1 (j + 1) (f1 j)) (by omega) (by omega) (by omega)
      refine ⟨m2, g, by rw [e1, e2], fun i => ?_⟩
      rw [e3 i]
      by_cases ci : i = j + 1
      · subst ci
        rw [if_neg (by omega), us, if_pos (by omega)]
        congr 1
      · by_cases cj : p < i ∧ i ≤ j
        · rw [if_pos cj, if_pos (by omega), un (by omega)]
        · rw [if_neg cj, if_neg (by omega), un ci]
end SHIFT
theorem sh_loop (hN : 1000 < N) (ho : ob ≤ 400) (hh : hb ≤ 800) (hs : sb ≤ 1500) {vd bf : Nat} (hvd : vd ≤ 10) (hbf : bf ≤ 160) :
    ∀ (s m m2 n p j w : Nat) (f1 f2 f3 f4 f8 f9 f10 f17 f18 f19 f20 f21 f25 f26 f27 f28 f29 f30 f31 f32 f33 f34 f35 f36 : Nat → Int32), p + s = n → j + s = bf → n + w = bf → s < m → s < m2 → SmN n f1 f2 f25 f26 → Tp f9 →
      ∃ (r : Int32) (n2 : Nat) (g1 g2 g3 g4 g8 g9 g10 g17 g18 g19 g20 g21 x25 x26 x27 x28 x29 x30 x31 x32 x33 x34 x35 x36 : Nat → Int32), bfX6_shorter_50 N (nI ob) (nI hb) (nI sb) m (nI bf) (nI vd) (nI p) (nI j) f1 f2 f3 f4 f8 f9 f10 f17 f18 f19 f20 f21 = some (r, g1, g2, g3, g4, g8, g9, g10, g17, g18, g19, g20, g21) ∧
        bfX7_shorter_31 N (nI ob) (nI hb) (nI sb) l1 l2 m2 (nI vd) (nI w) (nI p) f25 f26 f27 f28 f29 f30 f31 f32 f33 f34 f35 f36 = some (r, x25, x26, x27, x28, x29, x30, x31, x32, x33, x34, x35, x36) ∧ SmN n2 g1 g2 x25 x26 ∧ Tp g9 := by
  intro s
  induction s with
  | zero =>
    intro m m2 n p j w f1 f2 f3 f4 f8 f9 f10 f17 f18 f19 f20 f21 f25 f26 f27 f28 f29 f30 f31 f32 f33 f34 f35 f36 hp hj hw hm hm2 hS hT
    obtain ⟨m, rfl⟩ : ∃ x, m = x + 1 := ⟨m - 1, by omega⟩
    obtain ⟨m2, rfl⟩ : ∃ x, m2 = x + 1 := ⟨m2 - 1, by omega⟩
    have e1 : bfX6_shorter_50 N (nI ob) (nI hb) (nI sb) (m + 1) (nI bf) (nI vd) (nI p) (nI j) f1 f2 f3 f4 f8 f9 f10 f17 f18 f19 f20 f21 = some (nI w, f1, f2, f3, f4, f8, f9, f10, f17, f18, f19, f20, f21) := by
      show bFX6_shorter_50 N (nI ob) (nI hb) (nI sb) (bfX6_shorter_50 N (nI ob) (nI hb) (nI sb) m) (nI bf) (nI vd) (nI p) (nI j) f1 f2 f3 f4 f8 f9 f10 f17 f18 f19 f20 f21 = _
      unfold bFX6_shorter_50 pX5_count
      rw [if_pos (nI_le (by omega) (by omega)), bd1_s, hS.2.1, nsub (by omega), show bf - n = w by omega]
    have e2 : bfX7_shorter_31 N (nI ob) (nI hb) (nI sb) l1 l2 (m2 + 1) (nI vd) (nI w) (nI p) f25 f26 f27 f28 f29 f30 f31 f32 f33 f34 f35 f36 = some (nI w, f25, f26, f27, f28, f29, f30, f31, f32, f33, f34, f35, f36) := by
      show bFX7_shorter_31 N (nI ob) (nI hb) (nI sb) l1 l2 (bfX7_shorter_31 N (nI ob) (nI hb) (nI sb) l1 l2 m2) (nI vd) (nI w) (nI p) f25 f26 f27 f28 f29 f30 f31 f32 f33 f34 f35 f36 = _
      unfold bFX7_shorter_31
      rw [hS.2.2.1, if_pos (nI_le (by omega) (by omega))]
    exact ⟨_, n, _, _, _, _, _, _, _, _, _, _, _, _, _, _, _, _, _, _, _, _, _, _, _, _, e1, e2, hS, hT⟩
  | succ s ih =>
    intro m m2 n p j w f1 f2 f3 f4 f8 f9 f10 f17 f18 f19 f20 f21 f25 f26 f27 f28 f29 f30 f31 f32 f33 f34 f35 f36 hp hj hw hm hm2 hS hT
    obtain ⟨m, rfl⟩ : ∃ x, m = x + 1 := ⟨m - 1, by omega⟩
    obtain ⟨m2, rfl⟩ : ∃ x, m2 = x + 1 := ⟨m2 - 1, by omega⟩
    obtain ⟨b, hn, hbb, h1, h2, h25, h26⟩ := SmN_b hS
    show ∃ (r : Int32) (n2 : Nat) (g1 g2 g3 g4 g8 g9 g10 g17 g18 g19 g20 g21 x25 x26 x27 x28 x29 x30 x31 x32 x33 x34 x35 x36 : Nat → Int32), bFX6_shorter_50 N (nI ob) (nI hb) (nI sb) (bfX6_shorter_50 N (nI ob) (nI hb) (nI sb) m) (nI bf) (nI vd) (nI p) (nI j) f1 f2 f3 f4 f8 f9 f10 f17 f18 f19 f20 f21 = _ ∧ bFX7_shorter_31 N (nI ob) (nI hb) (nI sb) l1 l2 (bfX7_shorter_31 N (nI ob) (nI hb) (nI sb) l1 l2 m2) (nI vd) (nI w) (nI p) f25 f26 f27 f28 f29 f30 f31 f32 f33 f34 f35 f36 = _ ∧ _
    unfold bFX6_shorter_50 bFX7_shorter_31
    have e25 : nI n - 1 = nI (n - 1) := by rw [k1, nsub (by omega)]
    rw [if_neg (nI_ge (by omega) (by omega)), s_become (f0 := f3) (f1 := f4) h1 hn, bd2_s, s_out (f1 := va_cpy f2 f4 0 0 n) us hn (show p < n by omega), bd2_s]
    rw [h25, if_neg (nI_ge (by omega) (by omega)), gi_ok (by omega) (by omega), lt_x, lt_x, ncl (by omega), e25]
    obtain ⟨m3, g26, e1, e2⟩ := R_63 (N := N) (l1 := l1) (l2 := l2) (a1 := nI ob) (a2 := nI hb) (a3 := nI sb) (v4 := nI vd) (v5 := nI w) (v6 := nI p) (v7 := f26 p) (f0 := upd f25 1 (nI (n - 1))) (f2 := f27) (f3 := f28) (f4 := f29) (f5 := f30) (f6 := f31) (f7 := f32) (f8 := f33) (f9 := f34) (f10 := f35) (f11 := f36) (rc31 := bfX7_shorter_31 N (nI ob) (nI hb) (nI sb) l1 l2 m2) (sz := n - 1) (by omega) us N p f26 (by omega) (by omega)
    rw [e1]
    obtain ⟨r, g17, g8, g9, g10, g18, g19, g20, g21, x25, x27, x28, x29, x30, x31, x32, x33, x34, x35, x36, y1, y2, y3, y4, y5, y6, y7, -⟩ := both_read (N := N) (ob := ob) (hb := hb) (sb := sb) (l1 := l1) (l2 := l2) (n := n - 1) (b := fun i => if i < p then b i else b (i + 1)) (f3 := upd (upd f3 1 (nI n)) 1 (nI (n - 1))) (f4 := va_cpy (va_cpy f2 f4 0 0 n) (va_cpy f2 f4 0 0 n) (p + 1) p (n - p - 1)) (f8 := f8) (f9 := f9) (f10 := f10) (f17 := f17) (f18 := f18) (f19 := f19) (f20 := f20) (f21 := f21) (f25 := upd f25 1 (nI (n - 1))) (f26 := g26) (f27 := f27) (f28 := f28) (f29 := f29) (f30 := f30) (f31 := f31) (f32 := f32) (f33 := f33) (f34 := f34) (f35 := f35) (f36 := f36) hN (by omega) ho hh hs
      (fun i hi => by show (if i < p then b i else b (i + 1)) < 256; split; exact hbb i (by omega); exact hbb (i + 1) (by omega)) us
      (fun i hi => by
        show (if p ≤ i ∧ i < p + (n - p - 1) then va_cpy f2 f4 0 0 n (p + 1 + (i - p)) else va_cpy f2 f4 0 0 n i) = nI (if i < p then b i else b (i + 1))
        have hc : ∀ k, k < n → va_cpy f2 f4 0 0 n k = f2 k := fun k hk => by unfold va_cpy; rw [if_pos (by omega)]; congr 1; omega
        by_cases ci : i < p
        · rw [if_neg (by omega), if_pos ci, hc i (by omega), h2 i (by omega)]
        · rw [if_pos (by omega), if_neg ci, hc _ (by omega), show p + 1 + (i - p) = i + 1 by omega, h2 (i + 1) (by omega)]) hT us
      (fun i hi => by
        show g26 i = nI (if i < p then b i else b (i + 1))
        rw [e2 i]
        by_cases ci : i < p
        · rw [if_neg (by omega), if_pos ci, h26 i (by omega)]
        · rw [if_pos (by omega), if_neg ci, h26 (i + 1) (by omega)])
    rw [y3, bd9_s]
    have e3 : bfX7_shorter_63 N (nI ob) (nI hb) (nI sb) l1 l2 (bfX7_shorter_31 N (nI ob) (nI hb) (nI sb) l1 l2 m2) (m3 + 1) (nI vd) (nI w) (nI p) (f26 p) (nI (n - 1)) (upd f25 1 (nI (n - 1))) g26 f27 f28 f29 f30 f31 f32 f33 f34 f35 f36 =
        if nI r.1 = nI vd then bfX7_shorter_31 N (nI ob) (nI hb) (nI sb) l1 l2 m2 (nI vd) (nI (w + 1)) (nI p) x25 g26 x27 x28 x29 x30 x31 x32 x33 x34 x35 x36
        else bfX7_shorter_122 N (nI ob) (nI hb) (nI sb) l1 l2 (bfX7_shorter_31 N (nI ob) (nI hb) (nI sb) l1 l2 m2) N (nI vd) (nI w) (nI p) (f26 p) (nI (n - 1)) x25 g26 x27 x28 x29 x30 x31 x32 x33 x34 x35 x36 := by
      show bFX7_shorter_63 N (nI ob) (nI hb) (nI sb) l1 l2 (bfX7_shorter_31 N (nI ob) (nI hb) (nI sb) l1 l2 m2) (bfX7_shorter_63 N (nI ob) (nI hb) (nI sb) l1 l2 (bfX7_shorter_31 N (nI ob) (nI hb) (nI sb) l1 l2 m2) m3) (nI vd) (nI w) (nI p) (f26 p) (nI (n - 1)) (upd f25 1 (nI (n - 1))) g26 f27 f28 f29 f30 f31 f32 f33 f34 f35 f36 = _
      unfold bFX7_shorter_63
      rw [us, if_pos (nI_le (Nat.le_refl _) (by omega)), y5, bd11_s, y7, y6, lt_x, lt_x, nI_1]
      rfl
    rw [e3]
    by_cases cv : nI r.1 = nI vd
    · rw [if_pos cv, if_pos cv, s_out h1 hn (show p < n by omega), bd2_s]
      unfold bfX6_shorter_107
      rw [lt_x, nI_1]
      refine ih m m2 (n - 1) p (j + 1) (w + 1) _ _ _ _ _ _ _ _ _ _ _ _ _ _ _ _ _ _ _ _ _ _ _ _ (by omega) (by omega) (by omega) (by omega) (by omega) ⟨by omega, us, y6, fun i hi => ?_⟩ y4
      rw [e2 i]
      show ∃ k, k < 256 ∧ (if p ≤ i ∧ i < p + (n - p - 1) then f2 (p + 1 + (i - p)) else f2 i) = nI k ∧ _
      by_cases ci : i < p
      · rw [if_neg (by omega), if_neg (by omega)]
        exact ⟨b i, hbb i (by omega), h2 i (by omega), h26 i (by omega)⟩
      · rw [if_pos (by omega), if_pos (by omega), show p + 1 + (i - p) = i + 1 by omega]
        exact ⟨b (i + 1), hbb (i + 1) (by omega), h2 (i + 1) (by omega), h26 (i + 1) (by omega)⟩
    · rw [if_neg cv, if_neg cv, lt_x]
      unfold bfX6_shorter_107
      rw [lt_x, nI_1, nI_1]
      obtain ⟨m4, q26, e4, e5⟩ := R_122 (N := N) (l1 := l1) (l2 := l2) (a1 := nI ob) (a2 := nI hb) (a3 := nI sb) (v4 := nI vd) (v5 := nI w) (v7 := f26 p) (f0 := x25) (f2 := x27) (f3 := x28) (f4 := x29) (f5 := x30) (f6 := x31) (f7 := x32) (f8 := x33) (f9 := x34) (f10 := x35) (f11 := x36) (rc31 := bfX7_shorter_31 N (nI ob) (nI hb) (nI sb) l1 l2 m2) (p := p) N (n - 1) g26 (by omega) (by omega) (by omega)
      have e6 : bfX7_shorter_122 N (nI ob) (nI hb) (nI sb) l1 l2 (bfX7_shorter_31 N (nI ob) (nI hb) (nI sb) l1 l2 m2) (m4 + 1) (nI vd) (nI w) (nI p) (f26 p) (nI p) x25 q26 x27 x28 x29 x30 x31 x32 x33 x34 x35 x36 = bfX7_shorter_31 N (nI ob) (nI hb) (nI sb) l1 l2 m2 (nI vd) (nI w) (nI (p + 1)) (upd x25 1 (nI n)) (upd q26 p (f26 p)) x27 x28 x29 x30 x31 x32 x33 x34 x35 x36 := by
        show bFX7_shorter_122 N (nI ob) (nI hb) (nI sb) l1 l2 (bfX7_shorter_31 N (nI ob) (nI hb) (nI sb) l1 l2 m2) (bfX7_shorter_122 N (nI ob) (nI hb) (nI sb) l1 l2 (bfX7_shorter_31 N (nI ob) (nI hb) (nI sb) l1 l2 m2) m4) (nI vd) (nI w) (nI p) (f26 p) (nI p) x25 q26 x27 x28 x29 x30 x31 x32 x33 x34 x35 x36 = _
        unfold bFX7_shorter_122
        rw [if_pos (nI_le (Nat.le_refl _) (by omega)), gi_ok (by omega) (by omega), lt_x, lt_x, lt_x, ncl (by omega), y6, nI_1, nI_1, show n - 1 + 1 = n by omega]
        rfl
      rw [e4, e6]
      refine ih m m2 n (p + 1) (j + 1) w _ _ _ _ _ _ _ _ _ _ _ _ _ _ _ _ _ _ _ _ _ _ _ _ (by omega) (by omega) (by omega) (by omega) (by omega) ⟨by omega, h1, us, fun i hi => ?_⟩ y4
      refine ⟨b i, hbb i hi, h2 i hi, ?_⟩
      by_cases ci : i = p
      · subst ci; rw [us, h26 i hi]
      · rw [un ci, e5 i, e2, e2]
        by_cases cj : i < p
        · rw [if_neg (by omega), if_neg (by omega), h26 i hi]
        · rw [if_pos (by omega), if_pos (by omega), show i - 1 + 1 = i by omega, h26 i hi]
end SHORT
section SHORT2
variable {N : Nat} {f1 f2 f3 f4 f5 f6 f7 f8 f9 f10 f17 f18 f19 f20 f21 f23 f25 f26 f27 f28 f29 f30 f31 f32 f33 f34 f35 f36 f37 f38 : Nat → Int32} {l25_31 l25_32 : Int64} {a1 a2 a3 : Int32}
theorem s_shorter (hN : 1000 < N) (hI : Iv f1 f2 f5 f6 f7 f9 f23 f25 f26 f37 f38) : ∃ (r : Int32) (f1' f2' f3' f4' f8' f9' f10' f17' f18' f19' f20' f21' f25' f26' f27' f28' f29' f30' f31' f32' f33' f34' f35' f36' : Nat → Int32), pX6_shorter N a1 a2 a3 f1 f2 f3 f4 f8 f9 f10 f17 f18 f19 f20 f21 = some (r, f1', f2', f3', f4', f8', f9', f10', f17', f18', f19', f20', f21') ∧ pX7_shorter N a1 a2 a3 f25 l25_31 l25_32 f26 f27 f28 f29 f30 f31 f32 f33 f34 f35 f36 = some (r, f25', f26', f27', f28', f29', f30', f31', f32', f33', f34', f35', f36') ∧ Iv f1' f2' f5 f6 f7 f9' f23 f25' f26' f37 f38 := by
  have hI0 := hI
  obtain ⟨⟨n, b, hS⟩, hr6, hr9, hr23, hT⟩ := hI
  obtain ⟨hn, hbb, h1, h2, h25, h26⟩ := id hS
  unfold pX6_shorter pX7_shorter
  rcases bounds_cases a1 a2 a3 with e | ⟨e, ob, hb', sb, ho, hh, hs, rfl, rfl, rfl⟩
  · rw [bounds_eq, e, bd1_s, bd1_s, if_pos rfl, if_pos rfl]
    exact ⟨_, _, _, _, _, _, _, _, _, _, _, _, _, _, _, _, _, _, _, _, _, _, _, _, _, rfl, rfl, hI0⟩
  · rw [bounds_eq, e, bd1_s, bd1_s, if_neg (show ¬ (1 : Int32) = 0 by decide), if_neg (show ¬ (1 : Int32) = 0 by decide)]
    unfold pX5_count
    rw [bd1_s, s_become (f0 := f3) (f1 := f4) h1 hn, bd2_s]
    obtain ⟨r, g17, g8, g9, g10, g18, g19, g20, g21, x25, x27, x28, x29, x30, x31, x32, x33, x34, x35, x36, y1, y2, y3, y4, y5, y6, y7, -⟩ := both_read (N := N) (ob := ob) (hb := hb') (sb := sb) (l1 := l25_31) (l2 := l25_32) (n := n) (b := b) (f3 := upd f3 1 (nI n)) (f4 := va_cpy f2 f4 0 0 n) (f8 := f8) (f9 := f9) (f10 := f10) (f17 := f17) (f18 := f18) (f19 := f19) (f20 := f20) (f21 := f21) (f25 := f25) (f26 := f26) (f27 := f27) (f28 := f28) (f29 := f29) (f30 := f30) (f31 := f31) (f32 := f32) (f33 := f33) (f34 := f34) (f35 := f35) (f36 := f36) hN hn ho hh hs hbb us
      (fun i hi => by show (if 0 ≤ i ∧ i < 0 + n then f2 (0 + (i - 0)) else f4 i) = _; rw [if_pos (by omega), show 0 + (i - 0) = i by omega, h2 i hi]) hr9 h25 h26
    rw [y3, bd9_s, y5, bd11_s, lt_x, y7, h1]
    obtain ⟨r2, n2, q1, q2, q3, q4, q8, q9, q10, q17, q18, q19, q20, q21, q25, q26, q27, q28, q29, q30, q31, q32, q33, q34, q35, q36, z1, z2, z3, z4⟩ := sh_loop (N := N) (l1 := l25_31) (l2 := l25_32) hN ho hh hs y2 (bf := n) hn n N N n 0 0 0 f1 f2 (upd f3 1 (nI n)) (va_cpy f2 f4 0 0 n) g8 g9 g10 g17 g18 g19 g20 g21 x25 f26 x27 x28 x29 x30 x31 x32 x33 x34 x35 x36 (by omega) (by omega) (by omega) (by omega) (by omega) (SmN_of ⟨hn, hbb, h1, h2, y6, h26⟩) y4
    exact ⟨r2, q1, q2, q3, q4, q8, q9, q10, q17, q18, q19, q20, q21, q25, q26, q27, q28, q29, q30, q31, q32, q33, q34, q35, q36, z1, z2, SmN_to z3, hr6, z4, hr23, hT⟩
end SHORT2
