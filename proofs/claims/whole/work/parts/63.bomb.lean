/-! ===== PURE PART 28: bomb ===== -/
theorem and255 {x : Nat} (h : x < 2 ^ 31) : nI x &&& 255 = nI (x % 256) := by
  apply Int32.toBitVec_inj.mp
  apply BitVec.eq_of_toNat_eq
  show ((BitVec.ofNat 32 x) &&& (BitVec.ofNat 32 255)).toNat = (BitVec.ofNat 32 (x % 256)).toNat
  rw [BitVec.toNat_and, BitVec.toNat_ofNat, BitVec.toNat_ofNat, BitVec.toNat_ofNat]
  have e1 : x % 2 ^ 32 = x := Nat.mod_eq_of_lt (by omega)
  have e2 : x % 256 % 2 ^ 32 = x % 256 := Nat.mod_eq_of_lt (by omega)
  rw [e1, e2]
  exact Nat.and_two_pow_sub_one_eq_mod x 8
theorem ndec {j : Nat} : nI (j + 1) + (-1) = nI j := by
  have : nI (j + 1) + (-1) = nI (j + 1) - 1 := by rw [Int32.sub_eq_add_neg]
  rw [this, k1, nsub (by omega)]
  congr 1
def SmN (n : Nat) (f1 f2 f25 f26 : Nat → Int32) : Prop := n ≤ 160 ∧ f1 1 = nI n ∧ f25 1 = nI n ∧ ∀ i, i < n → ∃ k, k < 256 ∧ f2 i = nI k ∧ f26 i = nI k
theorem SmN_of {n : Nat} {b : Nat → Nat} {f1 f2 f25 f26 : Nat → Int32} (h : Sm n b f1 f2 f25 f26) : SmN n f1 f2 f25 f26 := ⟨h.1, h.2.2.1, h.2.2.2.2.1, fun i hi => ⟨b i, h.2.1 i hi, h.2.2.2.1 i hi, h.2.2.2.2.2 i hi⟩⟩
theorem SmN_to {n : Nat} {f1 f2 f25 f26 : Nat → Int32} (h : SmN n f1 f2 f25 f26) : ∃ n b, Sm n b f1 f2 f25 f26 := Sm_mk h.1 h.2.1 h.2.2.1 h.2.2.2
section BOMB
variable {N : Nat} {l1 l2 : Int64}
/-- both lay a byte -/
theorem both_app {n v : Nat} {f1 f2 f25 f26 : Nat → Int32} (h : SmN n f1 f2 f25 f26) (hn : n < 160) (hv : v < 256) : ∃ g1 g2 g25 g26, pX5_append (nI v) f1 f2 = some (g1, g2) ∧ pX7_lay (nI v) f25 l1 l2 f26 = some (g25, g26) ∧ SmN (n + 1) g1 g2 g25 g26 ∧ g1 = upd f1 1 (nI (n + 1)) ∧ g2 = upd f2 n (nI v) ∧ g25 = upd f25 1 (nI (n + 1)) ∧ g26 = upd f26 n (nI v) := by
  obtain ⟨h0, h1, h25, h2⟩ := h
  refine ⟨upd f1 1 (nI (n + 1)), upd f2 n (nI v), upd f25 1 (nI (n + 1)), upd f26 n (nI v), s_app h1 hn, ?_, ⟨by omega, us, us, fun i hi => ?_⟩, rfl, rfl, rfl, rfl⟩
  · unfold pX7_lay
    rw [h25, gi_ok hn (by omega), lt_x, lt_x, ncl (by omega), nI_1]
  · by_cases ci : i = n
    · subst ci; exact ⟨v, hv, us, us⟩
    · rw [un ci, un ci]; exact h2 i (by omega)
theorem b_113 {lv t : Nat} {a3 : Int32} (hlv : lv ≤ 12) (ht : t ≤ 65) : ∀ (m j n k : Nat) (s' : Int32) (f1 f2 f25 f26 : Nat → Int32), j ≤ lv + 1 → lv + 1 - j < m → n + 2 * (lv + 1 - j) ≤ 160 → k < 256 → s' &&& 255 = nI k → SmN n f1 f2 f25 f26 →
    ∃ r n2 g1 g2 g25 g26, bfX6_bomb_113 N (nI lv) (nI t) a3 m (nI k) (nI j) f1 f2 = some (r, g1, g2) ∧ bfX7_bomb_94 N (nI lv) (nI t) a3 l1 l2 m s' (nI j) f25 f26 = some (r, g25, g26) ∧ SmN n2 g1 g2 g25 g26 := by
  intro m
  induction m with
  | zero => intro j n k s' f1 f2 f25 f26 _ h; omega
  | succ m ih =>
    intro j n k s' f1 f2 f25 f26 hj hm hn hk hs hS
    show ∃ r n2 g1 g2 g25 g26, bFX6_bomb_113 N (nI lv) (nI t) a3 (bfX6_bomb_113 N (nI lv) (nI t) a3 m) (nI k) (nI j) f1 f2 = _ ∧ bFX7_bomb_94 N (nI lv) (nI t) a3 l1 l2 (bfX7_bomb_94 N (nI lv) (nI t) a3 l1 l2 m) s' (nI j) f25 f26 = _ ∧ _
    unfold bFX6_bomb_113 bFX7_bomb_94
    have nq := nlt (a := lv) (b := j) (by omega) (by omega)
    by_cases c : lv < j
    · rw [if_pos (nq.mpr c), if_pos (nq.mpr c)]
      unfold pX5_count
      rw [bd1_s, hS.2.1, hS.2.2.1]
      exact ⟨_, n, _, _, _, _, rfl, rfl, hS⟩
    · rw [if_neg (fun h => c (nq.mp h)), if_neg (fun h => c (nq.mp h))]
      obtain ⟨x1, x2, x25, x26, e1, e2, e3, -⟩ := both_app (l1 := l1) (l2 := l2) (v := 0) hS (by omega) (by omega)
      obtain ⟨y1, y2, y25, y26, e4, e5, e6, -⟩ := both_app (l1 := l1) (l2 := l2) (v := k) e3 (by omega) hk
      have hk2 : nI k &&& 255 = nI k := by rw [and255 (by omega), Nat.mod_eq_of_lt hk]
      have hkt : k * t ≤ 255 * 65 := Nat.mul_le_mul (by omega) ht
      rw [k0, e1, e2, bd2_s, bd2_s, hs, hk2, e4, e5, bd2_s, bd2_s, lt_x, lt_x, lt_x, lt_x, nI_1, pk_mul, and255 (by omega)]
      exact ih (j + 1) (n + 1 + 1) (k * t % 256) (nI (k * t)) y1 y2 y25 y26 (by omega) (by omega) (by omega) (by omega) (and255 (by omega)) e6
theorem b_42 {lv t v : Nat} (hN : 1000 < N) (hlv : lv ≤ 12) (ht : t ≤ 65) (ht2 : 2 ≤ t) (hv : v < 256) : ∀ (j m n : Nat) (f1 f2 f25 f26 : Nat → Int32), j ≤ lv → j < m → n + 3 * j + 2 + 2 * (lv + 1) ≤ 160 → SmN n f1 f2 f25 f26 →
    ∃ r n2 g1 g2 g25 g26, bfX6_bomb_42 N (nI lv) (nI t) (nI v) m (nI j) f1 f2 = some (r, g1, g2) ∧ bfX7_bomb_42 N (nI lv) (nI t) (nI v) l1 l2 m (nI j) f25 f26 = some (r, g25, g26) ∧ SmN n2 g1 g2 g25 g26 := by
  intro j
  induction j with
  | zero =>
    intro m n f1 f2 f25 f26 hj hm hn hS
    obtain ⟨m, rfl⟩ : ∃ x, m = x + 1 := ⟨m - 1, by omega⟩
    show ∃ r n2 g1 g2 g25 g26, bFX6_bomb_42 N (nI lv) (nI t) (nI v) (bfX6_bomb_42 N (nI lv) (nI t) (nI v) m) (nI 0) f1 f2 = _ ∧ bFX7_bomb_42 N (nI lv) (nI t) (nI v) l1 l2 (bfX7_bomb_42 N (nI lv) (nI t) (nI v) l1 l2 m) (nI 0) f25 f26 = _ ∧ _
    unfold bFX6_bomb_42 bFX7_bomb_42
    obtain ⟨x1, x2, x25, x26, e1, e2, e3, -⟩ := both_app (l1 := l1) (l2 := l2) (v := 1) hS (by omega) (by omega)
    obtain ⟨y1, y2, y25, y26, e4, e5, e6, -⟩ := both_app (l1 := l1) (l2 := l2) (v := v) e3 (by omega) hv
    rw [if_pos (show nI 0 ≤ 0 by decide), if_pos (show nI 0 ≤ 0 by decide), k1, e1, e2, bd2_s, bd2_s, e4, e5, bd2_s, bd2_s]
    exact b_113 (N := N) (a3 := nI v) (l1 := l1) (l2 := l2) hlv ht N 0 (n + 1 + 1) v (nI v) y1 y2 y25 y26 (by omega) (by omega) (by omega) hv (by rw [and255 (by omega), Nat.mod_eq_of_lt hv]) e6
  | succ j ih =>
    intro m n f1 f2 f25 f26 hj hm hn hS
    obtain ⟨m, rfl⟩ : ∃ x, m = x + 1 := ⟨m - 1, by omega⟩
    show ∃ r n2 g1 g2 g25 g26, bFX6_bomb_42 N (nI lv) (nI t) (nI v) (bfX6_bomb_42 N (nI lv) (nI t) (nI v) m) (nI (j + 1)) f1 f2 = _ ∧ bFX7_bomb_42 N (nI lv) (nI t) (nI v) l1 l2 (bfX7_bomb_42 N (nI lv) (nI t) (nI v) l1 l2 m) (nI (j + 1)) f25 f26 = _ ∧ _
    unfold bFX6_bomb_42 bFX7_bomb_42
    have h1 : (128 : Int32) + nI t - 2 = nI (126 + t) := by rw [k128, k2, nI_add, nsub (by omega)]; congr 1; omega
    have h2 : (126 : Int32) + nI t = nI (126 + t) := by rw [k126, nI_add]
    have h3 : pX6_bombLength (nI (j + 1) - 1) = some (nI (5 * j + 4)) := by
      unfold pX6_bombLength
      rw [k1, nsub (by omega), k4, k5, pk_mul, nI_add]
      congr 2; omega
    have h4 : (5 : Int32) * nI (j + 1) - 1 = nI (5 * j + 4) := by rw [k5, k1, pk_mul, nsub (by omega)]; congr 1
    obtain ⟨x1, x2, x25, x26, e1, e2, e3, -⟩ := both_app (l1 := l1) (l2 := l2) (v := 126 + t) hS (by omega) (by omega)
    obtain ⟨y1, y2, y25, y26, e4, e5, e6, -⟩ := both_app (l1 := l1) (l2 := l2) (v := 192) e3 (by omega) (by omega)
    obtain ⟨z1, z2, z25, z26, e7, e8, e9, -⟩ := both_app (l1 := l1) (l2 := l2) (v := 5 * j + 4) e6 (by omega) (by omega)
    rw [if_neg (nI_nle (by omega) (by omega)), if_neg (nI_nle (by omega) (by omega)), h1, h2, h3, h4, e1, e2, bd2_s, bd2_s, k192, e4, e5, bd2_s, bd2_s, bd1_s, e7, e8, bd2_s, bd2_s, lt_x, lt_x, ndec]
    exact ih m (n + 1 + 1 + 1) z1 z2 z25 z26 (by omega) (by omega) (by omega) e9
end BOMB
section BOMB2
variable {N : Nat} {f1 f2 f5 f6 f7 f9 f23 f25 f26 f37 f38 : Nat → Int32} {l25_31 l25_32 : Int64} {a1 a2 a3 : Int32}
theorem s_bomb (hN : 1000 < N) (hI : Iv f1 f2 f5 f6 f7 f9 f23 f25 f26 f37 f38) : ∃ (r : Int32) (f1' f2' f25' f26' : Nat → Int32), pX6_bomb N a1 a2 a3 f1 f2 = some (r, f1', f2') ∧ pX7_bomb N a1 a2 a3 f25 l25_31 l25_32 f26 = some (r, f25', f26') ∧ Iv f1' f2' f5 f6 f7 f9 f23 f25' f26' f37 f38 := by
  have hI0 := hI
  obtain ⟨⟨n, b, hn, hb, h1, h2, h25, h26⟩, hr⟩ := hI
  unfold pX6_bomb pX7_bomb
  rw [in_byte]
  unfold pX7_in
  by_cases c1 : a1 < 0
  · rw [if_pos c1, if_pos c1, bd1_s, if_pos rfl]
    exact ⟨_, _, _, _, _, rfl, rfl, hI0⟩
  · rw [if_neg c1, if_neg c1]
    by_cases c2 : (12 : Int32) < a1
    · rw [if_pos c2, if_pos c2, bd1_s, if_pos rfl]
      exact ⟨_, _, _, _, _, rfl, rfl, hI0⟩
    · rw [if_neg c2, if_neg c2, bd1_s, if_neg (show ¬ (1 : Int32) = 0 by decide)]
      by_cases c3 : a2 < 2
      · rw [if_pos c3, if_pos c3, bd1_s, if_pos rfl]
        exact ⟨_, _, _, _, _, rfl, rfl, hI0⟩
      · rw [if_neg c3, if_neg c3]
        by_cases c4 : (65 : Int32) < a2
        · rw [if_pos c4, if_pos c4, bd1_s, if_pos rfl]
          exact ⟨_, _, _, _, _, rfl, rfl, hI0⟩
        · rw [if_neg c4, if_neg c4, bd1_s, if_neg (show ¬ (1 : Int32) = 0 by decide)]
          rcases isByte_cases a3 with e | ⟨e, v, hv, rfl⟩
          · rw [e, bd1_s, bd1_s, if_pos rfl, if_pos rfl]
            exact ⟨_, _, _, _, _, rfl, rfl, hI0⟩
          · rw [e, bd1_s, bd1_s, if_neg (show ¬ (1 : Int32) = 0 by decide), if_neg (show ¬ (1 : Int32) = 0 by decide), lt_x]
            obtain ⟨lv, hlv, rfl⟩ := nn_of c1
            have c30 : ¬ a2 < 0 := fun h => c3 (Int32.lt_trans h (by decide))
            obtain ⟨t, ht, rfl⟩ := nn_of c30
            rw [show (12 : Int32) = nI 12 from rfl, nlt (by omega) hlv] at c2
            rw [k2, nlt ht (by omega)] at c3
            rw [show (65 : Int32) = nI 65 from rfl, nlt (by omega) ht] at c4
            have hkeep : ∃ g, pX5_keep 0 f1 = some g ∧ g 1 = nI 0 := by
              by_cases c2 : 0 < n
              · exact ⟨_, s_keep (k := 0) h1 hn c2, us⟩
              · exact ⟨_, s_keep_n (k := 0) h1 (by omega) (by omega), by rw [h1]; congr 1; omega⟩
            obtain ⟨g, e1, e2⟩ := hkeep
            rw [e1, bd1_s]
            obtain ⟨r, n2, x1, x2, x25, x26, y1, y2, y3⟩ := b_42 (N := N) (l1 := l25_31) (l2 := l25_32) hN (show lv ≤ 12 by omega) (show t ≤ 65 by omega) (by omega) hv lv N 0 g f2 (upd f25 1 0) f26 (by omega) (by omega) (by omega) ⟨by omega, e2, us, fun i hi => absurd hi (Nat.not_lt_zero i)⟩
            exact ⟨r, x1, x2, x25, x26, y1, y2, SmN_to y3, hr⟩
end BOMB2
