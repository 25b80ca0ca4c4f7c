/-! ===== PURE PART 1: numbers, and the closed forms of Row and Stream ===== -/
theorem k0 : (0 : Int32) = nI 0 := rfl
theorem k1 : (1 : Int32) = nI 1 := rfl
theorem k2 : (2 : Int32) = nI 2 := rfl
theorem k3 : (3 : Int32) = nI 3 := rfl
theorem k4 : (4 : Int32) = nI 4 := rfl
theorem k5 : (5 : Int32) = nI 5 := rfl
theorem k6 : (6 : Int32) = nI 6 := rfl
theorem k7 : (7 : Int32) = nI 7 := rfl
theorem k8 : (8 : Int32) = nI 8 := rfl
theorem k9 : (9 : Int32) = nI 9 := rfl
theorem k10 : (10 : Int32) = nI 10 := rfl
theorem k62 : (62 : Int32) = nI 62 := rfl
theorem k64 : (64 : Int32) = nI 64 := rfl
theorem k126 : (126 : Int32) = nI 126 := rfl
theorem k128 : (128 : Int32) = nI 128 := rfl
theorem k160 : (160 : Int32) = nI 160 := rfl
theorem k192 : (192 : Int32) = nI 192 := rfl
theorem k255 : (255 : Int32) = nI 255 := rfl
theorem k256 : (256 : Int32) = nI 256 := rfl
theorem k400 : (400 : Int32) = nI 400 := rfl
theorem k800 : (800 : Int32) = nI 800 := rfl
theorem k1500 : (1500 : Int32) = nI 1500 := rfl
theorem nlt {a b : Nat} (ha : a < 2 ^ 31) (hb : b < 2 ^ 31) : (nI a < nI b) = (a < b) := propext (nI_ltI ha hb)
theorem nle {a b : Nat} (ha : a < 2 ^ 31) (hb : b < 2 ^ 31) : (nI a ≤ nI b) = (a ≤ b) := propext (nI_leI ha hb)
theorem neq {a b : Nat} (ha : a < 2 ^ 31) (hb : b < 2 ^ 31) : (nI a = nI b) = (a = b) := propext (nI_eq ha hb)
theorem ncl {a : Nat} (h : a < 2 ^ 31) : (nI a).toNatClampNeg = a := nI_clamp h
theorem nsub {a b : Nat} (h : b ≤ a) : nI a - nI b = nI (a - b) := pk_sub h
theorem gi_ok {β : Type} {i n : Nat} {k : Option β} (h : i < n) (hn : n < 2 ^ 31) : gi_ (nI i) n k = k := by
  unfold gi_; rw [if_neg (nI_in h hn)]
theorem lt_x {α β : Type} (x : α) (k : α → Option β) : lt_ x k = k x := rfl
theorem gz_t {β : Type} (k : Option β) : gz_ true k = k := rfl
theorem bd1_s {α β : Type} (x : α) (k : α → Option β) : bd1 (some x) k = k x := rfl
theorem bd2_s {α1 α2 β : Type} (x1 : α1) (x2 : α2) (k : α1 → α2 → Option β) : bd2 (some (x1, x2)) k = k x1 x2 := rfl
theorem bd3_s {α1 α2 α3 β : Type} (x1 : α1) (x2 : α2) (x3 : α3) (k : α1 → α2 → α3 → Option β) : bd3 (some (x1, x2, x3)) k = k x1 x2 x3 := rfl
theorem bd4_s {α1 α2 α3 α4 β : Type} (x1 : α1) (x2 : α2) (x3 : α3) (x4 : α4) (k : α1 → α2 → α3 → α4 → Option β) : bd4 (some (x1, x2, x3, x4)) k = k x1 x2 x3 x4 := rfl
theorem bd5_s {α1 α2 α3 α4 α5 β : Type} (x1 : α1) (x2 : α2) (x3 : α3) (x4 : α4) (x5 : α5) (k : α1 → α2 → α3 → α4 → α5 → Option β) : bd5 (some (x1, x2, x3, x4, x5)) k = k x1 x2 x3 x4 x5 := rfl
theorem bd6_s {α1 α2 α3 α4 α5 α6 β : Type} (x1 : α1) (x2 : α2) (x3 : α3) (x4 : α4) (x5 : α5) (x6 : α6) (k : α1 → α2 → α3 → α4 → α5 → α6 → Option β) : bd6 (some (x1, x2, x3, x4, x5, x6)) k = k x1 x2 x3 x4 x5 x6 := rfl
theorem bd7_s {α1 α2 α3 α4 α5 α6 α7 β : Type} (x1 : α1) (x2 : α2) (x3 : α3) (x4 : α4) (x5 : α5) (x6 : α6) (x7 : α7) (k : α1 → α2 → α3 → α4 → α5 → α6 → α7 → Option β) : bd7 (some (x1, x2, x3, x4, x5, x6, x7)) k = k x1 x2 x3 x4 x5 x6 x7 := rfl
theorem bd8_s {α1 α2 α3 α4 α5 α6 α7 α8 β : Type} (x1 : α1) (x2 : α2) (x3 : α3) (x4 : α4) (x5 : α5) (x6 : α6) (x7 : α7) (x8 : α8) (k : α1 → α2 → α3 → α4 → α5 → α6 → α7 → α8 → Option β) : bd8 (some (x1, x2, x3, x4, x5, x6, x7, x8)) k = k x1 x2 x3 x4 x5 x6 x7 x8 := rfl
theorem us {f : Nat → Int32} {k : Nat} {x : Int32} : upd f k x k = x := if_pos rfl
theorem un {f : Nat → Int32} {k j : Nat} {x : Int32} (h : j ≠ k) : upd f k x j = f j := if_neg h
/-! Stream -/
theorem s_has_t {f0 : Nat → Int32} {n i : Nat} (h : f0 1 = nI n) (hn : n ≤ 160) (hi : i < n) : pX5_has (nI i) f0 = some 1 := by
  unfold pX5_has
  rw [h, if_neg (nI_pos (by omega)), if_neg (nI_ge hi (by omega))]
theorem s_has_f {f0 : Nat → Int32} {n i : Nat} (h : f0 1 = nI n) (hn : n ≤ 160) (hi : n ≤ i) (h2 : i < 2 ^ 31) : pX5_has (nI i) f0 = some 0 := by
  unfold pX5_has
  rw [h, if_neg (nI_pos (by omega)), if_pos (nI_le hi (by omega))]
theorem s_has_n {f0 : Nat → Int32} {x : Int32} (h : x < 0) : pX5_has x f0 = some 0 := by
  unfold pX5_has
  rw [if_pos h]
theorem s_at {f0 f1 : Nat → Int32} {n i : Nat} (h : f0 1 = nI n) (hn : n ≤ 160) (hi : i < n) : pX5_byteAt (nI i) f0 f1 = some (f1 i) := by
  unfold pX5_byteAt
  rw [s_has_t h hn hi, bd1_s, if_neg (by decide), gi_ok (by omega) (by omega), ncl (by omega)]
theorem s_at_f {f0 f1 : Nat → Int32} {n i : Nat} (h : f0 1 = nI n) (hn : n ≤ 160) (hi : n ≤ i) (h2 : i < 2 ^ 31) : pX5_byteAt (nI i) f0 f1 = some 0 := by
  unfold pX5_byteAt
  rw [s_has_f h hn hi h2, bd1_s, if_pos rfl]
theorem s_app {f0 f1 : Nat → Int32} {n : Nat} {v : Int32} (h : f0 1 = nI n) (hn : n < 160) : pX5_append v f0 f1 = some (upd f0 1 (nI (n + 1)), upd f1 n v) := by
  unfold pX5_append
  rw [h, if_neg (by rw [k160]; exact nI_ge hn (by omega)), gi_ok hn (by omega), lt_x, lt_x, ncl (by omega), nI_1]
theorem s_full {f0 f1 : Nat → Int32} {n : Nat} (h : f0 1 = nI n) (hn : n ≤ 160) : pX5_isFull f0 f1 = some (if n = 160 then 1 else 0) := by
  unfold pX5_isFull
  rw [h, k160]
  by_cases c : n < 160
  · rw [if_pos (nI_lt c (by omega)), if_neg (by omega)]
  · rw [if_neg (nI_nlt (by omega) (by omega)), if_pos (by omega)]
theorem s_keep {f0 : Nat → Int32} {n k : Nat} (h : f0 1 = nI n) (hn : n ≤ 160) (hk : k < n) : pX5_keep (nI k) f0 = some (upd f0 1 (nI k)) := by
  unfold pX5_keep
  rw [h, if_neg (nI_pos (by omega)), if_neg (nI_ge hk (by omega)), lt_x]
theorem s_keep_n {f0 : Nat → Int32} {n k : Nat} (h : f0 1 = nI n) (hk : n ≤ k) (h2 : k < 2 ^ 31) : pX5_keep (nI k) f0 = some f0 := by
  unfold pX5_keep
  rw [h, if_neg (nI_pos (by omega)), if_pos (nI_le hk (by omega))]
theorem s_chg {f0 f1 : Nat → Int32} {n i : Nat} {v : Int32} (h : f0 1 = nI n) (hn : n ≤ 160) (hi : i < n) : pX5_change (nI i) v f0 f1 = some (upd f1 i v) := by
  unfold pX5_change
  rw [s_has_t h hn hi, bd1_s, if_neg (by decide), gi_ok (by omega) (by omega), lt_x, ncl (by omega)]
theorem s_out {f0 f1 : Nat → Int32} {n i : Nat} (h : f0 1 = nI n) (hn : n ≤ 160) (hi : i < n) : pX5_leaveOut (nI i) f0 f1 = some (upd f0 1 (nI (n - 1)), va_cpy f1 f1 (i + 1) i (n - i - 1)) := by
  unfold pX5_leaveOut
  have e1 : nI n - nI i - 1 = nI (n - i - 1) := by rw [k1, nsub (by omega), nsub (by omega)]
  have e2 : nI n - 1 = nI (n - 1) := by rw [k1, nsub (by omega)]
  have e3 : nI i + 1 = nI (i + 1) := nI_1 i
  have e4 : ac_ (nI (i + 1)) (nI i) (nI (n - i - 1)) 160 160 = true := by
    unfold ac_
    rw [ncl (by omega), ncl (by omega), ncl (by omega)]
    exact decide_eq_true ⟨nI_pos (by omega), nI_pos (by omega), nI_pos (by omega), by omega, by omega⟩
  rw [s_has_t h hn hi, bd1_s, if_neg (by decide), h, e1, e2, e3, e4, gz_t, lt_x, lt_x, ncl (by omega), ncl (by omega), ncl (by omega)]
theorem s_become {f0 f1 g0 g1 : Nat → Int32} {n : Nat} (h : g0 1 = nI n) (hn : n ≤ 160) : pX5_become f0 f1 g0 g1 = some (upd f0 1 (nI n), va_cpy g1 f1 0 0 n) := by
  unfold pX5_become
  have e4 : ac_ 0 0 (nI n) 160 160 = true := by
    unfold ac_
    rw [k0, ncl (by omega), ncl (by omega)]
    exact decide_eq_true ⟨nI_pos (by omega), nI_pos (by omega), nI_pos (by omega), by omega, by omega⟩
  rw [h, e4, gz_t, lt_x, lt_x, k0, ncl (by omega), ncl (by omega)]
/-! Row -/
theorem r_back {f0 : Nat → Int32} {t k : Nat} (h : f0 1 = nI t) (ht : t < 2 ^ 31) (hk : k < t) : pX4_backTo (nI k) f0 = some (upd f0 1 (nI k)) := by
  unfold pX4_backTo
  rw [h, if_neg (nI_pos (by omega)), if_neg (nI_ge hk (by omega)), lt_x]
theorem r_back_n {f0 : Nat → Int32} {t k : Nat} (h : f0 1 = nI t) (hk : t ≤ k) (h2 : k < 2 ^ 31) : pX4_backTo (nI k) f0 = some f0 := by
  unfold pX4_backTo
  rw [h, if_neg (nI_pos (by omega)), if_pos (nI_le hk (by omega))]
/-- back to k: in both cases k is the top, if it was not above -/
theorem r_back' {f0 : Nat → Int32} {t k : Nat} (h : f0 1 = nI t) (ht : t < 2 ^ 31) (hk : k ≤ t) : ∃ g, pX4_backTo (nI k) f0 = some g ∧ g 1 = nI k := by
  rcases Nat.lt_or_ge k t with c | c
  · exact ⟨_, r_back h ht c, us⟩
  · exact ⟨_, r_back_n h c (by omega), by rw [h, show t = k by omega]⟩
theorem r_push {f0 f1 : Nat → Int32} {t : Nat} {v : Int32} (h : f0 1 = nI t) (ht : t < 800) : pX4_push v f0 f1 = some (upd f0 1 (nI (t + 1)), upd f1 t v) := by
  unfold pX4_push
  rw [h, if_neg (by rw [k800]; exact nI_ge ht (by omega)), gi_ok ht (by omega), lt_x, lt_x, ncl (by omega), nI_1]
theorem r_at {f0 f1 : Nat → Int32} {i : Nat} (hi : i < 800) : pX4_byteAt (nI i) f0 f1 = some (f1 i) := by
  unfold pX4_byteAt
  rw [if_neg (nI_pos (by omega)), if_neg (by rw [k800]; exact nI_ge hi (by omega)), gi_ok hi (by omega), ncl (by omega)]
/-- a copied byte by byte from d before t on -/
def cpR (row : Nat → Int32) (t d : Nat) : Nat → Nat → Int32
  | 0 => row
  | a + 1 => upd (cpR row t d a) (t + a) (cpR row t d a (t + a - d))
theorem r_copy_loop {N d c : Nat} (hd : 1 ≤ d) (hc : c < 2 ^ 31) : ∀ (m j t : Nat) (f0 f1 : Nat → Int32), f0 1 = nI t → d ≤ t → j ≤ c → t + (c - j) ≤ 800 → c - j < m → ∃ g0, bfX4_copyFromBefore_2 N (nI d) (nI c) m (nI j) f0 f1 = some (g0, cpR f1 t d (c - j)) ∧ g0 1 = nI (t + (c - j)) := by
  intro m
  induction m with
  | zero => intro j t f0 f1 _ _ _ _ h; omega
  | succ m ih =>
    intro j t f0 f1 h0 hdt hj ht hm
    show ∃ g0, bFX4_copyFromBefore_2 N (nI d) (nI c) (bfX4_copyFromBefore_2 N (nI d) (nI c) m) (nI j) f0 f1 = _ ∧ _
    unfold bFX4_copyFromBefore_2
    by_cases hjc : c ≤ j
    · rw [if_pos (nI_le hjc (by omega))]
      have e : c - j = 0 := by omega
      exact ⟨f0, by rw [e]; rfl, by rw [e]; exact h0⟩
    · rw [if_neg (nI_ge (by omega) (by omega)), h0, nsub hdt, r_at (by omega), bd1_s, r_push h0 (by omega), bd2_s, lt_x, nI_1]
      obtain ⟨g0, e1, e2⟩ := ih (j + 1) (t + 1) (upd f0 1 (nI (t + 1))) (upd f1 t (f1 (t - d))) us (by omega) (by omega) (by omega) (by omega)
      refine ⟨g0, ?_, by rw [e2]; congr 1; omega⟩
      rw [e1]
      have key : ∀ a, cpR (upd f1 t (f1 (t - d))) (t + 1) d a = cpR f1 t d (a + 1) := by
        intro a
        induction a with
        | zero => rfl
        | succ a iha =>
          show upd (cpR (upd f1 t (f1 (t - d))) (t + 1) d a) (t + 1 + a) (cpR (upd f1 t (f1 (t - d))) (t + 1) d a (t + 1 + a - d)) = upd (cpR f1 t d (a + 1)) (t + (a + 1)) (cpR f1 t d (a + 1) (t + (a + 1) - d))
          rw [iha, show t + 1 + a = t + (a + 1) by omega]
      rw [key, show c - (j + 1) + 1 = c - j by omega]
theorem r_copy {N d c t : Nat} {f0 f1 : Nat → Int32} (hd : 1 ≤ d) (h0 : f0 1 = nI t) (hdt : d ≤ t) (ht : t + c ≤ 800) (hN : c < N) : ∃ g0, pX4_copyFromBefore N (nI d) (nI c) f0 f1 = some (g0, cpR f1 t d c) ∧ g0 1 = nI (t + c) := by
  unfold pX4_copyFromBefore
  have := r_copy_loop (N := N) (c := c) hd (by omega) N 0 t f0 f1 h0 hdt (by omega) (by omega) (by omega)
  rw [← k0] at this
  exact this
theorem r_copy_0 {N d : Nat} {f0 f1 : Nat → Int32} (hN : 0 < N) : pX4_copyFromBefore N (nI d) (nI 0) f0 f1 = some (f0, f1) := by
  unfold pX4_copyFromBefore
  obtain ⟨m, rfl⟩ : ∃ m, N = m + 1 := ⟨N - 1, by omega⟩
  show bFX4_copyFromBefore_2 (m + 1) (nI d) (nI 0) (bfX4_copyFromBefore_2 (m + 1) (nI d) (nI 0) m) 0 f0 f1 = _
  unfold bFX4_copyFromBefore_2
  rw [if_pos (by rw [k0]; exact nI_le (by omega) (by omega))]
/-- the sum of what stands from i on, k of them -/
def smR (row : Nat → Int32) (i : Nat) : Nat → Int32
  | 0 => 0
  | k + 1 => smR row i k + row (i + k)
theorem smR_s (row : Nat → Int32) : ∀ (k i : Nat), smR row i (k + 1) = row i + smR row (i + 1) k := by
  intro k
  induction k with
  | zero => intro i; show 0 + row (i + 0) = row i + 0; rw [Int32.zero_add, Int32.add_zero]; rfl
  | succ k ih => intro i; show smR row i (k + 1) + row (i + (k + 1)) = row i + (smR row (i + 1) k + row (i + 1 + k)); rw [ih, Int32.add_assoc, show i + (k + 1) = i + 1 + k by omega]
theorem smR_c {row row2 : Nat → Int32} {i : Nat} : ∀ {k : Nat}, (∀ j, i ≤ j → j < i + k → row j = row2 j) → smR row i k = smR row2 i k := by
  intro k
  induction k with
  | zero => intro _; rfl
  | succ k ih => intro h; show smR row i k + row (i + k) = smR row2 i k + row2 (i + k); rw [ih (fun j h1 h2 => h j h1 (by omega)), h (i + k) (by omega) (by omega)]
theorem r_sum_loop {N t : Nat} {a1 : Int32} {f0 f1 : Nat → Int32} (h0 : f0 1 = nI t) (ht : t ≤ 800) : ∀ (m i : Nat) (s : Int32), i ≤ t → t - i < m → bfX4_sumFrom_4 N a1 f0 f1 m s (nI i) = some ((s + smR f1 i (t - i)) &&& 255) := by
  intro m
  induction m with
  | zero => intro i s _ h; omega
  | succ m ih =>
    intro i s hi hm
    show bFX4_sumFrom_4 N a1 f0 f1 (bfX4_sumFrom_4 N a1 f0 f1 m) s (nI i) = _
    unfold bFX4_sumFrom_4
    rw [h0]
    by_cases c : t ≤ i
    · rw [if_pos (nI_le c (by omega)), show t - i = 0 by omega]
      show some (s &&& 255) = some ((s + 0) &&& 255)
      rw [Int32.add_zero]
    · rw [if_neg (nI_ge (by omega) (by omega)), r_at (by omega), bd1_s, lt_x, lt_x, nI_1, ih (i + 1) _ (by omega) (by omega), show t - i = t - (i + 1) + 1 by omega, smR_s, Int32.add_assoc]
theorem r_sum {N t b : Nat} {f0 f1 : Nat → Int32} (h0 : f0 1 = nI t) (ht : t ≤ 800) (hb : b ≤ t) (hN : t < N) : pX4_sumFrom N (nI b) f0 f1 = some (smR f1 b (t - b) &&& 255) := by
  unfold pX4_sumFrom
  rw [r_sum_loop h0 ht N b 0 hb (by omega), Int32.zero_add]
