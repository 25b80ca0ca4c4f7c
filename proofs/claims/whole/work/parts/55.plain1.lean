/-! ===== PURE PART 20: the plain reader: giving byte by byte, taking ===== -/
theorem nI_surj (x : Int32) : ∃ k, x = nI k := ⟨x.toUInt32.toNat, by
  apply Int32.toInt_inj.mp
  unfold nI
  simp
  exact BitVec.toInt_eq_toNat_bmod x.toBitVec⟩
/-- one byte is given: t may be as high as held -/
theorem c_give' {f : Nat → Int32} {ob hb sb : Nat} {pl : Int32} {st hd mx ou dp it : Nat} {om : Bool} {p v : Int32} {t : Nat} {g0 g1 : Nat → Int32} (hs : st ≤ sb) (hh : hd ≤ hb) (ho : om = true → ou ≤ ob) (b1 : sb ≤ 1500) (b2 : hb ≤ 800) (b3 : ob ≤ 400) (b4 : mx < 2 ^ 31) (h0 : g0 1 = nI t) (ht : t ≤ hd) (hA : Ac f ob hb sb 0 pl st hd mx ou dp it) :
    (aQ ob hb sb om 1 st hd ou = 1 ∧ ∃ g g2, pX0_give v p (bI om) f g0 g1 = some (g, g2, upd g1 t v) ∧ g2 1 = nI (t + 1) ∧ Ac g ob hb sb 0 pl (st + 1) (hd + 1) (max mx (hd + 1)) (if om = true then ou + 1 else ou) dp it) ∨
    (aQ ob hb sb om 1 st hd ou = 0 ∧ ∃ g, pX0_give v p (bI om) f g0 g1 = some (g, g0, g1) ∧ Ac g ob hb sb (kQ hb sb st hd) p st hd mx ou dp it) := by
  by_cases c2 : hd < hb
  · exact c_give hs hh ho b1 b2 b3 b4 h0 (by omega) hA
  · have hA0 := hA
    obtain ⟨h1, h2, h3, h4, h5, h6, h7, h8, h9, h10, h11⟩ := hA
    refine Or.inr ⟨by unfold aQ; omega, ?_⟩
    unfold pX0_give
    rw [if_pos (by rw [h4]; rfl), h6, h3, h7, h2]
    by_cases c1 : st < sb
    · rw [if_pos (nI_lt c1 (by omega)), if_neg (nI_nlt (by omega) (by omega))]
      obtain ⟨g2, e3, e4⟩ := c_fail (k := 10) (p := p) (kn := 10) rfl hA0
      rw [e3, bd1_s]
      exact ⟨g2, rfl, by unfold kQ; rw [if_neg (by omega), if_pos (by omega)]; exact e4⟩
    · rw [if_neg (nI_nlt (by omega) (by omega))]
      obtain ⟨g2, e3, e4⟩ := c_fail (k := 9) (p := p) (kn := 9) rfl hA0
      rw [e3, bd1_s]
      exact ⟨g2, rfl, by unfold kQ; rw [if_pos (by omega)]; exact e4⟩
/-- the row behind a bytes, each of them made of the top and the row -/
def wR (v : Nat → (Nat → Int32) → Int32) (row : Nat → Int32) (t : Nat) : Nat → Nat → Int32
  | 0 => row
  | a + 1 => upd (wR v row t a) (t + a) (v (t + a) (wR v row t a))
theorem wR_s {v : Nat → (Nat → Int32) → Int32} {row : Nat → Int32} {t : Nat} : ∀ a, wR v (upd row t (v t row)) (t + 1) a = wR v row t (a + 1) := by
  intro a
  induction a with
  | zero => rfl
  | succ a ih =>
    show upd (wR v (upd row t (v t row)) (t + 1) a) (t + 1 + a) (v (t + 1 + a) (wR v (upd row t (v t row)) (t + 1) a)) = upd (wR v row t (a + 1)) (t + (a + 1)) (v (t + (a + 1)) (wR v row t (a + 1)))
    rw [ih, show t + 1 + a = t + (a + 1) by omega]
theorem wR_cp {row : Nat → Int32} {t d : Nat} : ∀ a, wR (fun x r => r (x - d)) row t a = cpR row t d a := by
  intro a
  induction a with
  | zero => rfl
  | succ a ih => show upd (wR (fun x r => r (x - d)) row t a) (t + a) (wR (fun x r => r (x - d)) row t a (t + a - d)) = upd (cpR row t d a) (t + a) (cpR row t d a (t + a - d)); rw [ih]
theorem wR_id {row : Nat → Int32} {t : Nat} : ∀ a, wR (fun x r => r x) row t a = row := by
  intro a
  induction a with
  | zero => rfl
  | succ a ih => show upd (wR (fun x r => r x) row t a) (t + a) (wR (fun x r => r x) row t a (t + a)) = row; rw [ih, usame]
theorem wR_rw {row sv : Nat → Int32} {t p : Nat} : ∀ a, wR (fun x _ => sv (p + (x - t))) row t a = rwR row t sv p a := by
  intro a
  induction a with
  | zero => rfl
  | succ a ih => show upd (wR (fun x _ => sv (p + (x - t))) row t a) (t + a) (sv (p + (t + a - t))) = upd (rwR row t sv p a) (t + a) (sv (p + a)); rw [ih, show t + a - t = a by omega]
/-- q of c bytes were given -/
def Aq (g : Nat → Int32) (ob hb sb : Nat) (pl : Int32) (st hd mx ou dp it : Nat) (om : Bool) (q c : Nat) (p : Int32) : Prop :=
  Ac g ob hb sb (if q < c then kQ hb sb (st + q) (hd + q) else 0) (if q < c then p else pl) (st + q) (hd + q) (max mx (hd + q)) (if om = true then ou + q else ou) dp it
section GIVES
variable {ob hb sb : Nat} {pl p : Int32} {dp it : Nat} {om : Bool} {c t0 : Nat} {v : Nat → (Nat → Int32) → Int32} {R : Type}
theorem Aq_0 {g : Nat → Int32} {st hd mx ou : Nat} (hm : hd ≤ mx) (h : Ac g ob hb sb 0 pl st hd mx ou dp it) : Aq g ob hb sb pl st hd mx ou dp it om 0 0 p := by
  unfold Aq
  rw [if_neg (by omega), if_neg (by omega), Nat.add_zero, Nat.add_zero, Nat.max_eq_left hm, Nat.add_zero]
  cases om <;> exact h
theorem Aq_f {g : Nat → Int32} {st hd mx ou c : Nat} (hm : hd ≤ mx) (hc : 0 < c) (h : Ac g ob hb sb (kQ hb sb st hd) p st hd mx ou dp it) : Aq g ob hb sb pl st hd mx ou dp it om 0 c p := by
  unfold Aq
  rw [if_pos hc, if_pos hc, Nat.add_zero, Nat.add_zero, Nat.max_eq_left hm, Nat.add_zero]
  cases om <;> exact h
theorem Aq_s {g : Nat → Int32} {st hd mx ou q c : Nat} (h : Aq g ob hb sb pl (st + 1) (hd + 1) (max mx (hd + 1)) (if om = true then ou + 1 else ou) dp it om q c p) : Aq g ob hb sb pl st hd mx ou dp it om (q + 1) (c + 1) p := by
  unfold Aq at h ⊢
  have e1 : (q + 1 < c + 1) = (q < c) := propext (by omega)
  rw [show st + 1 + q = st + (q + 1) by omega, show hd + 1 + q = hd + (q + 1) by omega, show max (max mx (hd + 1)) (hd + (q + 1)) = max mx (hd + (q + 1)) by omega] at h
  simp only [e1]
  cases om with
  | true => simp only [if_true] at h ⊢; rw [show ou + (q + 1) = ou + 1 + q by omega]; exact h
  | false => exact h
/-- ANY loop that gives c bytes one by one -/
theorem G_loop {K : (Nat → Int32) → (Nat → Int32) → (Nat → Int32) → Option R} {L : Nat → Nat → (Nat → Int32) → (Nat → Int32) → (Nat → Int32) → Option R} (b1 : sb ≤ 1500) (b2 : hb ≤ 800) (b3 : ob ≤ 400)
    (hstop : ∀ m j f3 f4 f5, j = c → L (m + 1) j f3 f4 f5 = K f3 f4 f5)
    (hfail : ∀ m j f3 f4 f5 kd, f3 4 = nI kd → 0 < kd → kd ≤ 10 → L (m + 1) j f3 f4 f5 = K f3 f4 f5)
    (hstep : ∀ m j f3 f4 f5, j < c → f3 4 = nI 0 → f4 1 = nI (t0 + j) → t0 + j ≤ 800 → L (m + 1) j f3 f4 f5 = bd3 (pX0_give (v (t0 + j) f5) p (bI om) f3 f4 f5) (fun x y z => L m (j + 1) x y z)) :
    ∀ (m j : Nat) (f3 f4 f5 : Nat → Int32) (st hd mx ou : Nat), j ≤ c → hb - hd + 1 < m → st ≤ sb → hd ≤ hb → ou ≤ ob → hd ≤ mx → mx < 2 ^ 31 → f4 1 = nI (t0 + j) → t0 + j ≤ hd → Ac f3 ob hb sb 0 pl st hd mx ou dp it →
      ∃ g3 g4, L m j f3 f4 f5 = K g3 g4 (wR v f5 (t0 + j) (aQ ob hb sb om (c - j) st hd ou)) ∧ g4 1 = nI (t0 + j + aQ ob hb sb om (c - j) st hd ou) ∧ Aq g3 ob hb sb pl st hd mx ou dp it om (aQ ob hb sb om (c - j) st hd ou) (c - j) p := by
  intro m
  induction m with
  | zero => intro j f3 f4 f5 st hd mx ou _ h; omega
  | succ m ih =>
    intro j f3 f4 f5 st hd mx ou hj hm hs hh ho hmx hmx2 h4 hth hA
    by_cases cj : c ≤ j
    · have e : c - j = 0 := by omega
      have eq : aQ ob hb sb om 0 st hd ou = 0 := by have := (aQ_le ob hb sb om 0 st hd ou).1; omega
      rw [hstop m j f3 f4 f5 (by omega), e, eq]
      exact ⟨f3, f4, rfl, h4, Aq_0 hmx hA⟩
    · obtain ⟨c', hc'⟩ : ∃ x, c - j = x + 1 := ⟨c - j - 1, by omega⟩
      rw [hstep m j f3 f4 f5 (by omega) hA.2.2.2.1 h4 (by omega), hc']
      rcases c_give' (v := v (t0 + j) f5) (p := p) (om := om) (g1 := f5) hs hh (fun _ => ho) b1 b2 b3 hmx2 h4 hth hA with ⟨q1, g, g2, e1, e2, e3⟩ | ⟨q1, g, e1, e2⟩
      · rw [e1, bd3_s, aQ_s q1]
        have hlo : st + 1 ≤ sb ∧ hd + 1 ≤ hb ∧ (om = true → ou + 1 ≤ ob) := by
          have := aQ_le ob hb sb om 1 st hd ou
          rw [q1] at this
          exact ⟨by omega, by omega, fun h => by have := this.2.2.2 h; omega⟩
        obtain ⟨g3, g4, x1, x2, x3⟩ := ih (j + 1) g g2 (upd f5 (t0 + j) (v (t0 + j) f5)) (st + 1) (hd + 1) (max mx (hd + 1)) (if om = true then ou + 1 else ou) (by omega) (by omega) hlo.1 hlo.2.1 (by split; exact hlo.2.2 (by assumption); exact ho) (by omega) (by omega) (by rw [e2]; congr 1) (by omega) e3
        have ec : c - (j + 1) = c' := by omega
        rw [ec] at x1 x2 x3
        refine ⟨g3, g4, ?_, ?_, Aq_s x3⟩
        · rw [x1, show t0 + (j + 1) = t0 + j + 1 by omega, wR_s]
        · rw [x2]; congr 1; omega
      · obtain ⟨m, rfl⟩ : ∃ x, m = x + 1 := ⟨m - 1, by omega⟩
        have hkd := kQ_pos hb sb st hd
        rw [e1, bd3_s, aQ_0 q1, hfail m (j + 1) g f4 f5 _ e2.2.2.2.1 hkd.1 hkd.2]
        exact ⟨g, f4, rfl, h4, Aq_f hmx (by omega) e2⟩
end GIVES
def Pf (f0 : Nat → Int32) (pos lim np : Nat) : Prop := f0 3 = nI lim ∧ f0 4 = nI np ∧ f0 5 = nI pos
section PLAIN
variable {N n ob hb sb : Nat} {b : Nat → Nat} {sv : Nat → Int32} {outs : List Fr} {f0 f1 f2 f3 f4 f5 : Nat → Int32} {pl : Int32} {st hd mx ou dp it pos lim np base kd : Nat} {a1 a2 a3 a4 : Int32}
theorem Pf_u {x : Nat} (h : Pf f0 pos lim np) : Pf (upd f0 5 (nI x)) x lim np := ⟨by rw [un (by decide)]; exact h.1, by rw [un (by decide)]; exact h.2.1, us⟩
theorem d_one (hl : outs.length ≤ 5) : (nI (outs.length + 1) = (1 : Int32)) = (isO outs = true) := by
  apply propext
  rw [k1, nI_eq (by omega) (by omega)]
  cases outs with
  | nil => simp [isO]
  | cons x o => simp [isO]
theorem d_bI (hl : outs.length ≤ 5) {β : Type} (k : Int32 → β) : (if nI (outs.length + 1) = (1 : Int32) then k 1 else k 0) = k (bI (isO outs)) := by
  simp only [d_one hl]
  unfold bI
  cases isO outs <;> rfl
theorem P_take_t (hP : Pf f0 pos lim np) (h1 : f1 1 = nI n) (hn : n ≤ 160) (hlim : lim ≤ n) (hp : pos + 1 ≤ lim) (hk : f3 4 = nI 0) : pX3_take a1 f0 f1 f2 f3 = some (f2 pos, upd f0 5 (nI (pos + 1)), f3) := by
  unfold pX3_take
  rw [c_failed_0 hk, bd1_s, if_pos rfl, hP.2.2, hP.1, if_pos (nI_lt (by omega) (by omega)), lt_x, nI_1, us, k1, nsub (by omega), show pos + 1 - 1 = pos by omega, s_at h1 hn (by omega), bd1_s]
theorem P_take_f (hl : outs.length ≤ 5) (hP : Pf f0 pos lim np) (hp : lim ≤ pos) (hpos : pos ≤ 160) (hA : Ac f3 ob hb sb 0 pl st hd mx ou dp it) : ∃ g3, pX3_take (nI (outs.length + 1)) f0 f1 f2 f3 = some (0, f0, g3) ∧ Ac g3 ob hb sb (mK outs) (nI np) st hd mx ou dp it := by
  unfold pX3_take
  rw [c_failed_0 hA.2.2.2.1, bd1_s, if_pos rfl, hP.2.2, hP.1, if_neg (nI_nlt (by omega) (by omega))]
  unfold bfX3_take_37
  rw [hP.2.1]
  simp only [d_one hl]
  cases outs with
  | nil =>
    obtain ⟨g, e1, e2⟩ := c_fail (k := 1) (p := nI np) (kn := 1) rfl hA
    rw [if_pos (show isO ([] : List Fr) = true from rfl), e1, bd1_s]
    exact ⟨g, rfl, e2⟩
  | cons a o =>
    obtain ⟨g, e1, e2⟩ := c_fail (k := 2) (p := nI np) (kn := 2) rfl hA
    rw [if_neg (by intro h; cases h), e1, bd1_s]
    exact ⟨g, rfl, e2⟩
theorem P_take_n (h : f3 4 = nI kd) (h0 : 0 < kd) (h1 : kd ≤ 10) : pX3_take a1 f0 f1 f2 f3 = some (0, f0, f3) := by
  unfold pX3_take
  rw [c_failed_1 h h0 (by omega), bd1_s, if_neg (by decide)]
theorem P_begin_t (hP : Pf f0 pos lim np) (h1 : f1 1 = nI n) (hn : n ≤ 160) (hlim : lim ≤ n) (hp : pos + 1 ≤ lim) (hs : st < sb) (hsb : sb ≤ 1500) (hA : Ac f3 ob hb sb 0 pl st hd mx ou dp it) : ∃ g, pX3_beginItem a1 f0 f1 f2 f3 = some (f2 pos, upd f0 5 (nI (pos + 1)), g) ∧ Ac g ob hb sb 0 pl (st + 1) hd mx ou dp (it + 1) := by
  unfold pX3_beginItem
  obtain ⟨g, e1, e2⟩ := c_begin_t (p := nI pos) hs (by omega) hA
  rw [lt_x, hP.2.2, P_take_t hP h1 hn hlim hp hA.2.2.2.1, bd3_s, c_failed_0 hA.2.2.2.1, bd1_s, if_pos rfl, e1, bd2_s, if_neg (by decide)]
  exact ⟨g, rfl, e2⟩
theorem P_begin_c (hl : outs.length ≤ 5) (hP : Pf f0 pos lim np) (hp : lim ≤ pos) (hpos : pos ≤ 160) (hA : Ac f3 ob hb sb 0 pl st hd mx ou dp it) : ∃ g, pX3_beginItem (nI (outs.length + 1)) f0 f1 f2 f3 = some (0, f0, g) ∧ Ac g ob hb sb (mK outs) (nI np) st hd mx ou dp it := by
  unfold pX3_beginItem
  obtain ⟨g, e1, e2⟩ := P_take_f (f1 := f1) (f2 := f2) hl hP hp hpos hA
  have hmk : 0 < mK outs ∧ mK outs ≤ 2 := by unfold mK; split <;> omega
  rw [lt_x, e1, bd3_s, c_failed_1 e2.2.2.2.1 hmk.1 (by omega), bd1_s, if_neg (by decide)]
  exact ⟨g, rfl, e2⟩
theorem P_begin_s (hP : Pf f0 pos lim np) (h1 : f1 1 = nI n) (hn : n ≤ 160) (hlim : lim ≤ n) (hp : pos + 1 ≤ lim) (hs : sb ≤ st) (hst : st < 2 ^ 31) (hA : Ac f3 ob hb sb 0 pl st hd mx ou dp it) : ∃ g0 g, pX3_beginItem a1 f0 f1 f2 f3 = some (0, g0, g) ∧ Ac g ob hb sb 9 (nI pos) st hd mx ou dp it := by
  unfold pX3_beginItem
  obtain ⟨g, e1, e2⟩ := c_begin_f (p := nI pos) hs hst hA
  rw [lt_x, hP.2.2, P_take_t hP h1 hn hlim hp hA.2.2.2.1, bd3_s, c_failed_0 hA.2.2.2.1, bd1_s, if_pos rfl, e1, bd2_s, if_pos rfl]
  exact ⟨_, g, rfl, e2⟩
/-! behind a fault nothing is done -/
theorem P_raw40_n {m : Nat} {v4 v5 : Int32} (h : f3 4 = nI kd) (h0 : 0 < kd) (h1 : kd ≤ 10) : bfX3_readRaw_40 N a1 a2 a3 f1 f2 (m + 1) v4 v5 f0 f3 f4 f5 = some (f0, f3, f4, f5) := by
  show bFX3_readRaw_40 N a1 a2 a3 f1 f2 (bfX3_readRaw_40 N a1 a2 a3 f1 f2 m) v4 v5 f0 f3 f4 f5 = _
  unfold bFX3_readRaw_40
  rw [c_failed_1 h h0 (by omega), bd1_s, if_neg (show ¬ (1 : Int32) = 0 by decide)]
  split <;> rfl
theorem P_raw9_n {m : Nat} {v4 v5 : Int32} (hN : 0 < N) (h : f3 4 = nI kd) (h0 : 0 < kd) (h1 : kd ≤ 10) : bfX3_readRaw_9 N a1 a2 a3 f1 f2 (m + 1) v4 v5 f0 f3 f4 f5 = some (f0, f3, f4, f5) := by
  show bFX3_readRaw_9 N a1 a2 a3 f1 f2 (bfX3_readRaw_9 N a1 a2 a3 f1 f2 m) v4 v5 f0 f3 f4 f5 = _
  have e : bfX3_readRaw_37 N a1 a2 a3 f1 f2 v4 f0 f3 f4 f5 = some (f0, f3, f4, f5) := by
    unfold bfX3_readRaw_37
    obtain ⟨k, rfl⟩ : ∃ k, N = k + 1 := ⟨N - 1, by omega⟩
    exact P_raw40_n h h0 h1
  unfold bFX3_readRaw_9
  rw [c_failed_1 h h0 (by omega), bd1_s, e, if_neg (show ¬ (1 : Int32) = 0 by decide)]
  split <;> rfl
theorem P_raw_n (hN : 0 < N) (h : f3 4 = nI kd) (h0 : 0 < kd) (h1 : kd ≤ 10) : pX3_readRaw N a1 a2 a3 f0 f1 f2 f3 f4 f5 = some (f0, f3, f4, f5) := by
  unfold pX3_readRaw
  obtain ⟨k, rfl⟩ : ∃ k, N = k + 1 := ⟨N - 1, by omega⟩
  rw [lt_x]
  exact P_raw9_n (by omega) h h0 h1
theorem P_copy_n {v5 : Int32} (hN : 0 < N) (h : f3 4 = nI kd) (h0 : 0 < kd) (h1 : kd ≤ 10) : bfX3_readCopy_38 N a1 a2 a3 a4 f1 f2 v5 f0 f3 f4 f5 = some (f0, f3, f4, f5) := by
  unfold bfX3_readCopy_38
  obtain ⟨k, rfl⟩ : ∃ k, N = k + 1 := ⟨N - 1, by omega⟩
  show bFX3_readCopy_41 (k + 1) a1 a2 a3 a4 f1 f2 (bfX3_readCopy_41 (k + 1) a1 a2 a3 a4 f1 f2 k) v5 0 f0 f3 f4 f5 = _
  unfold bFX3_readCopy_41 pX6_copyCount
  rw [bd1_s, c_failed_1 h h0 (by omega), bd1_s, if_neg (show ¬ (1 : Int32) = 0 by decide)]
  split <;> rfl
theorem P_again_n (hN : 0 < N) (h : f3 4 = nI kd) (h0 : 0 < kd) (h1 : kd ≤ 10) {i : Nat} (hi : i < n) (hn : n ≤ 160) (hf1 : f1 1 = nI n) : pX3_giveAgain N (nI i) a2 a3 f0 f1 f2 f3 f4 f5 = some (f3, f4, f5) := by
  unfold pX3_giveAgain pX4_top
  obtain ⟨k, rfl⟩ : ∃ k, N = k + 1 := ⟨N - 1, by omega⟩
  rw [bd1_s, s_at hf1 hn hi, bd1_s]
  unfold pX6_timesMore
  rw [bd1_s, lt_x]
  show bFX3_giveAgain_26 (k + 1) (nI i) a2 a3 f0 f1 f2 (bfX3_giveAgain_26 (k + 1) (nI i) a2 a3 f0 f1 f2 k) _ 0 f3 f4 f5 = _
  unfold bFX3_giveAgain_26
  rw [c_failed_1 h h0 (by omega), bd1_s, if_neg (show ¬ (1 : Int32) = 0 by decide)]
  split <;> rfl
end PLAIN
