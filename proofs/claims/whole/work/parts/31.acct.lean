/-! ===== PURE PART 2: the account: what its methods do, by numbers ===== -/
def Ac (f : Nat → Int32) (ob hb sb kd : Nat) (pl : Int32) (st hd mx ou dp it : Nat) : Prop :=
  f 1 = nI ob ∧ f 2 = nI hb ∧ f 3 = nI sb ∧ f 4 = nI kd ∧ f 5 = pl ∧ f 6 = nI st ∧ f 7 = nI hd ∧ f 8 = nI mx ∧ f 9 = nI ou ∧ f 10 = nI dp ∧ f 11 = nI it
/-- how many of c bytes the bounds allow; which bound refuses the next one -/
def aQ (ob hb sb : Nat) (om : Bool) (c st hd ou : Nat) : Nat := min c (min (sb - st) (min (hb - hd) (if om = true then ob - ou else c)))
def kQ (hb sb st hd : Nat) : Nat := if sb ≤ st then 9 else if hb ≤ hd then 10 else 8
def bI (om : Bool) : Int32 := if om = true then 1 else 0
theorem kQ_pos (hb sb st hd : Nat) : 0 < kQ hb sb st hd ∧ kQ hb sb st hd ≤ 10 := by unfold kQ; split <;> (try split) <;> omega
section ACCT
variable {f : Nat → Int32} {ob hb sb kd : Nat} {pl : Int32} {st hd mx ou dp it : Nat}
theorem c_failed_0 (h : f 4 = nI 0) : pX0_failed f = some 0 := by
  unfold pX0_failed
  rw [if_pos (by rw [h]; rfl)]
theorem c_failed_1 (h : f 4 = nI kd) (h0 : 0 < kd) (h1 : kd < 2 ^ 31) : pX0_failed f = some 1 := by
  unfold pX0_failed
  rw [if_neg (by rw [h]; exact nI_ne0 h0 h1)]
theorem c_fail {k : Int32} {p : Int32} {kn : Nat} (hk : k = nI kn) (hA : Ac f ob hb sb 0 pl st hd mx ou dp it) : ∃ g, pX0_fail k p f = some g ∧ Ac g ob hb sb kn p st hd mx ou dp it := by
  obtain ⟨h1, h2, h3, h4, h5, h6, h7, h8, h9, h10, h11⟩ := hA
  refine ⟨upd (upd f 4 k) 5 p, ?_, ?_⟩
  · unfold pX0_fail
    rw [if_pos (by rw [h4]; rfl), lt_x, lt_x]
  · refine ⟨?_, ?_, ?_, ?_, ?_, ?_, ?_, ?_, ?_, ?_, ?_⟩ <;> simp [upd, *]
theorem c_fail_n {k p : Int32} (h : f 4 = nI kd) (h0 : 0 < kd) (h1 : kd < 2 ^ 31) : pX0_fail k p f = some f := by
  unfold pX0_fail
  rw [if_neg (by rw [h]; exact nI_ne0 h0 h1)]
theorem c_start {g0 : Nat → Int32} {t : Nat} (ht : t < 2 ^ 31) (h0 : g0 1 = nI t) : ∃ g g1, pX0_start (nI ob) (nI hb) (nI sb) f g0 = some (g, g1) ∧ Ac g ob hb sb 0 (-1) 0 0 0 0 0 0 ∧ g1 1 = nI 0 := by
  obtain ⟨g1, e1, e2⟩ := r_back' h0 ht (k := 0) (by omega)
  unfold pX0_start
  simp only [lt_x, k0, e1, bd1_s]
  refine ⟨_, g1, rfl, ?_, e2⟩
  refine ⟨?_, ?_, ?_, ?_, ?_, ?_, ?_, ?_, ?_, ?_, ?_⟩ <;> simp [upd]
theorem c_reach {d : Nat} (hd1 : dp < 2 ^ 31) (hd2 : d < 2 ^ 31) (hA : Ac f ob hb sb kd pl st hd mx ou dp it) : ∃ g, pX0_reachDepth (nI d) f = some g ∧ Ac g ob hb sb kd pl st hd mx ou (max dp d) it := by
  obtain ⟨h1, h2, h3, h4, h5, h6, h7, h8, h9, h10, h11⟩ := hA
  unfold pX0_reachDepth
  rw [lt_x]
  refine ⟨_, rfl, ?_⟩
  have e : (if f 10 < nI d then nI d else f 10) = nI (max dp d) := by
    rw [h10]
    by_cases c : dp < d
    · rw [if_pos (nI_lt c hd2), Nat.max_eq_right (by omega)]
    · rw [if_neg (nI_nlt (by omega) hd1), Nat.max_eq_left (by omega)]
  rw [e]
  refine ⟨?_, ?_, ?_, ?_, ?_, ?_, ?_, ?_, ?_, ?_, ?_⟩ <;> simp [upd, *]
theorem c_begin_t {p : Int32} (hs : st < sb) (hsb : sb < 2 ^ 31) (hA : Ac f ob hb sb kd pl st hd mx ou dp it) : ∃ g, pX0_beginItem p f = some (1, g) ∧ Ac g ob hb sb kd pl (st + 1) hd mx ou dp (it + 1) := by
  obtain ⟨h1, h2, h3, h4, h5, h6, h7, h8, h9, h10, h11⟩ := hA
  unfold pX0_beginItem
  rw [if_pos (by rw [h6, h3]; exact nI_lt hs hsb), lt_x, lt_x]
  refine ⟨_, rfl, ?_⟩
  refine ⟨?_, ?_, ?_, ?_, ?_, ?_, ?_, ?_, ?_, ?_, ?_⟩ <;> simp [upd, nI_1, *]
theorem c_begin_f {p : Int32} (hs : sb ≤ st) (hsb : st < 2 ^ 31) (hA : Ac f ob hb sb 0 pl st hd mx ou dp it) : ∃ g, pX0_beginItem p f = some (0, g) ∧ Ac g ob hb sb 9 p st hd mx ou dp it := by
  obtain ⟨g, e1, e2⟩ := c_fail (k := 9) (p := p) (kn := 9) rfl hA
  obtain ⟨h1, h2, h3, h4, h5, h6, h7, h8, h9, h10, h11⟩ := hA
  unfold pX0_beginItem
  rw [if_neg (by rw [h6, h3]; exact nI_nlt hs hsb), e1, bd1_s]
  exact ⟨g, rfl, e2⟩
theorem c_charge {a : Nat} {om : Bool} (hhd : hd + a < 2 ^ 31) (hmx : mx < 2 ^ 31) (hA : Ac f ob hb sb kd pl st hd mx ou dp it) : ∃ g, pX0_charge (nI a) (bI om) f = some g ∧ Ac g ob hb sb kd pl (st + a) (hd + a) (max mx (hd + a)) (if om = true then ou + a else ou) dp it := by
  obtain ⟨h1, h2, h3, h4, h5, h6, h7, h8, h9, h10, h11⟩ := hA
  unfold pX0_charge bfX0_charge_39
  simp only [lt_x]
  have e7 : upd (upd f 6 (f 6 + nI a)) 7 (upd f 6 (f 6 + nI a) 7 + nI a) 7 = nI (hd + a) := by simp [upd, h7, nI_add]
  have e8 : upd (upd f 6 (f 6 + nI a)) 7 (upd f 6 (f 6 + nI a) 7 + nI a) 8 = nI mx := by simp [upd, h8]
  rw [e7, e8]
  by_cases c : hd + a ≤ mx
  · rw [if_pos (nI_le c hmx), Nat.max_eq_left c]
    cases om with
    | true =>
      rw [if_neg (by decide)]
      refine ⟨_, rfl, ?_⟩
      refine ⟨?_, ?_, ?_, ?_, ?_, ?_, ?_, ?_, ?_, ?_, ?_⟩ <;> simp [upd, nI_add, *]
    | false =>
      rw [if_pos (show bI false = 0 from rfl)]
      refine ⟨_, rfl, ?_⟩
      refine ⟨?_, ?_, ?_, ?_, ?_, ?_, ?_, ?_, ?_, ?_, ?_⟩ <;> simp [upd, nI_add, *]
  · rw [if_neg (nI_ge (by omega) hhd), Nat.max_eq_right (by omega)]
    cases om with
    | true =>
      rw [if_neg (by decide)]
      refine ⟨_, rfl, ?_⟩
      refine ⟨?_, ?_, ?_, ?_, ?_, ?_, ?_, ?_, ?_, ?_, ?_⟩ <;> simp [upd, nI_add, *]
    | false =>
      rw [if_pos (show bI false = 0 from rfl)]
      refine ⟨_, rfl, ?_⟩
      refine ⟨?_, ?_, ?_, ?_, ?_, ?_, ?_, ?_, ?_, ?_, ?_⟩ <;> simp [upd, nI_add, *]
theorem c_tight (h1 : st < 2 ^ 31) (h2 : sb < 2 ^ 31) (h3 : hd < 2 ^ 31) (h4 : hb < 2 ^ 31) (hA : Ac f ob hb sb kd pl st hd mx ou dp it) : pX0_tightBound f = some (nI (kQ hb sb st hd)) := by
  obtain ⟨-, g2, g3, -, -, g6, g7, -⟩ := hA
  unfold pX0_tightBound kQ
  rw [g2, g3, g6, g7]
  by_cases c : st < sb
  · rw [if_pos (nI_lt c h2), if_neg (show ¬ sb ≤ st by omega)]
    by_cases d : hd < hb
    · rw [if_pos (nI_lt d h4), if_neg (show ¬ hb ≤ hd by omega)]; rfl
    · rw [if_neg (nI_nlt (show hb ≤ hd by omega) h3), if_pos (show hb ≤ hd by omega)]; rfl
  · rw [if_neg (nI_nlt (show sb ≤ st by omega) h1), if_pos (show sb ≤ st by omega)]; rfl
theorem nmin {a b : Nat} (ha : a < 2 ^ 31) (hb : b < 2 ^ 31) : (if nI b < nI a then nI b else nI a) = nI (min a b) := by
  by_cases c : b < a
  · rw [if_pos (nI_lt c ha), Nat.min_eq_right (by omega)]
  · rw [if_neg (nI_nlt (by omega) hb), Nat.min_eq_left (by omega)]
theorem aQ_le (ob hb sb : Nat) (om : Bool) (c st hd ou : Nat) : aQ ob hb sb om c st hd ou ≤ c ∧ aQ ob hb sb om c st hd ou ≤ sb - st ∧ aQ ob hb sb om c st hd ou ≤ hb - hd ∧ (om = true → aQ ob hb sb om c st hd ou ≤ ob - ou) := by
  unfold aQ
  refine ⟨by omega, by omega, by omega, fun h => ?_⟩
  rw [if_pos h]
  omega
theorem c_ask {c : Nat} {om : Bool} {p : Int32} (hs : st ≤ sb) (hh : hd ≤ hb) (ho : om = true → ou ≤ ob) (b1 : sb ≤ 1500) (b2 : hb ≤ 800) (b3 : ob ≤ 400) (b4 : mx < 2 ^ 31) (hc : c < 2 ^ 31) (hA : Ac f ob hb sb 0 pl st hd mx ou dp it) :
    ∃ g, pX0_ask (nI c) p (bI om) f = some (nI (aQ ob hb sb om c st hd ou), g) ∧ Ac g ob hb sb (if aQ ob hb sb om c st hd ou < c then kQ hb sb (st + aQ ob hb sb om c st hd ou) (hd + aQ ob hb sb om c st hd ou) else 0) (if aQ ob hb sb om c st hd ou < c then p else pl) (st + aQ ob hb sb om c st hd ou) (hd + aQ ob hb sb om c st hd ou) (max mx (hd + aQ ob hb sb om c st hd ou)) (if om = true then ou + aQ ob hb sb om c st hd ou else ou) dp it := by
  obtain ⟨q1, q2, q3, q4⟩ := aQ_le ob hb sb om c st hd ou
  have key : pX0_ask (nI c) p (bI om) f = bfX0_ask_47 (nI c) p (bI om) (nI (aQ ob hb sb om c st hd ou)) f := by
    obtain ⟨h1, h2, h3, h4, h5, h6, h7, h8, h9, h10, h11⟩ := hA
    unfold pX0_ask
    rw [lt_x, h2, h3, h6, h7, nsub hh, nsub hs, nmin (by omega) (by omega), nmin (by omega) (by omega)]
    cases om with
    | true =>
      rw [if_neg (by decide), lt_x, h1, h9, nsub (ho rfl), nmin (by omega) (by omega)]
      have e : min (min c (min (sb - st) (hb - hd))) (ob - ou) = aQ ob hb sb true c st hd ou := by unfold aQ; rw [if_pos rfl]; omega
      rw [e]
    | false =>
      rw [if_pos (show bI false = 0 from rfl)]
      have e : min c (min (sb - st) (hb - hd)) = aQ ob hb sb false c st hd ou := by unfold aQ; rw [if_neg (by decide)]; omega
      rw [e]
  generalize aQ ob hb sb om c st hd ou = a at q1 q2 q3 q4 key ⊢
  rw [key]
  unfold bfX0_ask_47
  obtain ⟨g, e1, e2⟩ := c_charge (a := a) (om := om) (by omega) b4 hA
  rw [e1, bd1_s]
  by_cases ca : a < c
  · rw [if_neg (nI_ge ca hc), c_tight (by omega) (by omega) (by omega) (by omega) e2, bd1_s]
    obtain ⟨g2, e3, e4⟩ := c_fail (k := nI (kQ hb sb (st + a) (hd + a))) (p := p) rfl e2
    rw [e3, bd1_s]
    refine ⟨g2, rfl, ?_⟩
    rw [if_pos ca, if_pos ca]
    exact e4
  · rw [if_pos (nI_le (by omega) (by omega))]
    refine ⟨g, rfl, ?_⟩
    rw [if_neg ca, if_neg ca]
    exact e2
theorem c_release {c : Nat} (hc : c ≤ hd) (hA : Ac f ob hb sb kd pl st hd mx ou dp it) : ∃ g, pX0_release (nI c) f = some g ∧ Ac g ob hb sb kd pl st (hd - c) mx ou dp it := by
  obtain ⟨h1, h2, h3, h4, h5, h6, h7, h8, h9, h10, h11⟩ := hA
  unfold pX0_release
  rw [lt_x, h7, nsub hc]
  refine ⟨_, rfl, ?_⟩
  refine ⟨?_, ?_, ?_, ?_, ?_, ?_, ?_, ?_, ?_, ?_, ?_⟩ <;> simp [upd, *]
theorem c_answer_0 (hA : Ac f ob hb sb 0 pl st hd mx ou dp it) : pX0_answer f = some (nI ou) := by
  obtain ⟨h1, h2, h3, h4, h5, h6, h7, h8, h9, h10, h11⟩ := hA
  unfold pX0_answer
  rw [c_failed_0 h4, bd1_s, if_pos rfl, h9]
theorem c_answer_1 (h0 : 0 < kd) (h1 : kd < 2 ^ 31) (hA : Ac f ob hb sb kd pl st hd mx ou dp it) : pX0_answer f = some (-10 - nI kd) := by
  obtain ⟨-, h2, h3, h4, h5, h6, h7, h8, h9, h10, h11⟩ := hA
  unfold pX0_answer
  rw [c_failed_1 h4 h0 h1, bd1_s, if_neg (by decide), h4]
/-- one byte is given -/
theorem c_give {om : Bool} {p v : Int32} {t : Nat} {g0 g1 : Nat → Int32} (hs : st ≤ sb) (hh : hd ≤ hb) (ho : om = true → ou ≤ ob) (b1 : sb ≤ 1500) (b2 : hb ≤ 800) (b3 : ob ≤ 400) (b4 : mx < 2 ^ 31) (h0 : g0 1 = nI t) (ht : t < 800) (hA : Ac f ob hb sb 0 pl st hd mx ou dp it) :
    (aQ ob hb sb om 1 st hd ou = 1 ∧ ∃ g g2, pX0_give v p (bI om) f g0 g1 = some (g, g2, upd g1 t v) ∧ g2 1 = nI (t + 1) ∧ Ac g ob hb sb 0 pl (st + 1) (hd + 1) (max mx (hd + 1)) (if om = true then ou + 1 else ou) dp it) ∨
    (aQ ob hb sb om 1 st hd ou = 0 ∧ ∃ g, pX0_give v p (bI om) f g0 g1 = some (g, g0, g1) ∧ Ac g ob hb sb (kQ hb sb st hd) p st hd mx ou dp it) := by
  have hA0 := hA
  obtain ⟨h1, h2, h3, h4, h5, h6, h7, h8, h9, h10, h11⟩ := hA
  unfold pX0_give
  rw [if_pos (by rw [h4]; rfl), h6, h3, h7, h2]
  by_cases c1 : st < sb
  · rw [if_pos (nI_lt c1 (by omega))]
    by_cases c2 : hd < hb
    · rw [if_pos (nI_lt c2 (by omega))]
      have okc : bfX0_give_75 v p (bI om) f g0 g1 = bd1 (pX0_charge 1 (bI om) f) (fun f0_1 => bd2 (pX4_push v g0 g1) (fun f1_3 f2_4 => some (f0_1, f1_3, f2_4))) := rfl
      obtain ⟨g, e1, e2⟩ := c_charge (a := 1) (om := om) (by omega) b4 hA0
      rw [← k1] at e1
      rw [okc, e1, bd1_s, r_push h0 ht, bd2_s]
      cases om with
      | true =>
        rw [if_neg (by decide), h9, h1]
        by_cases c3 : ou < ob
        · rw [if_pos (nI_lt c3 (by omega))]
          exact Or.inl ⟨by unfold aQ; rw [if_pos rfl]; omega, g, _, rfl, us, e2⟩
        · rw [if_neg (nI_nlt (by omega) (by have := ho rfl; omega))]
          obtain ⟨g2, e3, e4⟩ := c_fail (k := 8) (p := p) (kn := 8) rfl hA0
          rw [e3, bd1_s]
          exact Or.inr ⟨by unfold aQ; rw [if_pos rfl]; omega, g2, rfl, by unfold kQ; rw [if_neg (by omega), if_neg (by omega)]; exact e4⟩
      | false =>
        rw [if_pos (show bI false = 0 from rfl)]
        exact Or.inl ⟨by unfold aQ; rw [if_neg (by decide)]; omega, g, _, rfl, us, e2⟩
    · rw [if_neg (nI_nlt (by omega) (by omega))]
      obtain ⟨g2, e3, e4⟩ := c_fail (k := 10) (p := p) (kn := 10) rfl hA0
      rw [e3, bd1_s]
      exact Or.inr ⟨by unfold aQ; omega, g2, rfl, by unfold kQ; rw [if_neg (by omega), if_pos (by omega)]; exact e4⟩
  · rw [if_neg (nI_nlt (by omega) (by omega))]
    obtain ⟨g2, e3, e4⟩ := c_fail (k := 9) (p := p) (kn := 9) rfl hA0
    rw [e3, bd1_s]
    exact Or.inr ⟨by unfold aQ; omega, g2, rfl, by unfold kQ; rw [if_pos (by omega)]; exact e4⟩
end ACCT
