/-! ===== PURE PART 4: the reader that asks ahead: its small methods ===== -/
def srt (t : Nat) : Nat := if t = 0 then 0 else if t < 64 then 1 else if t < 128 then 2 else if t < 192 then 3 else if t < 255 then 4 else 5
theorem x_sort {t : Nat} (h : t < 256) : pX6_sortOf (nI t) = some (nI (srt t)) := by
  unfold pX6_sortOf srt
  simp (disch := omega) only [k0, k64, k128, k192, k255, nle, neq]
  by_cases c0 : t = 0
  · simp only [c0, if_true]
  · by_cases c1 : t < 64
    · simp only [c0, c1, if_false, if_true, Nat.not_le.mpr c1]; rfl
    · by_cases c2 : t < 128
      · simp only [c0, c1, c2, if_false, if_true, Nat.not_le.mpr c2, show 64 ≤ t by omega]; rfl
      · by_cases c3 : t < 192
        · simp only [c0, c1, c2, c3, if_false, if_true, Nat.not_le.mpr c3, show 64 ≤ t by omega, show 128 ≤ t by omega]; rfl
        · by_cases c4 : t < 255
          · simp only [c0, c1, c2, c3, c4, if_false, if_true, Nat.not_le.mpr c4, show 64 ≤ t by omega, show 128 ≤ t by omega, show 192 ≤ t by omega]; rfl
          · simp only [c0, c1, c2, c3, c4, if_false, if_true, show 64 ≤ t by omega, show 128 ≤ t by omega, show 192 ≤ t by omega, show 255 ≤ t by omega]; rfl
theorem x_times {t : Nat} (h : 128 ≤ t) : pX6_timesMore (nI t) = some (nI (t - 127)) := by
  unfold pX6_timesMore
  rw [k128, k2, k1, nsub h, nI_add, nsub (by omega), show t - 128 + 2 - 1 = t - 127 by omega]
theorem x_count {t : Nat} (h : 64 ≤ t) : pX6_copyCount (nI t) = some (nI (t - 62)) := by
  unfold pX6_copyCount
  rw [k64, k2, nsub h, nI_add, show t - 64 + 2 = t - 62 by omega]
section AHEAD
variable {N n ob hb sb : Nat} {b : Nat → Nat} {sv : Nat → Int32} {outs : List Fr} {f0 f1 f2 f3 f4 f5 f6 f7 f8 f9 : Nat → Int32} {pl : Int32} {st hd mx ou dp it pos lim np base : Nat}
theorem A_out (h7 : f0 7 = nI (outs.length + 1)) (hl : outs.length ≤ 5) : pX1_isOutermost f0 = some (bI (isO outs)) := by
  unfold pX1_isOutermost
  cases outs with
  | nil => rw [if_pos (by rw [h7]; rfl)]; rfl
  | cons a o =>
    rw [if_neg (by rw [h7, k1]; intro e; have := (nI_eq (by simp at hl; simp; omega) (by omega)).mp e; simp at this)]
    rfl
theorem A_stand_t {c : Nat} (h7 : f0 7 = nI (outs.length + 1)) (hl : outs.length ≤ 5) (h8 : f0 8 = nI pos) (hf7 : f7 (outs.length + 1) = nI lim) (hlim : lim ≤ 160) (hp : pos + c ≤ lim) : pX1_stand (nI c) f0 f3 f7 f8 = some (1, f3) := by
  unfold pX1_stand
  rw [h7, gi_ok (by omega) (by omega), ncl (by omega), hf7, h8, nsub (by omega), if_neg (nI_nlt (by omega) (by omega))]
theorem A_stand_f {c : Nat} (h7 : f0 7 = nI (outs.length + 1)) (hl : outs.length ≤ 5) (h8 : f0 8 = nI pos) (hf7 : f7 (outs.length + 1) = nI lim) (hf8 : f8 (outs.length + 1) = nI np) (hlim : lim ≤ 160) (hp : pos ≤ lim) (hc : lim < pos + c) (hc2 : c < 2 ^ 31) (hA : Ac f3 ob hb sb 0 pl st hd mx ou dp it) : ∃ g, pX1_stand (nI c) f0 f3 f7 f8 = some (0, g) ∧ Ac g ob hb sb (mK outs) (nI np) st hd mx ou dp it := by
  unfold pX1_stand
  rw [h7, gi_ok (by omega) (by omega), ncl (by omega), hf7, h8, nsub (by omega), if_pos (nI_lt (by omega) (by omega)), A_out h7 hl, bd1_s]
  unfold bfX1_stand_36
  rw [h7, gi_ok (by omega) (by omega), ncl (by omega), hf8]
  cases outs with
  | nil =>
    obtain ⟨g, e1, e2⟩ := c_fail (k := 1) (p := nI np) (kn := 1) rfl hA
    rw [if_neg (by decide), gi_ok (by decide) (by omega), e1, bd1_s]
    exact ⟨g, rfl, e2⟩
  | cons a o =>
    obtain ⟨g, e1, e2⟩ := c_fail (k := 2) (p := nI np) (kn := 2) rfl hA
    rw [if_pos (by rfl), e1, bd1_s]
    exact ⟨g, rfl, e2⟩
theorem A_begin_t (h7 : f0 7 = nI (outs.length + 1)) (hl : outs.length ≤ 5) (h8 : f0 8 = nI pos) (hf7 : f7 (outs.length + 1) = nI lim) (hlim : lim ≤ n) (hn : n ≤ 160) (h1 : f1 1 = nI n) (hp : pos + 1 ≤ lim) (hs : st < sb) (hsb : sb ≤ 1500) (hA : Ac f3 ob hb sb 0 pl st hd mx ou dp it) : ∃ g, pX1_beginItem f0 f1 f2 f3 f7 f8 = some (f2 pos, upd f0 8 (nI (pos + 1)), g) ∧ Ac g ob hb sb 0 pl (st + 1) hd mx ou dp (it + 1) := by
  unfold pX1_beginItem
  rw [k1, A_stand_t h7 hl h8 hf7 (by omega) hp, bd2_s, if_neg (by decide), h8]
  obtain ⟨g, e1, e2⟩ := c_begin_t (p := nI pos) hs (by omega) hA
  rw [e1, bd2_s, if_neg (by decide), lt_x, us, nI_add, nsub (by omega), show pos + 1 - 1 = pos by omega, s_at h1 hn (by omega), bd1_s]
  exact ⟨g, rfl, e2⟩
theorem A_begin_c (h7 : f0 7 = nI (outs.length + 1)) (hl : outs.length ≤ 5) (h8 : f0 8 = nI pos) (hf7 : f7 (outs.length + 1) = nI lim) (hf8 : f8 (outs.length + 1) = nI np) (hlim : lim ≤ 160) (hp : pos ≤ lim) (hc : lim < pos + 1) (hA : Ac f3 ob hb sb 0 pl st hd mx ou dp it) : ∃ g, pX1_beginItem f0 f1 f2 f3 f7 f8 = some (0, f0, g) ∧ Ac g ob hb sb (mK outs) (nI np) st hd mx ou dp it := by
  unfold pX1_beginItem
  obtain ⟨g, e1, e2⟩ := A_stand_f (c := 1) h7 hl h8 hf7 hf8 hlim hp hc (by omega) hA
  rw [k1, e1, bd2_s, if_pos rfl]
  exact ⟨g, rfl, e2⟩
theorem A_begin_s (h7 : f0 7 = nI (outs.length + 1)) (hl : outs.length ≤ 5) (h8 : f0 8 = nI pos) (hf7 : f7 (outs.length + 1) = nI lim) (hlim : lim ≤ 160) (hp : pos + 1 ≤ lim) (hs : sb ≤ st) (hst : st < 2 ^ 31) (hA : Ac f3 ob hb sb 0 pl st hd mx ou dp it) : ∃ g, pX1_beginItem f0 f1 f2 f3 f7 f8 = some (0, f0, g) ∧ Ac g ob hb sb 9 (nI pos) st hd mx ou dp it := by
  unfold pX1_beginItem
  rw [k1, A_stand_t h7 hl h8 hf7 hlim hp, bd2_s, if_neg (by decide), h8]
  obtain ⟨g, e1, e2⟩ := c_begin_f (p := nI pos) hs hst hA
  rw [e1, bd2_s, if_pos rfl]
  exact ⟨g, rfl, e2⟩
/-- c bytes from d before are asked for at place p and given -/
theorem A_gfb {c d t : Nat} {p : Int32} (h7 : f0 7 = nI (outs.length + 1)) (hl : outs.length ≤ 5) (hs : st ≤ sb) (hh : hd ≤ hb) (ho : ou ≤ ob) (b1 : sb ≤ 1500) (b2 : hb ≤ 800) (b3 : ob ≤ 400) (b4 : mx ≤ hb) (hc : c < 2 ^ 31) (hd1 : 1 ≤ d ∨ c = 0) (hdt : d ≤ t) (hth : t = hd) (h4 : f4 1 = nI t) (hN : 1000 < N) (hA : Ac f3 ob hb sb 0 pl st hd mx ou dp it) :
    ∃ g3 g4, pX1_giveFromBefore N (nI d) (nI c) p f0 f3 f4 f5 = some (g3, g4, cpR f5 t d (aQ ob hb sb (isO outs) c st hd ou)) ∧ g4 1 = nI (t + aQ ob hb sb (isO outs) c st hd ou) ∧ Ac g3 ob hb sb (if aQ ob hb sb (isO outs) c st hd ou < c then kQ hb sb (st + aQ ob hb sb (isO outs) c st hd ou) (hd + aQ ob hb sb (isO outs) c st hd ou) else 0) (if aQ ob hb sb (isO outs) c st hd ou < c then p else pl) (st + aQ ob hb sb (isO outs) c st hd ou) (hd + aQ ob hb sb (isO outs) c st hd ou) (max mx (hd + aQ ob hb sb (isO outs) c st hd ou)) (if isO outs = true then ou + aQ ob hb sb (isO outs) c st hd ou else ou) dp it := by
  unfold pX1_giveFromBefore
  rw [A_out h7 hl, bd1_s]
  obtain ⟨g3, e1, e2⟩ := c_ask (c := c) (om := isO outs) (p := p) hs hh (fun _ => ho) b1 b2 b3 (by omega) hc hA
  rw [e1, bd2_s]
  obtain ⟨q1, q2, q3, q4⟩ := aQ_le ob hb sb (isO outs) c st hd ou
  generalize aQ ob hb sb (isO outs) c st hd ou = q at q1 q2 q3 e2 ⊢
  by_cases hq : q = 0
  · subst hq
    rw [r_copy_0 (by omega), bd2_s]
    exact ⟨g3, f4, rfl, h4, e2⟩
  · obtain ⟨g4, e3, e4⟩ := r_copy (N := N) (c := q) (f1 := f5) (by rcases hd1 with h | h <;> omega) h4 hdt (by omega) (by omega)
    rw [e3, bd2_s]
    exact ⟨g3, g4, rfl, e4, e2⟩
end AHEAD
