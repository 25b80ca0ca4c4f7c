/-! ===== PURE PART 13: the reference's reader: bytes given one by one ===== -/
theorem uu {f : Nat → Int32} {k : Nat} {x y : Int32} : upd (upd f k x) k y = upd f k y := by
  funext j
  by_cases h : j = k
  · subst h; rw [us, us]
  · rw [un h, un h, un h]
theorem usame {f : Nat → Int32} {k : Nat} : upd f k (f k) = f := by
  funext j
  by_cases h : j = k
  · subst h; rw [us]
  · rw [un h]
/-- a state of giving: q bytes on, of c that were asked for at place p -/
def Mq (g0 : Nat → Int32) (n d ag pos en : Nat) (pl : Int32) (st hd mx dp it ob hb sb : Nat) (ia ca ga : Int32) (q c : Nat) (p : Int32) : Prop :=
  Mo g0 n d ag pos en (if q < c then kQ hb sb (st + q) (hd + q) else 0) (if q < c then p else pl) (st + q) (hd + q) (max mx (hd + q)) dp it ob hb sb ia ca ga
theorem Mq_0 {g0 : Nat → Int32} {n d ag pos en : Nat} {pl : Int32} {st hd mx dp it ob hb sb : Nat} {ia ca ga : Int32} {p : Int32} (hm : hd ≤ mx) (h : Mo g0 n d ag pos en 0 pl st hd mx dp it ob hb sb ia ca ga) : Mq g0 n d ag pos en pl st hd mx dp it ob hb sb ia ca ga 0 0 p := by
  unfold Mq
  rw [if_neg (by omega), if_neg (by omega), Nat.add_zero, Nat.add_zero, Nat.max_eq_left hm]
  exact h
theorem Mq_f {g0 : Nat → Int32} {n d ag pos en : Nat} {pl : Int32} {st hd mx dp it ob hb sb : Nat} {ia ca ga : Int32} {p : Int32} {c : Nat} (hm : hd ≤ mx) (hc : 0 < c) (h : Mo g0 n d ag pos en (kQ hb sb st hd) p st hd mx dp it ob hb sb ia ca ga) : Mq g0 n d ag pos en pl st hd mx dp it ob hb sb ia ca ga 0 c p := by
  unfold Mq
  rw [if_pos hc, if_pos hc, Nat.add_zero, Nat.add_zero, Nat.max_eq_left hm]
  exact h
theorem Mq_s {g0 : Nat → Int32} {n d ag pos en : Nat} {pl : Int32} {st hd mx dp it ob hb sb : Nat} {ia ca ga : Int32} {p : Int32} {q c : Nat} (h : Mq g0 n d ag pos en pl (st + 1) (hd + 1) (max mx (hd + 1)) dp it ob hb sb ia ca ga q c p) : Mq g0 n d ag pos en pl st hd mx dp it ob hb sb ia ca ga (q + 1) (c + 1) p := by
  unfold Mq at h ⊢
  have e1 : (q + 1 < c + 1) = (q < c) := propext (by omega)
  rw [show st + 1 + q = st + (q + 1) by omega, show hd + 1 + q = hd + (q + 1) by omega, show max (max mx (hd + 1)) (hd + (q + 1)) = max mx (hd + (q + 1)) by omega] at h
  simp only [e1]
  exact h
section LOOPS
variable {N n ob hb sb d ag en base : Nat} {pl p : Int32} {l1 l2 : Int64} {dp it : Nat} {ia ca ga : Int32} {om : Bool} {f1 f2 f4 f5 f6 f7 f9 f10 f11 : Nat → Int32}
/-- RAW, WIDE: c bytes from pos on -/
theorem R_raw_loop {c : Nat} (hom : om = decide (d = 0)) (hd6 : d < 6) (b1 : sb ≤ 1500) (b2 : hb ≤ 800) (b3 : ob ≤ 400) (hc : c < 70000) (h2 : f2 d = nI base) :
    ∀ (m j pos t st hd mx ou : Nat) (f0 f3 f8 : Nat → Int32), j ≤ c → c - j + 1 < m → pos + (c - j) ≤ 160 → st ≤ sb → hd ≤ hb → ou ≤ ob → hd ≤ mx → mx < 2 ^ 31 → f3 d = nI (t - base) → base ≤ t → t ≤ hd → f3 0 = nI ou → (d = 0 → ou = t - base) → Mo f0 n d ag pos en 0 pl st hd mx dp it ob hb sb ia ca ga →
      ∃ g0, bfX7_raw_11 N (nI c) p l1 l2 f1 f2 f4 f6 f7 f9 f10 f11 m (nI j) f0 f3 f8 = bfX7_raw_56 N (nI c) p l1 l2 f1 f2 f4 f6 f7 f9 f10 f11 g0 (upd f3 d (nI (t + aQ ob hb sb om (c - j) st hd ou - base))) (rwR f8 t f1 pos (aQ ob hb sb om (c - j) st hd ou)) ∧ Mq g0 n d ag (pos + aQ ob hb sb om (c - j) st hd ou) en pl st hd mx dp it ob hb sb ia ca ga (aQ ob hb sb om (c - j) st hd ou) (c - j) p := by
  intro m
  induction m with
  | zero => intro j pos t st hd mx ou f0 f3 f8 _ h; omega
  | succ m ih =>
    intro j pos t st hd mx ou f0 f3 f8 hj hm hpos hs hh ho hmx hmx2 h3 hbt hth h30 hou hM
    show ∃ g0, bFX7_raw_11 N (nI c) p l1 l2 f1 f2 f4 f6 f7 f9 f10 f11 (bfX7_raw_11 N (nI c) p l1 l2 f1 f2 f4 f6 f7 f9 f10 f11 m) (nI j) f0 f3 f8 = _ ∧ _
    unfold bFX7_raw_11
    by_cases cj : c ≤ j
    · have e : c - j = 0 := by omega
      have eq : aQ ob hb sb om 0 st hd ou = 0 := by have := (aQ_le ob hb sb om 0 st hd ou).1; omega
      rw [if_pos (nI_le cj (by omega)), e, eq]
      refine ⟨f0, ?_, Mq_0 hmx hM⟩
      rw [Nat.add_zero, ← h3, usame]
      rfl
    · obtain ⟨c', hc'⟩ : ∃ x, c - j = x + 1 := ⟨c - j - 1, by omega⟩
      have hk := hM.2.2.2.2.2.1
      have hp14 := hM.2.2.2.1
      rw [if_neg (nI_ge (by omega) (by omega)), if_pos (by rw [hk]; rfl), hp14, gi_ok (by omega) (by omega), ncl (by omega), hc']
      rcases m_give (v := f1 pos) (p := p) (l1 := l1) (l2 := l2) (f8 := f8) hom hd6 hs hh ho b1 b2 b3 hmx2 h2 h3 hbt (by omega) h30 hM with ⟨q1, g, e1, e2⟩ | ⟨q1, g, e1, e2⟩
      · rw [e1, bd4_s, if_neg (by decide), lt_x]
        unfold bfX7_raw_50
        rw [lt_x, nI_1, aQ_s q1]
        have hM2 : Mo (upd g 14 (g 14 + 1)) n d ag (pos + 1) en 0 pl (st + 1) (hd + 1) (max mx (hd + 1)) dp it ob hb sb ia ca ga := by
          obtain ⟨a1, a2, a3, a4, a5, a6, a7, a8, a9, a10, a11, a12, a13, a14, a15, a16, a17, a18⟩ := e2
          refine ⟨?_, ?_, ?_, ?_, ?_, ?_, ?_, ?_, ?_, ?_, ?_, ?_, ?_, ?_, ?_, ?_, ?_, ?_⟩ <;> simp [upd, nI_1, *]
        have hlo : st + 1 ≤ sb ∧ hd + 1 ≤ hb ∧ (om = true → ou + 1 ≤ ob) := by
          have := aQ_le ob hb sb om 1 st hd ou
          rw [q1] at this
          exact ⟨by omega, by omega, fun h => by have := this.2.2.2 h; omega⟩
        have hd0 : (d = 0) = (om = true) := by rw [hom]; simp
        obtain ⟨g0, e3, e4⟩ := ih (j + 1) (pos + 1) (t + 1) (st + 1) (hd + 1) (max mx (hd + 1)) (if om = true then ou + 1 else ou) (upd g 14 (g 14 + 1)) (upd f3 d (nI (t + 1 - base))) (upd f8 t (f1 pos)) (by omega) (by omega) (by omega) hlo.1 hlo.2.1 (by split; exact hlo.2.2 (by assumption); exact ho) (by omega) (by omega) us (by omega) (by omega)
          (by
            by_cases h0 : d = 0
            · have ho1 : om = true := by rw [← hd0]; exact h0
              rw [if_pos ho1, h0, us, hou h0]
              congr 1; omega
            · have ho1 : ¬ om = true := by rw [← hd0]; exact h0
              rw [if_neg ho1, un (by omega)]; exact h30)
          (fun h0 => by rw [if_pos (by rw [← hd0]; exact h0), hou h0]; omega) hM2
        have ec : c - (j + 1) = c' := by omega
        rw [ec] at e3 e4
        refine ⟨g0, ?_, ?_⟩
        · rw [e3, uu, rwR_s]
          congr 3
          omega
        · have := Mq_s e4
          rw [show pos + (aQ ob hb sb om c' (st + 1) (hd + 1) (if om = true then ou + 1 else ou) + 1) = pos + 1 + aQ ob hb sb om c' (st + 1) (hd + 1) (if om = true then ou + 1 else ou) by omega]
          exact this
      · rw [e1, bd4_s, if_pos rfl]
        unfold bfX7_raw_50
        obtain ⟨m, rfl⟩ : ∃ x, m = x + 1 := ⟨m - 1, by omega⟩
        rw [lt_x, aQ_0 q1, Nat.add_zero t, ← h3, usame]
        refine ⟨g, ?_, Mq_f hmx (by omega) e2⟩
        show bFX7_raw_11 N (nI c) p l1 l2 f1 f2 f4 f6 f7 f9 f10 f11 (bfX7_raw_11 N (nI c) p l1 l2 f1 f2 f4 f6 f7 f9 f10 f11 m) (nI j + 1) g f3 f8 = _
        unfold bFX7_raw_11
        have hkd := kQ_pos hb sb st hd
        have hne : ¬ g 16 = 0 := by rw [e2.2.2.2.2.2.1]; exact nI_ne0 hkd.1 (by omega)
        rw [if_neg hne]
        split <;> rfl
/-- COPY: c bytes from far before -/
theorem R_copy_loop {c far : Nat} (hom : om = decide (d = 0)) (hd6 : d < 6) (b1 : sb ≤ 1500) (b2 : hb ≤ 800) (b3 : ob ≤ 400) (hc : c < 70000) (h2 : f2 d = nI base) (hf1 : 1 ≤ far) :
    ∀ (m j pos t st hd mx ou : Nat) (f0 f3 f8 : Nat → Int32), j ≤ c → c - j + 1 < m → st ≤ sb → hd ≤ hb → ou ≤ ob → hd ≤ mx → mx < 2 ^ 31 → f3 d = nI (t - base) → base ≤ t → far ≤ t → t ≤ hd → f3 0 = nI ou → (d = 0 → ou = t - base) → Mo f0 n d ag pos en 0 pl st hd mx dp it ob hb sb ia ca ga →
      ∃ g0, bfX7_copy_77 N (nI c) p l1 l2 f1 f2 f4 f6 f7 f9 f10 f11 m (nI far) (nI j) f0 f3 f8 = bfX7_copy_129 N (nI c) p l1 l2 f1 f2 f4 f6 f7 f9 f10 f11 g0 (upd f3 d (nI (t + aQ ob hb sb om (c - j) st hd ou - base))) (cpR f8 t far (aQ ob hb sb om (c - j) st hd ou)) ∧ Mq g0 n d ag pos en pl st hd mx dp it ob hb sb ia ca ga (aQ ob hb sb om (c - j) st hd ou) (c - j) p := by
  intro m
  induction m with
  | zero => intro j pos t st hd mx ou f0 f3 f8 _ h; omega
  | succ m ih =>
    intro j pos t st hd mx ou f0 f3 f8 hj hm hs hh ho hmx hmx2 h3 hbt hft hth h30 hou hM
    show ∃ g0, bFX7_copy_77 N (nI c) p l1 l2 f1 f2 f4 f6 f7 f9 f10 f11 (bfX7_copy_77 N (nI c) p l1 l2 f1 f2 f4 f6 f7 f9 f10 f11 m) (nI far) (nI j) f0 f3 f8 = _ ∧ _
    unfold bFX7_copy_77
    by_cases cj : c ≤ j
    · have e : c - j = 0 := by omega
      have eq : aQ ob hb sb om 0 st hd ou = 0 := by have := (aQ_le ob hb sb om 0 st hd ou).1; omega
      rw [if_pos (nI_le cj (by omega)), e, eq]
      refine ⟨f0, ?_, Mq_0 hmx hM⟩
      rw [Nat.add_zero, ← h3, usame]
      rfl
    · obtain ⟨c', hc'⟩ : ∃ x, c - j = x + 1 := ⟨c - j - 1, by omega⟩
      have hk := hM.2.2.2.2.2.1
      have hd2 := hM.2.1
      have hadd : nI base + nI (t - base) - nI far = nI (t - far) := by rw [nI_add, nsub (by omega)]; congr 1; omega
      rw [if_neg (nI_ge (by omega) (by omega)), if_pos (by rw [hk]; rfl), hd2, gi_ok hd6 (by omega), gi_ok hd6 (by omega), ncl (by omega), h2, h3, hadd, gi_ok (by omega) (by omega), ncl (by omega), hc']
      rcases m_give (v := f8 (t - far)) (p := p) (l1 := l1) (l2 := l2) (f8 := f8) hom hd6 hs hh ho b1 b2 b3 hmx2 h2 h3 hbt (by omega) h30 hM with ⟨q1, g, e1, e2⟩ | ⟨q1, g, e1, e2⟩
      · rw [e1, bd4_s, lt_x, nI_1, aQ_s q1]
        have hlo : st + 1 ≤ sb ∧ hd + 1 ≤ hb ∧ (om = true → ou + 1 ≤ ob) := by
          have := aQ_le ob hb sb om 1 st hd ou
          rw [q1] at this
          exact ⟨by omega, by omega, fun h => by have := this.2.2.2 h; omega⟩
        have hd0 : (d = 0) = (om = true) := by rw [hom]; simp
        obtain ⟨g0, e3, e4⟩ := ih (j + 1) pos (t + 1) (st + 1) (hd + 1) (max mx (hd + 1)) (if om = true then ou + 1 else ou) g (upd f3 d (nI (t + 1 - base))) (upd f8 t (f8 (t - far))) (by omega) (by omega) hlo.1 hlo.2.1 (by split; exact hlo.2.2 (by assumption); exact ho) (by omega) (by omega) us (by omega) (by omega) (by omega)
          (by
            by_cases h0 : d = 0
            · have ho1 : om = true := by rw [← hd0]; exact h0
              rw [if_pos ho1, h0, us, hou h0]
              congr 1; omega
            · have ho1 : ¬ om = true := by rw [← hd0]; exact h0
              rw [if_neg ho1, un (by omega)]; exact h30)
          (fun h0 => by rw [if_pos (by rw [← hd0]; exact h0), hou h0]; omega) e2
        have ec : c - (j + 1) = c' := by omega
        rw [ec] at e3 e4
        refine ⟨g0, ?_, Mq_s e4⟩
        rw [e3, uu]
        have key : ∀ a, cpR (upd f8 t (f8 (t - far))) (t + 1) far a = cpR f8 t far (a + 1) := by
          intro a
          induction a with
          | zero => rfl
          | succ a iha =>
            show upd (cpR (upd f8 t (f8 (t - far))) (t + 1) far a) (t + 1 + a) (cpR (upd f8 t (f8 (t - far))) (t + 1) far a (t + 1 + a - far)) = upd (cpR f8 t far (a + 1)) (t + (a + 1)) (cpR f8 t far (a + 1) (t + (a + 1) - far))
            rw [iha, show t + 1 + a = t + (a + 1) by omega]
        rw [key]
        congr 3
        omega
      · obtain ⟨m, rfl⟩ : ∃ x, m = x + 1 := ⟨m - 1, by omega⟩
        rw [e1, bd4_s, lt_x, aQ_0 q1, Nat.add_zero t, ← h3, usame]
        refine ⟨g, ?_, Mq_f hmx (by omega) e2⟩
        show bFX7_copy_77 N (nI c) p l1 l2 f1 f2 f4 f6 f7 f9 f10 f11 (bfX7_copy_77 N (nI c) p l1 l2 f1 f2 f4 f6 f7 f9 f10 f11 m) (nI far) (nI j + 1) g f3 f8 = _
        unfold bFX7_copy_77
        have hkd := kQ_pos hb sb st hd
        have hne : ¬ g 16 = 0 := by rw [e2.2.2.2.2.2.1]; exact nI_ne0 hkd.1 (by omega)
        rw [if_neg hne]
        split <;> rfl
/-- an inner pack's c bytes, which lie from t0 on, are given by the outer one -/
theorem R_leave_loop {c t0 : Nat} (hom : om = decide (d = 0)) (hd6 : d < 6) (b1 : sb ≤ 1500) (b2 : hb ≤ 800) (b3 : ob ≤ 400) (hc : c < 70000) (h2 : f2 d = nI base) (hbt : base ≤ t0) :
    ∀ (m j pos st hd mx ou : Nat) (f0 f3 f8 : Nat → Int32), j ≤ c → c - j + 1 < m → st ≤ sb → hd ≤ hb → ou ≤ ob → hd ≤ mx → mx < 2 ^ 31 → f3 d = nI (t0 + j - base) → t0 + c ≤ 800 → f3 0 = nI ou → (d = 0 → ou = t0 + j - base) → Mo f0 n d ag pos en 0 pl st hd mx dp it ob hb sb ia ca ga →
      ∃ g0, bfX7_end_196 N l1 l2 f1 f2 f4 f5 f6 f7 f9 f10 f11 m (nI t0) (nI c) p (nI j) f0 f3 f8 = bfX7_end_232 N l1 l2 f1 f2 f4 f5 f6 f7 f9 f10 f11 (nI c) g0 (upd f3 d (nI (t0 + j + aQ ob hb sb om (c - j) st hd ou - base))) f8 ∧ Mq g0 n d ag pos en pl st hd mx dp it ob hb sb ia ca ga (aQ ob hb sb om (c - j) st hd ou) (c - j) p := by
  intro m
  induction m with
  | zero => intro j pos st hd mx ou f0 f3 f8 _ h; omega
  | succ m ih =>
    intro j pos st hd mx ou f0 f3 f8 hj hm hs hh ho hmx hmx2 h3 hth h30 hou hM
    show ∃ g0, bFX7_end_196 N l1 l2 f1 f2 f4 f5 f6 f7 f9 f10 f11 (bfX7_end_196 N l1 l2 f1 f2 f4 f5 f6 f7 f9 f10 f11 m) (nI t0) (nI c) p (nI j) f0 f3 f8 = _ ∧ _
    unfold bFX7_end_196
    by_cases cj : c ≤ j
    · have e : c - j = 0 := by omega
      have eq : aQ ob hb sb om 0 st hd ou = 0 := by have := (aQ_le ob hb sb om 0 st hd ou).1; omega
      rw [if_pos (nI_le cj (by omega)), e, eq]
      refine ⟨f0, ?_, Mq_0 hmx hM⟩
      rw [Nat.add_zero, ← h3, usame]
    · obtain ⟨c', hc'⟩ : ∃ x, c - j = x + 1 := ⟨c - j - 1, by omega⟩
      have hk := hM.2.2.2.2.2.1
      rw [if_neg (nI_ge (by omega) (by omega)), if_pos (by rw [hk]; rfl), nI_add, gi_ok (by omega) (by omega), ncl (by omega), hc']
      rcases m_give (v := f8 (t0 + j)) (p := p) (l1 := l1) (l2 := l2) (f8 := f8) hom hd6 hs hh ho b1 b2 b3 hmx2 h2 h3 (by omega) (by omega) h30 hM with ⟨q1, g, e1, e2⟩ | ⟨q1, g, e1, e2⟩
      · rw [e1, bd4_s, lt_x, nI_1, aQ_s q1, usame]
        have hlo : st + 1 ≤ sb ∧ hd + 1 ≤ hb ∧ (om = true → ou + 1 ≤ ob) := by
          have := aQ_le ob hb sb om 1 st hd ou
          rw [q1] at this
          exact ⟨by omega, by omega, fun h => by have := this.2.2.2 h; omega⟩
        have hd0 : (d = 0) = (om = true) := by rw [hom]; simp
        obtain ⟨g0, e3, e4⟩ := ih (j + 1) pos (st + 1) (hd + 1) (max mx (hd + 1)) (if om = true then ou + 1 else ou) g (upd f3 d (nI (t0 + j + 1 - base))) f8 (by omega) (by omega) hlo.1 hlo.2.1 (by split; exact hlo.2.2 (by assumption); exact ho) (by omega) (by omega) (by rw [us]; congr 1) (by omega)
          (by
            by_cases h0 : d = 0
            · have ho1 : om = true := by rw [← hd0]; exact h0
              rw [if_pos ho1, h0, us, hou h0]
              congr 1; omega
            · have ho1 : ¬ om = true := by rw [← hd0]; exact h0
              rw [if_neg ho1, un (by omega)]; exact h30)
          (fun h0 => by rw [if_pos (by rw [← hd0]; exact h0), hou h0]; omega) e2
        have ec : c - (j + 1) = c' := by omega
        rw [ec] at e3 e4
        refine ⟨g0, ?_, Mq_s e4⟩
        rw [e3, uu]
        congr 3
        omega
      · obtain ⟨m, rfl⟩ : ∃ x, m = x + 1 := ⟨m - 1, by omega⟩
        rw [e1, bd4_s, lt_x, aQ_0 q1, Nat.add_zero (t0 + j), ← h3, usame]
        refine ⟨g, ?_, Mq_f hmx (by omega) e2⟩
        show bFX7_end_196 N l1 l2 f1 f2 f4 f5 f6 f7 f9 f10 f11 (bfX7_end_196 N l1 l2 f1 f2 f4 f5 f6 f7 f9 f10 f11 m) (nI t0) (nI c) p (nI j + 1) g f3 f8 = _
        unfold bFX7_end_196
        have hkd := kQ_pos hb sb st hd
        have hne : ¬ g 16 = 0 := by rw [e2.2.2.2.2.2.1]; exact nI_ne0 hkd.1 (by omega)
        rw [if_neg hne]
        split <;> rfl
end LOOPS
