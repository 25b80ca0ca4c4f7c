/-! ===== PURE PART 14: the reference's reader: AGAINs ===== -/
theorem aQ_add {ob hb sb : Nat} {om : Bool} {x y st hd ou : Nat} (h : aQ ob hb sb om x st hd ou = x) : aQ ob hb sb om (x + y) st hd ou = x + aQ ob hb sb om y (st + x) (hd + x) (if om = true then ou + x else ou) := by
  unfold aQ at h ⊢
  by_cases ho : om = true
  · simp only [if_pos ho] at h ⊢; omega
  · simp only [if_neg ho] at h ⊢; omega
theorem aQ_lt {ob hb sb : Nat} {om : Bool} {x y st hd ou : Nat} (h : aQ ob hb sb om x st hd ou < x) : aQ ob hb sb om (x + y) st hd ou = aQ ob hb sb om x st hd ou := by
  unfold aQ at h ⊢
  by_cases ho : om = true
  · simp only [if_pos ho] at h ⊢; omega
  · simp only [if_neg ho] at h ⊢; omega
theorem cpR_add {row : Nat → Int32} {t d a : Nat} : ∀ c, cpR (cpR row t d a) (t + a) d c = cpR row t d (a + c) := by
  intro c
  induction c with
  | zero => rfl
  | succ c ih =>
    show upd (cpR (cpR row t d a) (t + a) d c) (t + a + c) (cpR (cpR row t d a) (t + a) d c (t + a + c - d)) = upd (cpR row t d (a + c)) (t + (a + c)) (cpR row t d (a + c) (t + (a + c) - d))
    rw [ih, show t + a + c = t + (a + c) by omega]
theorem cpR_hi {row : Nat → Int32} {t d : Nat} (hdt : d ≤ t) : ∀ (a i : Nat), i < a → a ≤ d → cpR row t d a (t + i) = row (t + i - d) := by
  intro a
  induction a with
  | zero => intro i h; omega
  | succ a ih =>
    intro i hi ha
    show upd (cpR row t d a) (t + a) (cpR row t d a (t + a - d)) (t + i) = _
    by_cases c : i = a
    · subst c; rw [us, cpR_low _ _ (by omega)]
    · rw [un (by omega), ih i (by omega) (by omega)]
section AGN
variable {N n ob hb sb d ag en base : Nat} {pl : Int32} {l1 l2 : Int64} {dp it : Nat} {ia ca ga : Int32} {om : Bool} {f2 f7 f9 f10 f11 : Nat → Int32}
theorem R_112 {rc0 : (Nat → Int32) → (Nat → Int32) → (Nat → Int32) → Option ((Nat → Int32) × (Nat → Int32) × (Nat → Int32))} {rc96 : Int32 → Int32 → Int32 → Int32 → (Nat → Int32) → (Nat → Int32) → (Nat → Int32) → Option ((Nat → Int32) × (Nat → Int32) × (Nat → Int32))} {v3 v4 : Int32} {blk start : Nat} (hom : om = decide (d = 0)) (hd6 : d < 6) (b1 : sb ≤ 1500) (b2 : hb ≤ 800) (b3 : ob ≤ 400) (h2 : f2 d = nI base) (hag : ag < 170) (hsb : base ≤ start) (hblk : blk ≤ 800) :
    ∀ (m j pos t st hd mx ou : Nat) (f0 f3 f8 : Nat → Int32), j ≤ blk → blk - j + 1 < m → st ≤ sb → hd ≤ hb → ou ≤ ob → hd ≤ mx → mx < 2 ^ 31 → f3 d = nI (t - base) → start + blk ≤ t → t ≤ hd → f3 0 = nI ou → (d = 0 → ou = t - base) → (∀ i, i < blk - j → f8 (start + j + i) = f8 (t - blk + i)) → Mo f0 n d ag pos en 0 pl st hd mx dp it ob hb sb ia ca ga →
      ∃ g0, bfX7_done_112 N l1 l2 f2 f7 f9 f10 f11 rc0 rc96 m (nI start) (nI blk) v3 v4 (nI j) f0 f3 f8 = bfX7_done_155 N l1 l2 f2 f7 f9 f10 f11 rc0 rc96 (nI start) (nI blk) v3 v4 g0 (upd f3 d (nI (t + aQ ob hb sb om (blk - j) st hd ou - base))) (cpR f8 t blk (aQ ob hb sb om (blk - j) st hd ou)) ∧ Mq g0 n d ag pos en pl st hd mx dp it ob hb sb ia ca ga (aQ ob hb sb om (blk - j) st hd ou) (blk - j) (f10 ag) := by
  intro m
  induction m with
  | zero => intro j pos t st hd mx ou f0 f3 f8 _ h; omega
  | succ m ih =>
    intro j pos t st hd mx ou f0 f3 f8 hj hm hs hh ho hmx hmx2 h3 hst hth h30 hou hper hM
    show ∃ g0, bFX7_done_112 N l1 l2 f2 f7 f9 f10 f11 rc0 rc96 (bfX7_done_112 N l1 l2 f2 f7 f9 f10 f11 rc0 rc96 m) (nI start) (nI blk) v3 v4 (nI j) f0 f3 f8 = _ ∧ _
    unfold bFX7_done_112
    by_cases cj : blk ≤ j
    · have e : blk - j = 0 := by omega
      have eq : aQ ob hb sb om 0 st hd ou = 0 := by have := (aQ_le ob hb sb om 0 st hd ou).1; omega
      rw [if_pos (nI_le cj (by omega)), e, eq]
      refine ⟨f0, ?_, Mq_0 hmx hM⟩
      rw [Nat.add_zero, ← h3, usame]
      rfl
    · obtain ⟨c', hc'⟩ : ∃ x, blk - j = x + 1 := ⟨blk - j - 1, by omega⟩
      have hk := hM.2.2.2.2.2.1
      have ha := hM.2.2.1
      rw [if_neg (nI_ge (by omega) (by omega)), if_pos (by rw [hk]; rfl), nI_add, gi_ok (by omega) (by omega), ha, gi_ok hag (by omega), ncl (by omega), ncl (by omega), hc']
      have hv : f8 (start + j) = f8 (t - blk) := by have := hper 0 (by omega); simpa using this
      rw [hv]
      rcases m_give (v := f8 (t - blk)) (p := f10 ag) (l1 := l1) (l2 := l2) (f8 := f8) hom hd6 hs hh ho b1 b2 b3 hmx2 h2 h3 (by omega) (by omega) h30 hM with ⟨q1, g, e1, e2⟩ | ⟨q1, g, e1, e2⟩
      · rw [e1, bd4_s, lt_x, nI_1, aQ_s q1]
        have hlo : st + 1 ≤ sb ∧ hd + 1 ≤ hb ∧ (om = true → ou + 1 ≤ ob) := by
          have := aQ_le ob hb sb om 1 st hd ou
          rw [q1] at this
          exact ⟨by omega, by omega, fun h => by have := this.2.2.2 h; omega⟩
        have hd0 : (d = 0) = (om = true) := by rw [hom]; simp
        obtain ⟨g0, e3, e4⟩ := ih (j + 1) pos (t + 1) (st + 1) (hd + 1) (max mx (hd + 1)) (if om = true then ou + 1 else ou) g (upd f3 d (nI (t + 1 - base))) (upd f8 t (f8 (t - blk))) (by omega) (by omega) hlo.1 hlo.2.1 (by split; exact hlo.2.2 (by assumption); exact ho) (by omega) (by omega) us (by omega) (by omega)
          (by
            by_cases h0 : d = 0
            · have ho1 : om = true := by rw [← hd0]; exact h0
              rw [if_pos ho1, h0, us, hou h0]
              congr 1; omega
            · have ho1 : ¬ om = true := by rw [← hd0]; exact h0
              rw [if_neg ho1, un (by omega)]; exact h30)
          (fun h0 => by rw [if_pos (by rw [← hd0]; exact h0), hou h0]; omega)
          (fun i hi => by
            have := hper (i + 1) (by omega)
            rw [un (by omega), un (by omega), show start + (j + 1) + i = start + j + (i + 1) by omega, this]
            congr 1; omega) e2
        have ec : blk - (j + 1) = c' := by omega
        rw [ec] at e3 e4
        refine ⟨g0, ?_, Mq_s e4⟩
        rw [e3, uu]
        have key : cpR (upd f8 t (f8 (t - blk))) (t + 1) blk (aQ ob hb sb om c' (st + 1) (hd + 1) (if om = true then ou + 1 else ou)) = cpR f8 t blk (aQ ob hb sb om c' (st + 1) (hd + 1) (if om = true then ou + 1 else ou) + 1) := by
          generalize aQ ob hb sb om c' (st + 1) (hd + 1) (if om = true then ou + 1 else ou) = z
          have := cpR_add (row := f8) (t := t) (d := blk) (a := 1) z
          rw [Nat.add_comm 1 z] at this
          exact this
        rw [key]
        congr 3
        omega
      · obtain ⟨m, rfl⟩ : ∃ x, m = x + 1 := ⟨m - 1, by omega⟩
        rw [e1, bd4_s, lt_x, aQ_0 q1, Nat.add_zero t, ← h3, usame]
        refine ⟨g, ?_, Mq_f hmx (by omega) e2⟩
        show bFX7_done_112 N l1 l2 f2 f7 f9 f10 f11 rc0 rc96 (bfX7_done_112 N l1 l2 f2 f7 f9 f10 f11 rc0 rc96 m) (nI start) (nI blk) v3 v4 (nI j + 1) g f3 f8 = _
        unfold bFX7_done_112
        have hkd := kQ_pos hb sb st hd
        have hne : ¬ g 16 = 0 := by rw [e2.2.2.2.2.2.1]; exact nI_ne0 hkd.1 (by omega)
        rw [if_neg hne]
        split <;> rfl
theorem R_96 {rc0 : (Nat → Int32) → (Nat → Int32) → (Nat → Int32) → Option ((Nat → Int32) × (Nat → Int32) × (Nat → Int32))} {blk start more : Nat} (hN : 1000 < N) (hom : om = decide (d = 0)) (hd6 : d < 6) (b1 : sb ≤ 1500) (b2 : hb ≤ 800) (b3 : ob ≤ 400) (h2 : f2 d = nI base) (hag : ag < 170) (hsb : base ≤ start) (hblk : blk ≤ 800) (hb1 : 1 ≤ blk) (hmo : more ≤ 64) :
    ∀ (m r pos t st hd mx ou : Nat) (f0 f3 f8 : Nat → Int32), r ≤ more → more - r + 1 < m → st ≤ sb → hd ≤ hb → ou ≤ ob → hd ≤ mx → mx < 2 ^ 31 → f3 d = nI (t - base) → start + blk ≤ t → t ≤ hd → f3 0 = nI ou → (d = 0 → ou = t - base) → (∀ i, i < blk → f8 (start + i) = f8 (t - blk + i)) → Mo f0 n d ag pos en 0 pl st hd mx dp it ob hb sb ia ca ga →
      ∃ g0, bfX7_done_96 N l1 l2 f2 f7 f9 f10 f11 rc0 m (nI start) (nI blk) (nI more) (nI r) f0 f3 f8 = rc0 g0 (upd f3 d (nI (t + aQ ob hb sb om ((more - r) * blk) st hd ou - base))) (cpR f8 t blk (aQ ob hb sb om ((more - r) * blk) st hd ou)) ∧ Mq g0 n d ag pos en pl st hd mx dp it ob hb sb ia ca ga (aQ ob hb sb om ((more - r) * blk) st hd ou) ((more - r) * blk) (f10 ag) := by
  intro m
  induction m with
  | zero => intro r pos t st hd mx ou f0 f3 f8 _ h; omega
  | succ m ih =>
    intro r pos t st hd mx ou f0 f3 f8 hr hm hs hh ho hmx hmx2 h3 hst hth h30 hou hper hM
    show ∃ g0, bFX7_done_96 N l1 l2 f2 f7 f9 f10 f11 rc0 (bfX7_done_96 N l1 l2 f2 f7 f9 f10 f11 rc0 m) (nI start) (nI blk) (nI more) (nI r) f0 f3 f8 = _ ∧ _
    unfold bFX7_done_96
    by_cases cr : more ≤ r
    · have e : (more - r) * blk = 0 := by rw [show more - r = 0 by omega, Nat.zero_mul]
      have eq : aQ ob hb sb om 0 st hd ou = 0 := by have := (aQ_le ob hb sb om 0 st hd ou).1; omega
      rw [if_pos (nI_le cr (by omega)), e, eq]
      refine ⟨f0, ?_, Mq_0 hmx hM⟩
      rw [Nat.add_zero, ← h3, usame]
      rfl
    · have hk := hM.2.2.2.2.2.1
      rw [if_neg (nI_ge (by omega) (by omega)), if_pos (by rw [hk]; rfl), k0]
      obtain ⟨g1, e1, e2⟩ := R_112 (N := N) (l1 := l1) (l2 := l2) (f7 := f7) (f9 := f9) (f10 := f10) (f11 := f11) (rc0 := rc0) (rc96 := bfX7_done_96 N l1 l2 f2 f7 f9 f10 f11 rc0 m) (v3 := nI more) (v4 := nI r) hom hd6 b1 b2 b3 h2 hag hsb hblk N 0 pos t st hd mx ou f0 f3 f8 (by omega) (by omega) hs hh ho hmx hmx2 h3 hst hth h30 hou (fun i hi => by simpa using hper i (by omega)) hM
      rw [Nat.sub_zero] at e1 e2
      rw [e1]
      unfold bfX7_done_155
      rw [lt_x, nI_1]
      obtain ⟨y, hy⟩ : ∃ y, (more - r) * blk = blk + y := ⟨(more - (r + 1)) * blk, by rw [show more - r = (more - (r + 1)) + 1 by omega, Nat.add_mul, Nat.one_mul, Nat.add_comm]⟩
      have hy2 : y = (more - (r + 1)) * blk := by
        have : (more - r) * blk = (more - (r + 1)) * blk + blk := by rw [show more - r = (more - (r + 1)) + 1 by omega, Nat.add_mul, Nat.one_mul]
        omega
      by_cases cq : aQ ob hb sb om blk st hd ou < blk
      · rw [hy, aQ_lt cq]
        unfold Mq at e2
        rw [if_pos cq, if_pos cq] at e2
        have hkd := kQ_pos hb sb (st + aQ ob hb sb om blk st hd ou) (hd + aQ ob hb sb om blk st hd ou)
        have hne : ¬ g1 16 = 0 := by rw [e2.2.2.2.2.2.1]; exact nI_ne0 hkd.1 (by omega)
        obtain ⟨m, rfl⟩ : ∃ x, m = x + 1 := ⟨m - 1, by omega⟩
        refine ⟨g1, ?_, ?_⟩
        · show bFX7_done_96 N l1 l2 f2 f7 f9 f10 f11 rc0 (bfX7_done_96 N l1 l2 f2 f7 f9 f10 f11 rc0 m) (nI start) (nI blk) (nI more) (nI (r + 1)) g1 _ _ = _
          unfold bFX7_done_96
          rw [if_neg hne]
          split <;> rfl
        · unfold Mq
          rw [if_pos (by omega), if_pos (by omega)]
          exact e2
      · have eq : aQ ob hb sb om blk st hd ou = blk := by have := (aQ_le ob hb sb om blk st hd ou).1; omega
        rw [eq] at e2 ⊢
        unfold Mq at e2
        rw [if_neg (by omega), if_neg (by omega)] at e2
        have hlo := aQ_le ob hb sb om blk st hd ou
        rw [eq] at hlo
        have hd0 : (d = 0) = (om = true) := by rw [hom]; simp
        obtain ⟨g0, e3, e4⟩ := ih (r + 1) pos (t + blk) (st + blk) (hd + blk) (max mx (hd + blk)) (if om = true then ou + blk else ou) g1 (upd f3 d (nI (t + blk - base))) (cpR f8 t blk blk) (by omega) (by omega) (by omega) (by omega) (by split; (have := hlo.2.2.2 (by assumption); omega); exact ho) (by omega) (by omega) us (by omega) (by omega)
          (by
            by_cases h0 : d = 0
            · have ho1 : om = true := by rw [← hd0]; exact h0
              rw [if_pos ho1, h0, us, hou h0]
              congr 1; omega
            · have ho1 : ¬ om = true := by rw [← hd0]; exact h0
              rw [if_neg ho1, un (by omega)]; exact h30)
          (fun h0 => by rw [if_pos (by rw [← hd0]; exact h0), hou h0]; omega)
          (fun i hi => by
            rw [cpR_low _ _ (by omega), show t + blk - blk + i = t + i by omega, cpR_hi (by omega) blk i hi (Nat.le_refl _), hper i hi]
            congr 1; omega) e2
        rw [hy, aQ_add eq, hy2]
        rw [uu, cpR_add] at e3
        refine ⟨g0, ?_, ?_⟩
        · rw [e3]
          congr 3
          omega
        · unfold Mq at e4 ⊢
          generalize aQ ob hb sb om ((more - (r + 1)) * blk) (st + blk) (hd + blk) (if om = true then ou + blk else ou) = z at e4 ⊢
          have e5 : (blk + z < blk + (more - (r + 1)) * blk) = (z < (more - (r + 1)) * blk) := propext (by omega)
          rw [show st + blk + z = st + (blk + z) by omega, show hd + blk + z = hd + (blk + z) by omega, show max (max mx (hd + blk)) (hd + (blk + z)) = max mx (hd + (blk + z)) by omega] at e4
          simp only [e5]
          exact e4
end AGN
