/-! ===== PURE PART 12: the reference's reader: its small methods ===== -/
def Mo (f : Nat → Int32) (n d ag pos en kd : Nat) (pl : Int32) (st hd mx dp it ob hb sb : Nat) (ia ca ga : Int32) : Prop :=
  f 1 = nI n ∧ f 2 = nI d ∧ f 10 = nI ag ∧ f 14 = nI pos ∧ f 15 = nI en ∧ f 16 = nI kd ∧ f 17 = pl ∧ f 18 = nI st ∧ f 19 = nI hd ∧ f 20 = nI mx ∧ f 21 = nI dp ∧ f 22 = nI it ∧ f 23 = nI ob ∧ f 24 = nI hb ∧ f 25 = nI sb ∧ f 26 = ia ∧ f 27 = ca ∧ f 28 = ga
theorem aQ_1 {ob hb sb : Nat} {om : Bool} {st hd ou : Nat} : aQ ob hb sb om 1 st hd ou = 0 ∨ aQ ob hb sb om 1 st hd ou = 1 := by
  have := (aQ_le ob hb sb om 1 st hd ou).1
  omega
theorem aQ_0 {ob hb sb : Nat} {om : Bool} {c st hd ou : Nat} (h : aQ ob hb sb om 1 st hd ou = 0) : aQ ob hb sb om c st hd ou = 0 := by
  unfold aQ at h ⊢
  by_cases ho : om = true
  · rw [if_pos ho] at h ⊢; omega
  · rw [if_neg ho] at h ⊢; omega
theorem aQ_s {ob hb sb : Nat} {om : Bool} {c st hd ou : Nat} (h : aQ ob hb sb om 1 st hd ou = 1) : aQ ob hb sb om (c + 1) st hd ou = aQ ob hb sb om c (st + 1) (hd + 1) (if om = true then ou + 1 else ou) + 1 := by
  unfold aQ at h ⊢
  by_cases ho : om = true
  · simp only [if_pos ho] at h ⊢; omega
  · simp only [if_neg ho] at h ⊢; omega
section MODEL
variable {f : Nat → Int32} {l1 l2 : Int64} {n d ag pos en kd : Nat} {pl : Int32} {st hd mx dp it ob hb sb : Nat} {ia ca ga : Int32}
theorem m_fault {k p : Int32} {kn : Nat} (hk : k = nI kn) (hM : Mo f n d ag pos en kd pl st hd mx dp it ob hb sb ia ca ga) : ∃ g, pX7_fault k p f l1 l2 = some g ∧ Mo g n d ag pos en kn p st hd mx dp it ob hb sb ia ca ga := by
  obtain ⟨h1, h2, h3, h4, h5, h6, h7, h8, h9, h10, h11, h12, h13, h14, h15, h16, h17, h18⟩ := hM
  refine ⟨upd (upd f 16 k) 17 p, rfl, ?_⟩
  refine ⟨?_, ?_, ?_, ?_, ?_, ?_, ?_, ?_, ?_, ?_, ?_, ?_, ?_, ?_, ?_, ?_, ?_, ?_⟩ <;> simp [upd, *]
theorem m_has_t {c lim : Nat} {f4 f6 : Nat → Int32} (hd6 : d < 6) (hl : lim ≤ 160) (h4 : f4 d = nI lim) (hp : pos + c ≤ lim) (hM : Mo f n d ag pos en kd pl st hd mx dp it ob hb sb ia ca ga) : pX7_has (nI c) f l1 l2 f4 f6 = some (1, f) := by
  obtain ⟨h1, h2, h3, h5, -⟩ := hM
  unfold pX7_has
  rw [h2, gi_ok hd6 (by omega), ncl (by omega), h4, h5, nI_add, if_neg (nI_nlt hp (by omega))]
theorem m_has_f {c lim np : Nat} {f4 f6 : Nat → Int32} {outs : List Fr} (hd : d = outs.length) (hd6 : d < 6) (hl : lim ≤ 160) (h4 : f4 d = nI lim) (hp : lim < pos + c) (hc : pos + c < 2 ^ 31) (hnp : (outs = [] → np = n) ∧ (outs ≠ [] → f6 d = nI np)) {hd' : Nat} (hM : Mo f n d ag pos en kd pl st hd' mx dp it ob hb sb ia ca ga) : ∃ g, pX7_has (nI c) f l1 l2 f4 f6 = some (0, g) ∧ Mo g n d ag pos en (mK outs) (nI np) st hd' mx dp it ob hb sb ia ca ga := by
  have hM0 := hM
  obtain ⟨h1, h2, h3, h5, -⟩ := hM
  unfold pX7_has
  rw [h2, gi_ok hd6 (by omega), ncl (by omega), h4, h5, nI_add, if_pos (nI_lt hp hc)]
  cases outs with
  | nil =>
    obtain ⟨g, e1, e2⟩ := m_fault (l1 := l1) (l2 := l2) (k := 1) (p := nI n) (kn := 1) rfl hM0
    simp only [List.length_nil] at hd
    subst hd
    rw [if_pos (by decide), h1, e1, bd1_s, hnp.1 rfl]
    exact ⟨g, rfl, e2⟩
  | cons a o =>
    obtain ⟨g, e1, e2⟩ := m_fault (l1 := l1) (l2 := l2) (k := 2) (p := nI np) (kn := 2) rfl hM0
    simp only [List.length_cons] at hd
    rw [if_neg (nI_nle (by omega) (by omega)), gi_ok hd6 (by omega), hnp.2 (by simp), e1, bd1_s]
    exact ⟨g, rfl, e2⟩
theorem m_steps_t {p : Int32} (hs : st < sb) (hb1 : sb < 2 ^ 31) (hM : Mo f n d ag pos en kd pl st hd mx dp it ob hb sb ia ca ga) : pX7_steps p f l1 l2 = some (1, f) := by
  obtain ⟨h1, h2, h3, h4, h5, h6, h7, h8, h9, h10, h11, h12, h13, h14, h15, h16, h17, h18⟩ := hM
  unfold pX7_steps
  rw [h8, h15, if_neg (by intro e; have := (nI_eq (by omega) hb1).mp e; omega)]
theorem m_steps_f {p : Int32} (hs : st = sb) (hM : Mo f n d ag pos en kd pl st hd mx dp it ob hb sb ia ca ga) : ∃ g, pX7_steps p f l1 l2 = some (0, g) ∧ Mo g n d ag pos en 9 p st hd mx dp it ob hb sb ia ca ga := by
  obtain ⟨g, e1, e2⟩ := m_fault (l1 := l1) (l2 := l2) (k := 9) (p := p) (kn := 9) rfl hM
  obtain ⟨h1, h2, h3, h4, h5, h6, h7, h8, h9, h10, h11, h12, h13, h14, h15, h16, h17, h18⟩ := hM
  unfold pX7_steps
  rw [h8, h15, if_pos (by rw [hs]), e1, bd1_s]
  exact ⟨g, rfl, e2⟩
/-- one byte is given -/
theorem m_give {v p : Int32} {om : Bool} {base t ou : Nat} {f2 f3 f8 : Nat → Int32} (hom : om = decide (d = 0)) (hd6 : d < 6) (hs : st ≤ sb) (hh : hd ≤ hb) (ho : ou ≤ ob) (b1 : sb ≤ 1500) (b2 : hb ≤ 800) (b3 : ob ≤ 400) (b4 : mx < 2 ^ 31) (h2 : f2 d = nI base) (h3 : f3 d = nI (t - base)) (hbt : base ≤ t) (ht : t < 2000) (h30 : f3 0 = nI ou) (hM : Mo f n d ag pos en 0 pl st hd mx dp it ob hb sb ia ca ga) :
    (aQ ob hb sb om 1 st hd ou = 1 ∧ ∃ g, pX7_give v p f l1 l2 f2 f3 f8 = some (1, g, upd f3 d (nI (t + 1 - base)), upd f8 t v) ∧ Mo g n d ag pos en 0 pl (st + 1) (hd + 1) (max mx (hd + 1)) dp it ob hb sb ia ca ga) ∨
    (aQ ob hb sb om 1 st hd ou = 0 ∧ ∃ g, pX7_give v p f l1 l2 f2 f3 f8 = some (0, g, f3, f8) ∧ Mo g n d ag pos en (kQ hb sb st hd) p st hd mx dp it ob hb sb ia ca ga) := by
  have hM0 := hM
  unfold pX7_give
  by_cases c1 : st = sb
  · obtain ⟨g, e1, e2⟩ := m_steps_f (l1 := l1) (l2 := l2) (p := p) c1 hM0
    rw [e1, bd2_s, if_pos rfl]
    exact Or.inr ⟨by unfold aQ; omega, g, rfl, by unfold kQ; rw [if_pos (by omega)]; exact e2⟩
  rw [m_steps_t (by omega) (by omega) hM0, bd2_s, if_neg (by decide)]
  obtain ⟨g1, g2, g3, g4, g5, g6, g7, g8, g9, g10, g11, g12, g13, g14, g15, g16, g17, g18⟩ := hM
  rw [g9, g14]
  by_cases c2 : hd = hb
  · obtain ⟨g, e1, e2⟩ := m_fault (l1 := l1) (l2 := l2) (k := 10) (p := p) (kn := 10) rfl hM0
    rw [if_pos (by rw [c2]), e1, bd1_s]
    exact Or.inr ⟨by unfold aQ; omega, g, rfl, by unfold kQ; rw [if_neg (by omega), if_pos (by omega)]; exact e2⟩
  rw [if_neg (by intro e; have := (nI_eq (by omega) (by omega)).mp e; omega)]
  have key : ∃ g, bfX7_give_59 v p l1 l2 f2 f f3 f8 = some (1, g, upd f3 d (nI (t + 1 - base)), upd f8 t v) ∧ Mo g n d ag pos en 0 pl (st + 1) (hd + 1) (max mx (hd + 1)) dp it ob hb sb ia ca ga := by
    unfold bfX7_give_59 bfX7_give_102
    simp only [lt_x]
    have q19 : upd (upd f 18 (f 18 + 1)) 19 (upd f 18 (f 18 + 1) 19 + 1) 19 = nI (hd + 1) := by simp [upd, g9, nI_1]
    have q20 : upd (upd f 18 (f 18 + 1)) 19 (upd f 18 (f 18 + 1) 19 + 1) 20 = nI mx := by simp [upd, g10]
    rw [q19, q20]
    have fin : ∀ x : Nat, x = max mx (hd + 1) → ∃ g, (gi_ (upd (upd (upd f 18 (f 18 + 1)) 19 (upd f 18 (f 18 + 1) 19 + 1)) 20 (nI x) 2) 6 (gi_ (upd (upd (upd f 18 (f 18 + 1)) 19 (upd f 18 (f 18 + 1) 19 + 1)) 20 (nI x) 2) 6 (gi_ ((f2 (upd (upd (upd f 18 (f 18 + 1)) 19 (upd f 18 (f 18 + 1) 19 + 1)) 20 (nI x) 2).toNatClampNeg) + (f3 (upd (upd (upd f 18 (f 18 + 1)) 19 (upd f 18 (f 18 + 1) 19 + 1)) 20 (nI x) 2).toNatClampNeg)) 2000 (gi_ (upd (upd (upd f 18 (f 18 + 1)) 19 (upd f 18 (f 18 + 1) 19 + 1)) 20 (nI x) 2) 6 (gi_ (upd (upd (upd f 18 (f 18 + 1)) 19 (upd f 18 (f 18 + 1) 19 + 1)) 20 (nI x) 2) 6 (some ((1 : Int32), upd (upd (upd f 18 (f 18 + 1)) 19 (upd f 18 (f 18 + 1) 19 + 1)) 20 (nI x), upd f3 (upd (upd (upd f 18 (f 18 + 1)) 19 (upd f 18 (f 18 + 1) 19 + 1)) 20 (nI x) 2).toNatClampNeg (f3 (upd (upd (upd f 18 (f 18 + 1)) 19 (upd f 18 (f 18 + 1) 19 + 1)) 20 (nI x) 2).toNatClampNeg + 1), upd f8 ((f2 (upd (upd (upd f 18 (f 18 + 1)) 19 (upd f 18 (f 18 + 1) 19 + 1)) 20 (nI x) 2).toNatClampNeg) + (f3 (upd (upd (upd f 18 (f 18 + 1)) 19 (upd f 18 (f 18 + 1) 19 + 1)) 20 (nI x) 2).toNatClampNeg)).toNatClampNeg v))))))) = some (1, g, upd f3 d (nI (t + 1 - base)), upd f8 t v) ∧ Mo g n d ag pos en 0 pl (st + 1) (hd + 1) (max mx (hd + 1)) dp it ob hb sb ia ca ga := by
      intro x hx
      have q2 : upd (upd (upd f 18 (f 18 + 1)) 19 (upd f 18 (f 18 + 1) 19 + 1)) 20 (nI x) 2 = nI d := by simp [upd, g2]
      have hadd : nI base + nI (t - base) = nI t := by rw [nI_add]; congr 1; omega
      simp only [q2, gi_ok hd6 (show 6 < 2 ^ 31 by decide), ncl (show d < 2 ^ 31 by omega), h2, h3, hadd, gi_ok ht (show 2000 < 2 ^ 31 by decide), ncl (show t < 2 ^ 31 by omega), nI_1]
      refine ⟨_, by rw [show t - base + 1 = t + 1 - base by omega], ?_⟩
      refine ⟨?_, ?_, ?_, ?_, ?_, ?_, ?_, ?_, ?_, ?_, ?_, ?_, ?_, ?_, ?_, ?_, ?_, ?_⟩ <;> simp [upd, nI_1, *]
    by_cases cm : hd + 1 ≤ mx
    · rw [if_pos (nI_le cm b4)]
      exact fin mx (by omega)
    · rw [if_neg (nI_ge (by omega) (by omega))]
      exact fin (hd + 1) (by omega)
  rw [g2]
  by_cases cd : d = 0
  · subst cd
    have ho2 : om = true := by rw [hom]; rfl
    rw [if_pos (by rfl), k0, gi_ok (by decide) (by decide), ncl (by omega), h30, g13]
    by_cases c3 : ou = ob
    · obtain ⟨g, e1, e2⟩ := m_fault (l1 := l1) (l2 := l2) (k := 8) (p := p) (kn := 8) rfl hM0
      rw [if_pos (by rw [c3]), e1, bd1_s]
      exact Or.inr ⟨by unfold aQ; rw [if_pos ho2]; omega, g, rfl, by unfold kQ; rw [if_neg (by omega), if_neg (by omega)]; exact e2⟩
    · rw [if_neg (by intro e; have := (nI_eq (by omega) (by omega)).mp e; omega)]
      exact Or.inl ⟨by unfold aQ; rw [if_pos ho2]; omega, key⟩
  · have ho2 : ¬ om = true := by rw [hom]; simp [cd]
    rw [if_neg (nI_ne0 (by omega) (by omega))]
    exact Or.inl ⟨by unfold aQ; rw [if_neg ho2]; omega, key⟩
end MODEL
