/-! ===== PURE PART 16: the reference's reader: its stack, and what follows what an item gave ===== -/
def StR (b : Nat → Nat) (f2 f3 f4 f5 f6 f7 f9 f10 f11 : Nat → Int32) : Nat → Nat → List Fr → Nat → Prop
  | _, _, [], A => A = 0
  | base, np, (ba, li, nq, ag) :: o, A => f5 (o.length + 1) = nI (np - 1) ∧ f6 (o.length + 1) = nI np ∧ f2 o.length = nI ba ∧ f3 o.length = nI (base - ba) ∧ f4 o.length = nI li ∧ ag ≤ A ∧ f7 o.length = nI (A - ag) ∧ AgR b f9 f10 f11 (A - ag) (np - 1 - ag) ag (base - ba) ∧ A ≤ np - 1 ∧ (o ≠ [] → nq < np) ∧ StR b f2 f3 f4 f5 f6 f7 f9 f10 f11 ba nq o (A - ag)
theorem StR_c {b : Nat → Nat} {f2 f3 f4 f5 f6 f7 f9 f10 f11 g2 g3 g4 g5 g6 g7 g9 g10 g11 : Nat → Int32} : ∀ {outs : List Fr} {base np A : Nat}, (∀ j, j < outs.length → g2 j = f2 j ∧ g3 j = f3 j ∧ g4 j = f4 j ∧ g7 j = f7 j) → (∀ j, j ≤ outs.length → g5 j = f5 j ∧ g6 j = f6 j) → (∀ j, j < A → g9 j = f9 j ∧ g10 j = f10 j ∧ g11 j = f11 j) → StR b f2 f3 f4 f5 f6 f7 f9 f10 f11 base np outs A → StR b g2 g3 g4 g5 g6 g7 g9 g10 g11 base np outs A
  | [], _, _, _, _, _, _, h => h
  | (ba, li, nq, ag) :: o, base, np, A, h1, h2, h3, h => by
    obtain ⟨a1, a2, a3, a4, a5, a6, a7, a8, a10, a11, a9⟩ := h
    simp only [List.length_cons] at h1 h2
    obtain ⟨c1, c2, c3, c4⟩ := h1 o.length (by omega)
    obtain ⟨c5, c6⟩ := h2 (o.length + 1) (by omega)
    refine ⟨c5.trans a1, c6.trans a2, c1.trans a3, c2.trans a4, c3.trans a5, a6, c4.trans a7, fun i hi => ?_, a10, a11, StR_c (fun j hj => h1 j (by omega)) (fun j hj => h2 j (by omega)) (fun j hj => h3 j (by omega)) a9⟩
    obtain ⟨e1, e2, e3⟩ := h3 (A - ag + i) (by omega)
    obtain ⟨y1, y2, y3, y4⟩ := a8 i hi
    exact ⟨e1.trans y1, e2.trans y2, e3.trans y3, y4⟩
def RR (sv : Nat → Int32) (b : Nat → Nat) (n ob hb sb : Nat) (f0 f1 f2 f3 f4 f5 f6 f7 f8 f9 f10 f11 : Nat → Int32) (pos ags base lim np : Nat) (outs : List Fr) (A dp it : Nat) (ia ca ga : Int32) (G : GS) : Prop :=
  (∀ i, i < n → f1 i = sv i) ∧ Mo f0 n outs.length (A + ags) pos 0 0 (-1) G.2.2.1 G.2.2.2.1 G.2.2.2.2.1 dp it ob hb sb ia ca ga ∧ f2 outs.length = nI base ∧ f3 outs.length = nI (G.1 - base) ∧ f3 0 = nI G.2.2.2.2.2 ∧ f4 outs.length = nI lim ∧ f7 outs.length = nI A ∧ StR b f2 f3 f4 f5 f6 f7 f9 f10 f11 base np outs A ∧ AgR b f9 f10 f11 A (pos - ags) ags (G.1 - base) ∧ (∀ i, i < G.1 → f8 i = G.2.1 i) ∧ G.2.2.2.1 ≤ G.2.2.2.2.1 ∧ A + ags ≤ pos ∧ (outs ≠ [] → np < pos)
/-- a state of the reference that shows what came of an opening -/
def Fm (n ob hb sb : Nat) (r : Rz) (f0 f3 f8 : Nat → Int32) : Prop :=
  ∃ d ag pos en hd, Mo f0 n d ag pos en r.1 r.2.1 r.2.2.1 hd r.2.2.2.1 r.2.2.2.2.2.1 r.2.2.2.2.2.2.1 ob hb sb r.2.2.2.2.2.2.2.2.1 r.2.2.2.2.2.2.2.2.2.1 r.2.2.2.2.2.2.2.2.2.2 ∧ f3 0 = nI r.2.2.2.2.1 ∧ (∀ i, i < r.2.2.2.2.1 → f8 i = r.2.2.2.2.2.2.2.1 i) ∧ r.1 ≤ 10 ∧ r.2.2.2.2.1 ≤ 400 ∧ (r.1 = 0 → en = 1) ∧ (r.1 ≠ 0 → en ≤ 1)
def OutR (sv : Nat → Int32) (b : Nat → Nat) (n ob hb sb : Nat) (f1 : Nat → Int32) (kz : Nat) (v : Option Rz) (g0 g2 g3 g4 g5 g6 g7 g8 g9 g10 g11 : Nat → Int32) : Prop :=
  (∃ r, v = some r ∧ Fm n ob hb sb r g0 g3 g8) ∨
  (∃ k pos ags base lim np outs A dp it ia ca ga G, v = sp sv b n ob hb sb k pos ags base lim np outs dp it ia ca ga G ∧ k < kz ∧ n < k + pos ∧ RR sv b n ob hb sb g0 f1 g2 g3 g4 g5 g6 g7 g8 g9 g10 g11 pos ags base lim np outs A dp it ia ca ga G ∧ Sx b n ob hb sb pos ags base lim np outs dp G)
theorem isO_dec (outs : List Fr) : isO outs = decide (outs.length = 0) := by
  cases outs <;> simp [isO]
section AFTER
variable {N n ob hb sb base A p2 place lim np k kz ags : Nat} {b : Nat → Nat} {sv : Nat → Int32} {outs : List Fr} {l1 l2 : Int64} {dp it : Nat} {ia ca ga : Int32} {f1 f2 f3 f4 f5 f6 f7 f9 f10 f11 : Nat → Int32} {G : GS}
theorem Fm_of {kd : Nat} {pl : Int32} {d ag pos en : Nat} {f0 f8 : Nat → Int32} {om : Bool} (hk : kd ≤ 10) (hW : Wg n ob hb sb om G) (hM : Mo f0 n d ag pos en kd pl G.2.2.1 G.2.2.2.1 G.2.2.2.2.1 dp it ob hb sb ia ca ga) (h3 : f3 0 = nI G.2.2.2.2.2) (h8 : ∀ i, i < G.1 → f8 i = G.2.1 i) (he : (kd = 0 → en = 1) ∧ (kd ≠ 0 → en ≤ 1)) : Fm n ob hb sb (rz kd pl G dp it ia ca ga) f0 f3 f8 := by
  obtain ⟨w1, w2, w3, w4, w5, w6, w7, w8, w9, w10, w11⟩ := hW
  exact ⟨d, ag, pos, en, _, hM, h3, fun i hi => h8 i (Nat.lt_of_lt_of_le hi w10), hk, Nat.le_trans w9 w2, he.1, he.2⟩
/-- behind a fault nothing is done again -/
theorem R_done_f {kd : Nat} {f0 f8 : Nat → Int32} (hN : 1000 < N) (h : f0 16 = nI kd) (h0 : 0 < kd) (h1 : kd ≤ 10) : pX7_done N f0 l1 l2 f2 f3 f7 f8 f9 f10 f11 = some (f0, f3, f8) := by
  unfold pX7_done
  obtain ⟨m, rfl⟩ : ∃ m, N = m + 1 := ⟨N - 1, by omega⟩
  show bFX7_done_0 (m + 1) l1 l2 f2 f7 f9 f10 f11 (bfX7_done_0 (m + 1) l1 l2 f2 f7 f9 f10 f11 m) f0 f3 f8 = _
  unfold bFX7_done_0
  rw [if_neg (by rw [h]; exact nI_ne0 h0 (by omega))]
theorem dn_ou {om : Bool} {start : Nat} (ho : om = false) : ∀ (a p : Nat) (G : GS), (dn b ob hb sb om start a p G).2.2.2.2.2.2.2 = G.2.2.2.2.2 := by
  subst ho
  intro a
  induction a with
  | zero => intro p G; rfl
  | succ a ih =>
    intro p G
    unfold dn
    split
    · rfl
    · rw [ih]; rfl
/-- the AGAINs of an item whose own bytes were given: G is the state then, start where they begin -/
theorem R_fin {start : Nat} {g0 g8 : Nat → Int32} (hN : 1000 < N) (hsv : ∀ i, i < n → f1 i = sv i) (h2 : f2 outs.length = nI base) (h3 : f3 outs.length = nI (G.1 - base)) (h30 : f3 0 = nI G.2.2.2.2.2) (h4 : f4 outs.length = nI lim) (h7 : f7 outs.length = nI A) (hSt : StR b f2 f3 f4 f5 f6 f7 f9 f10 f11 base np outs A) (hAg : AgR b f9 f10 f11 A (place - ags) ags (start - base)) (hAp : A + ags ≤ place) (hpl : place < p2) (hnpp : outs ≠ [] → np < p2) (hag0 : ags ≤ place) (hag : ∀ i, place - ags ≤ i → i < place → 128 ≤ b i ∧ b i < 192) (h8 : ∀ i, i < G.1 → g8 i = G.2.1 i) (hmx : G.2.2.2.1 ≤ G.2.2.2.2.1) (hst : start ≤ G.1) (hbst : base ≤ start) (hW : Wg n ob hb sb (isO outs) G) (hWS : WS b n lim base np outs) (hOU : OU G.2.2.2.2.2 base outs) (hl : outs.length ≤ 5) (hdp : dp ≤ 6) (hp2 : p2 ≤ lim) (hM : Mo g0 n outs.length (A + ags) p2 0 0 (-1) G.2.2.1 G.2.2.2.1 G.2.2.2.2.1 dp it ob hb sb ia ca ga) (hk : k < kz) (hkp : n < k + p2) :
    ∃ x0 x3 x8, pX7_done N g0 l1 l2 f2 f3 f7 g8 f9 f10 f11 = some (x0, x3, x8) ∧ OutR sv b n ob hb sb f1 kz (if (dn b ob hb sb (isO outs) start ags place G).1 = 0 then sp sv b n ob hb sb k p2 0 base lim np outs dp it ia ca ga (dn b ob hb sb (isO outs) start ags place G).2.2 else some (rz (dn b ob hb sb (isO outs) start ags place G).1 (nI (dn b ob hb sb (isO outs) start ags place G).2.1) (dn b ob hb sb (isO outs) start ags place G).2.2 dp it ia ca ga)) x0 f2 x3 f4 f5 f6 f7 x8 f9 f10 f11 := by
  have hlim := (WS_lim hWS).1
  have hd0 : outs.length = 0 → base = 0 := by
    intro h
    cases outs with
    | nil => exact hWS.2.1
    | cons a o => simp at h
  obtain ⟨x0, x8, ag, e1, e2, e3, e4, e5, e6, e7, e8⟩ := R_done (l1 := l1) (l2 := l2) (f7 := f7) (b := b) (fp := place - ags) (pos := p2) (en := 0) (dp := dp) (it := it) (ia := ia) (ca := ca) (ga := ga) hN (isO_dec outs) (by omega) h2 h7 hbst ags N g0 f3 g8 G (by have := hW.1; omega) (by have := hW.1; omega) hAg hW hmx hst h3 h30 hd0 h8 hM
  rw [show place - ags + ags = place by omega] at e1 e2 e3 e4 e5 e6 e7 e8
  refine ⟨x0, _, x8, e1, ?_⟩
  have hou : outs ≠ [] → (dn b ob hb sb (isO outs) start ags place G).2.2.2.2.2.2.2 = G.2.2.2.2.2 := fun hne => dn_ou (isO_ne hne) ags place G
  have hx3 : upd f3 outs.length (nI ((dn b ob hb sb (isO outs) start ags place G).2.2.1 - base)) 0 = nI (dn b ob hb sb (isO outs) start ags place G).2.2.2.2.2.2.2 := by
    cases outs with
    | nil =>
      show upd f3 0 _ 0 = _
      rw [us, e2.2.2.2.2.2.2.2.2.2.2 rfl, hd0 rfl]
      rfl
    | cons a o => rw [un (by simp), hou (by simp)]; exact h30
  by_cases c0 : (dn b ob hb sb (isO outs) start ags place G).1 = 0
  · rw [if_pos c0]
    rw [if_pos c0, c0] at e8
    have ea := e6 c0
    subst ea
    refine Or.inr ⟨k, p2, 0, base, lim, np, outs, ag, dp, it, ia, ca, ga, _, rfl, hk, hkp, ⟨hsv, e8, h2, us, hx3, h4, h7, StR_c (fun j hj => ⟨rfl, un (by omega), rfl, rfl⟩) (fun j _ => ⟨rfl, rfl⟩) (fun j _ => ⟨rfl, rfl, rfl⟩) hSt, fun i hi => absurd hi (by omega), e5, e3, by omega, hnpp⟩, e2, hWS, OU_gv (o := true) hOU hou, hl, by omega, hp2, hdp, by omega, fun i h1 h2 => absurd h2 (by omega)⟩
  · rw [if_neg c0]
    rw [if_neg c0] at e8
    exact Or.inl ⟨_, rfl, Fm_of e7 e2 e8 hx3 e5 ⟨fun h => absurd h c0, fun _ => Nat.zero_le _⟩⟩
/-- c bytes were asked for at place and given as far as the bounds allow; then the AGAINs -/
theorem R_gD {c pq : Nat} {g0 g8 : Nat → Int32} (rf : Nat → Nat → Int32) (hN : 1000 < N) (hsv : ∀ i, i < n → f1 i = sv i) (h2 : f2 outs.length = nI base) (h3 : f3 outs.length = nI (G.1 - base)) (h30 : f3 0 = nI G.2.2.2.2.2) (h4 : f4 outs.length = nI lim) (h7 : f7 outs.length = nI A) (hSt : StR b f2 f3 f4 f5 f6 f7 f9 f10 f11 base np outs A) (hAg : AgR b f9 f10 f11 A (place - ags) ags (G.1 - base)) (hAp : A + ags ≤ place) (hpl : place < p2) (hnpp : outs ≠ [] → np < p2) (hag0 : ags ≤ place) (hag : ∀ i, place - ags ≤ i → i < place → 128 ≤ b i ∧ b i < 192) (h8 : ∀ i, i < G.1 + aG ob hb sb (isO outs) c G → g8 i = rf (aG ob hb sb (isO outs) c G) i) (hbs : base ≤ G.1) (hW : Wg n ob hb sb (isO outs) G) (hWS : WS b n lim base np outs) (hOU : OU G.2.2.2.2.2 base outs) (hl : outs.length ≤ 5) (hdp : dp ≤ 6) (hp2 : p2 ≤ lim) (hpq : aG ob hb sb (isO outs) c G = c → pq = p2) (hM : Mq g0 n outs.length (A + ags) pq 0 (-1) G.2.2.1 G.2.2.2.1 G.2.2.2.2.1 dp it ob hb sb ia ca ga (aG ob hb sb (isO outs) c G) c (nI place)) (hk : k < kz) (hkp : n < k + p2) :
    ∃ x0 x3 x8, pX7_done N g0 l1 l2 f2 (upd f3 outs.length (nI (G.1 + aG ob hb sb (isO outs) c G - base))) f7 g8 f9 f10 f11 = some (x0, x3, x8) ∧ OutR sv b n ob hb sb f1 kz (gD b ob hb sb (isO outs) c G.1 ags place rf G (fun k q G2 => some (rz k (nI q) G2 dp it ia ca ga)) (fun G2 => sp sv b n ob hb sb k p2 0 base lim np outs dp it ia ca ga G2)) x0 f2 x3 f4 f5 f6 f7 x8 f9 f10 f11 := by
  have hd0 : outs.length = 0 → base = 0 := by
    intro h
    cases outs with
    | nil => exact hWS.2.1
    | cons a o => simp at h
  have hx3 : ∀ q, upd f3 outs.length (nI (G.1 + q - base)) 0 = nI (if isO outs = true then G.2.2.2.2.2 + q else G.2.2.2.2.2) := by
    intro q
    cases outs with
    | nil =>
      show upd f3 0 _ 0 = _
      rw [us, if_pos (show isO ([] : List Fr) = true from rfl), hW.2.2.2.2.2.2.2.2.2.2 rfl, hd0 rfl]
      rfl
    | cons a o => rw [un (by simp), if_neg (show ¬ isO (a :: o) = true from Bool.false_ne_true)]; exact h30
  unfold gD
  by_cases cq : aG ob hb sb (isO outs) c G < c
  · rw [if_pos cq]
    unfold Mq at hM
    rw [if_pos cq, if_pos cq] at hM
    have hkd := kQ_pos hb sb (G.2.2.1 + aG ob hb sb (isO outs) c G) (G.2.2.2.1 + aG ob hb sb (isO outs) c G)
    rw [R_done_f hN hM.2.2.2.2.2.1 hkd.1 hkd.2]
    exact ⟨_, _, _, rfl, Or.inl ⟨_, rfl, Fm_of hkd.2 (Wg_q (c := c) (rf (aG ob hb sb (isO outs) c G)) hW) hM (hx3 _) h8 ⟨fun h => absurd h (by have := hkd.1; exact Nat.pos_iff_ne_zero.mp this), fun _ => Nat.zero_le _⟩⟩⟩
  · rw [if_neg cq]
    have eq := aG_of cq
    have epq := hpq eq
    subst epq
    rw [eq] at h8 hM ⊢
    unfold Mq at hM
    rw [if_neg (by omega), if_neg (by omega)] at hM
    exact R_fin (G := gv (isO outs) c (G.1 + c) (rf c) G) (start := G.1) hN hsv h2 us (hx3 c) h4 h7 (StR_c (fun j hj => ⟨rfl, un (by omega), rfl, rfl⟩) (fun j _ => ⟨rfl, rfl⟩) (fun j _ => ⟨rfl, rfl, rfl⟩) hSt) hAg hAp hpl hnpp hag0 hag h8 (Nat.le_max_right _ _) (Nat.le_add_right _ _) hbs (Wg_c _ hW cq) hWS (OU_gv (o := true) hOU (fun hne => by unfold gv; show (if isO outs = true then _ else _) = _; rw [if_neg (by rw [isO_ne hne]; decide)])) hl hdp hp2 hM hk hkp
end AFTER
