/-! ===== PURE PART 23: the plain reader: an item ===== -/
/-- behind an END whose sum is right -/
def spT (rec : SpF) (b : Nat → Nat) (n ob hb sb : Nat) (p2 base lim np : Nat) (outs : List Fr) (dp it : Nat) (ia ca ga : Int32) (G : GS) : Option Rz :=
  match outs with
  | [] => if p2 < n then some (rz 5 (nI p2) G dp it ia ca ga) else some (rz 0 (-1) G dp it ia ca ga)
  | (b2, l2, n2, a2) :: o2 =>
    if p2 < lim then some (rz 2 (nI np) G dp it ia ca ga)
    else gL b ob hb sb (isO o2) base a2 (np - 1) G (fun k p G2 => some (rz k (nI p) G2 dp it ia ca ga)) (fun G2 => rec p2 0 b2 l2 n2 o2 dp it ia ca ga G2)
/-- what comes of a pack: a fault, or its END -/
def OutK (sv : Nat → Int32) (b : Nat → Nat) (n ob hb sb k0 pos0 base lim np : Nat) (outs : List Fr) (v : Option Rz) (g0 g3 g4 g5 : Nat → Int32) : Prop :=
  (∃ r, v = some r ∧ 0 < r.1 ∧ Fz g3 g4 g5 ob hb sb r) ∨
  (∃ k p2 dp it ia ca ga G, v = spT (sp sv b n ob hb sb k) b n ob hb sb p2 base lim np outs dp it ia ca ga G ∧ k < k0 ∧ n < k + p2 ∧ pos0 < p2 ∧ Pf g0 p2 lim np ∧ Gv g3 g4 g5 ob hb sb 0 (-1) dp it G ∧ Sx b n ob hb sb p2 0 base lim np outs dp G ∧ G.2.2.2.1 ≤ G.2.2.2.2.1)
/-- what comes of an item: that, or it goes on -/
def OutP (sv : Nat → Int32) (b : Nat → Nat) (n ob hb sb k0 pos0 base lim np : Nat) (outs : List Fr) (v : Option Rz) (w : Int32) (g0 g3 g4 g5 : Nat → Int32) : Prop :=
  (w = 0 ∧ OutK sv b n ob hb sb k0 pos0 base lim np outs v g0 g3 g4 g5) ∨
  (w = 1 ∧ ∃ k p2 dp it ia ca ga G, v = sp sv b n ob hb sb k p2 0 base lim np outs dp it ia ca ga G ∧ k < k0 ∧ n < k + p2 ∧ pos0 < p2 ∧ Pf g0 p2 lim np ∧ Gv g3 g4 g5 ob hb sb 0 (-1) dp it G ∧ Sx b n ob hb sb p2 0 base lim np outs dp G ∧ G.2.2.2.1 ≤ G.2.2.2.2.1)
def RpOK (sv : Nat → Int32) (b : Nat → Nat) (n ob hb sb : Nat) (f1 f2 : Nat → Int32) (rp : RpT) (o : List Fr) : Prop :=
  ∀ (k pos base lim np dp it : Nat) (ia ca ga : Int32) (G : GS) (f0 f3 f4 f5 : Nat → Int32), Pf f0 pos lim np → Gv f3 f4 f5 ob hb sb 0 (-1) dp it G → Sx b n ob hb sb pos 0 base lim np o dp G → G.2.2.2.1 ≤ G.2.2.2.2.1 → G.1 = base → n < k + pos →
    ∃ g0 g3 g4 g5, rp (nI (o.length + 1)) f0 f1 f2 f3 f4 f5 = some (g0, g3, g4, g5) ∧ OutK sv b n ob hb sb (k + 1) pos base lim np o (sp sv b n ob hb sb k pos 0 base lim np o (max dp (o.length + 1)) it ia ca ga G) g0 g3 g4 g5
section PLAIN4
variable {N n ob hb sb : Nat} {b : Nat → Nat} {sv : Nat → Int32} {outs : List Fr} {f0 f1 f2 f3 f4 f5 : Nat → Int32} {dp it lim np base pos ags k k0 pos0 : Nat} {ia ca ga : Int32} {G : GS} {rp : RpT} {a2 : Int32}
theorem OutP_f {r : Rz} {g0 g3 g4 g5 : Nat → Int32} (h0 : 0 < r.1) (hF : Fz g3 g4 g5 ob hb sb r) : OutP sv b n ob hb sb k0 pos0 base lim np outs (some r) 0 g0 g3 g4 g5 := Or.inl ⟨rfl, Or.inl ⟨r, rfl, h0, hF⟩⟩
theorem P_169_f {start kd : Nat} {v6 : Int32} (h1 : f1 1 = nI n) (hn : n ≤ 160) (hN : 1000 < N) (ha : ags ≤ pos) (hp : pos ≤ n) (h : f3 4 = nI kd) (h0 : 0 < kd) (h2 : kd ≤ 10) : bfX3_readItem_169 N rp (nI (outs.length + 1)) a2 f1 f2 (nI (pos - ags)) (nI pos) v6 f0 f3 f4 f5 = some (0, f0, f3, f4, f5) := by
  unfold bfX3_readItem_169
  have := P_175_n (N := N) (outs := outs) (rp := rp) (a2 := a2) (f2 := f2) (first := pos - ags) (v6 := v6) (f0 := f0) (f4 := f4) (f5 := f5) h1 hn hN h h0 h2 ags N (by omega) (by omega)
  rw [show pos - ags + ags = pos by omega] at this
  rw [lt_x, this]
theorem P_169 {p2 start place : Nat} (hl : outs.length ≤ 5) (h1 : f1 1 = nI n) (hsv : ∀ i, i < n → f2 i = sv i) (hsb : ∀ i, i < n → sv i = nI (b i) ∧ b i < 256) (hN : 1000 < N)
    (ha : ags ≤ place) (hpl : place < n) (hag : ∀ i, place - ags ≤ i → i < place → 128 ≤ b i ∧ b i < 192) (hst : start ≤ G.1) (hbst : base ≤ start) (hW : Wg n ob hb sb (isO outs) G) (hmx : G.2.2.2.1 ≤ G.2.2.2.2.1) (hWS : WS b n lim base np outs) (hOU : OU G.2.2.2.2.2 base outs) (hdp : dp ≤ 6) (hp2 : p2 ≤ lim) (hP : Pf f0 p2 lim np) (hG : Gv f3 f4 f5 ob hb sb 0 (-1) dp it G) (hk : k < k0) (hkp : n < k + p2) (hpp : pos0 < p2) :
    ∃ w g0 g3 g4 g5, bfX3_readItem_169 N rp (nI (outs.length + 1)) a2 f1 f2 (nI (place - ags)) (nI place) (nI start) f0 f3 f4 f5 = some (w, g0, g3, g4, g5) ∧
      OutP sv b n ob hb sb k0 pos0 base lim np outs (if (dn b ob hb sb (isO outs) start ags place G).1 = 0 then sp sv b n ob hb sb k p2 0 base lim np outs dp it ia ca ga (dn b ob hb sb (isO outs) start ags place G).2.2 else some (rz (dn b ob hb sb (isO outs) start ags place G).1 (nI (dn b ob hb sb (isO outs) start ags place G).2.1) (dn b ob hb sb (isO outs) start ags place G).2.2 dp it ia ca ga)) w g0 g3 g4 g5 := by
  have hpe : place - ags + ags = place := by omega
  obtain ⟨w, g3, g4, g5, e1, e2, e3, e4, e5⟩ := P_ga (N := N) (n := n) (ob := ob) (hb := hb) (sb := sb) (b := b) (f2 := f2) (dp := dp) (it := it) (start := start) (first := place - ags) (f0 := f0) (rp := rp) (a2 := a2) hl h1 hN ags N f3 f4 f5 G (by have := hW.1; omega) (by omega) (fun i h1 h2 => ⟨by rw [hsv i (by omega)]; exact (hsb i (by omega)).1, (hag i h1 (by omega)).1, (hag i h1 (by omega)).2⟩) hW hmx hst hG
  rw [hpe] at e1 e2 e3 e4 e5
  unfold bfX3_readItem_169
  rw [lt_x, e1]
  refine ⟨w, f0, g3, g4, g5, rfl, ?_⟩
  have hdn_ou : outs ≠ [] → (dn b ob hb sb (isO outs) start ags place G).2.2.2.2.2.2.2 = G.2.2.2.2.2 := by
    intro hne
    have ho := isO_ne hne
    rw [ho]
    have gen : ∀ (a p : Nat) (G : GS), (dn b ob hb sb false start a p G).2.2.2.2.2.2.2 = G.2.2.2.2.2 := by
      intro a
      induction a with
      | zero => intro p G; rfl
      | succ a ih =>
        intro p G
        unfold dn
        split
        · rfl
        · rw [ih]; rfl
    exact gen ags place G
  rcases e5 with ⟨d0, hw, e6⟩ | ⟨d0, d1, hw, e6⟩
  · rw [if_pos d0]
    exact Or.inr ⟨hw, k, p2, dp, it, ia, ca, ga, _, rfl, hk, hkp, hpp, hP, e6, ⟨e2, hWS, OU_gv (o := true) hOU hdn_ou, hl, by omega, hp2, hdp, by omega, fun i h1 h2 => absurd h2 (by omega)⟩, e3⟩
  · rw [if_neg (by omega), hw]
    exact OutP_f d0 (Fz_of d1 e2 e6)
theorem P_46_n {v3 : Int32} {kd : Nat} (h : f3 4 = nI kd) (h0 : 0 < kd) (h1 : kd ≤ 10) {a1 : Int32} : bfX3_readInner_46 N rp a1 a2 f1 f2 v3 f0 f3 f4 f5 = some (f0, f3, f4, f5) := by
  unfold bfX3_readInner_46
  rw [c_failed_1 h h0 (by omega), bd1_s, if_neg (by decide)]
theorem P_16_n {kd : Nat} (h : f3 4 = nI kd) (h0 : 0 < kd) (h1 : kd ≤ 10) {a1 : Int32} : bfX3_readInner_16 N rp a1 a2 f1 f2 f0 f3 f4 f5 = some (f0, f3, f4, f5) := by
  unfold bfX3_readInner_16
  rw [P_take_n h h0 h1, bd3_s, P_46_n h h0 h1, c_fail_n h h0 (by omega), bd1_s, P_46_n h h0 h1]
  split <;> rfl
theorem P_inner (hrp : outs.length < 5 → RpOK sv b n ob hb sb f1 f2 rp ((base, lim, np, ags) :: outs)) (h1 : f1 1 = nI n) (hsv : ∀ i, i < n → f2 i = sv i) (hsb : ∀ i, i < n → sv i = nI (b i) ∧ b i < 256) (hN : 1000 < N) (hP : Pf f0 (pos + 1) lim np) (hG : Gv f3 f4 f5 ob hb sb 0 (-1) dp it G) (hS : Sx b n ob hb sb pos ags base lim np outs dp G) (hmx : G.2.2.2.1 ≤ G.2.2.2.2.1) (hpl : pos + 1 ≤ lim) (hk : k < k0) (hkp : n < k + (pos + 1)) (hpp : pos0 ≤ pos) :
    ∃ w g0 g3 g4 g5, bd4 (pX3_readInner N rp (nI pos) (nI (outs.length + 1)) f0 f1 f2 f3 f4 f5) (fun x y z u => bfX3_readItem_169 N rp (nI (outs.length + 1)) a2 f1 f2 (nI (pos - ags)) (nI pos) (nI G.1) x y z u) = some (w, g0, g3, g4, g5) ∧
      OutP sv b n ob hb sb k0 pos0 base lim np outs (spI (sp sv b n ob hb sb k) b pos ags base lim np outs dp it ia ca ga G) w g0 g3 g4 g5 := by
  obtain ⟨hW, hWS, hOU, hl, hbs, hple, hdp, hag0, hag⟩ := hS
  obtain ⟨w1, w2, w3, w4, w5, w6, w7, w8, w9, w10, w11⟩ := id hW
  have hlim := (WS_lim hWS).1
  have hmk : 0 < mK outs ∧ mK outs ≤ 2 := by unfold mK; split <;> omega
  unfold pX3_readInner spI
  by_cases c5 : outs.length = 5
  · obtain ⟨g3, e1, e2⟩ := c_fail (k := 6) (p := nI pos) (kn := 6) rfl hG.1
    rw [if_neg (by rw [k6]; exact nI_nlt (by omega) (by omega)), e1, bd1_s, P_16_n e2.2.2.2.1 (by omega) (by omega), bd4_s, P_169_f (start := 0) h1 w1 hN hag0 (by omega) e2.2.2.2.1 (by omega) (by omega), if_pos c5]
    exact ⟨_, _, _, _, _, rfl, OutP_f (by show 0 < 6; omega) (Fz_of (by omega) hW ⟨e2, hG.2⟩)⟩
  · rw [if_pos (by rw [k6]; exact nI_lt (by omega) (by omega)), if_neg c5]
    unfold bfX3_readInner_16
    by_cases cl : lim < pos + 2
    · obtain ⟨g3, e1, e2⟩ := P_take_f (f1 := f1) (f2 := f2) hl hP (by omega) (by omega) hG.1
      rw [e1, bd3_s, P_46_n e2.2.2.2.1 hmk.1 (by omega), c_fail_n e2.2.2.2.1 hmk.1 (by omega), bd1_s, P_46_n e2.2.2.2.1 hmk.1 (by omega), ite_self, bd4_s, P_169_f (start := 0) h1 w1 hN hag0 (by omega) e2.2.2.2.1 hmk.1 (by omega), if_pos cl]
      exact ⟨_, _, _, _, _, rfl, OutP_f hmk.1 (Fz_of (by omega) hW ⟨e2, hG.2⟩)⟩
    · have hb1 := hsb (pos + 1) (by omega)
      rw [if_neg cl, P_take_t hP h1 w1 hlim (by omega) hG.1.2.2.2.1, bd3_s, (hsv _ (by omega)).trans hb1.1, us, un (show (3 : Nat) ≠ 5 by decide), hP.1, nI_add, nI_1]
      by_cases ci : lim < pos + 2 + b (pos + 1)
      · obtain ⟨g3, e1, e2⟩ := c_fail (k := 2) (p := nI (pos + 1)) (kn := 2) rfl hG.1
        rw [if_neg (nI_ge (by omega) (by omega)), e1, bd1_s, P_46_n e2.2.2.2.1 (by omega) (by omega), bd4_s, P_169_f (start := 0) h1 w1 hN hag0 (by omega) e2.2.2.2.1 (by omega) (by omega), if_pos ci]
        exact ⟨_, _, _, _, _, rfl, OutP_f (by show 0 < 2; omega) (Fz_of (by omega) hW ⟨e2, hG.2⟩)⟩
      · rw [if_pos (nI_le (by omega) (by omega)), if_neg ci]
        unfold bfX3_readInner_46
        have htop : ∀ x, pX4_top x = some (x 1) := fun x => rfl
        have hu3 : upd f0 5 (nI (pos + 1 + 1)) 3 = nI lim := by rw [un (by decide)]; exact hP.1
        have hu4 : upd f0 5 (nI (pos + 1 + 1)) 4 = nI np := by rw [un (by decide)]; exact hP.2.1
        rw [c_failed_0 hG.1.2.2.2.1, bd1_s, if_pos rfl, lt_x, lt_x, htop, bd1_s, lt_x, lt_x, hu3, hu4, us, nI_add, nI_1, hG.2.1, nI_1]
        have hO : isO ((base, lim, np, ags) :: outs) = false := rfl
        obtain ⟨g0, g3, g4, g5, e1, e2⟩ := hrp (by omega) k (pos + 2) G.1 (pos + 2 + b (pos + 1)) (pos + 1) dp it (fst_ ia pos) ca ga G (upd (upd (upd f0 5 (nI (pos + 1 + 1))) 3 (nI (pos + 1 + 1 + b (pos + 1)))) 4 (nI (pos + 1))) f3 f4 f5
          ⟨by rw [un (by decide), us], by rw [us], by rw [un (by decide), un (by decide), us]⟩ hG
          ⟨⟨w1, w2, w3, w4, w5, w6, w7, w8, w9, w10, fun h => by rw [hO] at h; cases h⟩, ⟨by omega, hbs, by omega, by omega, fun i h1 h2 => hag i (by omega) (by omega), hWS⟩, by
            cases outs with
            | nil => exact w11 rfl
            | cons x y => exact hOU, by simp only [List.length_cons]; omega, Nat.le_refl _, by omega, hdp, by omega, fun i h1 h2 => absurd h2 (by omega)⟩ hmx rfl (by omega)
        simp only [List.length_cons] at e1 e2
        rw [e1, bd4_s]
        unfold bfX3_readInner_124
        rcases e2 with ⟨r, e3, e4, e5⟩ | ⟨k2, p2, dp2, it2, ia2, ca2, ga2, G2, e3, e4, e5, e6, e7, e8, e9, e10⟩
        · rw [e3]
          obtain ⟨hd, t, hA, ht, ht8, hkk, hou, hrow⟩ := id e5
          have hgi := fun (x0 : Nat → Int32) => P_gi_n (N := N) (a2 := nI pos) (a3 := nI (outs.length + 1)) (f0 := x0) (b0 := G.1) (by omega) (by omega) e4 e5
          obtain ⟨x3, x4, y1, y2⟩ := hgi (upd (upd g0 3 (nI lim)) 4 (nI np))
          rw [c_fail_n hA.2.2.2.1 e4 (by omega), bd1_s, ite_self, lt_x, lt_x, y1, bd3_s, bd4_s]
          obtain ⟨hd', t', hA', -⟩ := id y2
          rw [P_169_f (start := 0) h1 w1 hN hag0 (by omega) hA'.2.2.2.1 e4 hkk]
          exact ⟨_, _, _, _, _, rfl, OutP_f e4 y2⟩
        · obtain ⟨v1, v2, v3, v4, v5, v6, v7, v8, v9⟩ := id e9
          obtain ⟨u1, u2, u3, u4, u5, u6, u7, u8, u9, u10, u11⟩ := id v1
          have hspT : spT (sp sv b n ob hb sb k2) b n ob hb sb p2 G.1 (pos + 2 + b (pos + 1)) (pos + 1) ((base, lim, np, ags) :: outs) dp2 it2 ia2 ca2 ga2 G2 = if p2 < pos + 2 + b (pos + 1) then some (rz 2 (nI (pos + 1)) G2 dp2 it2 ia2 ca2 ga2) else gL b ob hb sb (isO outs) G.1 ags (pos + 1 - 1) G2 (fun k p G2 => some (rz k (nI p) G2 dp2 it2 ia2 ca2 ga2)) (fun G2 => sp sv b n ob hb sb k2 p2 0 base lim np outs dp2 it2 ia2 ca2 ga2 G2) := rfl
          rw [e3, e7.1, e7.2.2, hspT]
          by_cases cm : p2 < pos + 2 + b (pos + 1)
          · obtain ⟨x3, y1, y2⟩ := c_fail (k := 2) (p := nI (pos + 1)) (kn := 2) rfl e8.1
            have hF : Fz x3 g4 g5 ob hb sb (rz 2 (nI (pos + 1)) G2 dp2 it2 ia2 ca2 ga2) := Fz_of (by omega) v1 ⟨y2, e8.2⟩
            obtain ⟨z3, z4, y3, y4⟩ := P_gi_n (N := N) (a2 := nI pos) (a3 := nI (outs.length + 1)) (f0 := upd (upd g0 3 (nI lim)) 4 (nI np)) (b0 := G.1) (by omega) (by omega) (by show 0 < 2; omega) hF
            rw [if_neg (nI_ge (by omega) (by omega)), y1, bd1_s, lt_x, lt_x, y3, bd3_s, bd4_s]
            obtain ⟨hd', t', hA', -⟩ := id y4
            have hk4 : z3 4 = nI 2 := hA'.2.2.2.1
            rw [P_169_f (start := 0) h1 w1 hN hag0 (by omega) hk4 (by omega) (by omega), if_pos cm]
            exact ⟨_, _, _, _, _, rfl, OutP_f (by show 0 < 2; omega) y4⟩
          · have ep2 : p2 = pos + 2 + b (pos + 1) := by omega
            have v5' : G.1 ≤ G2.1 := v5
            obtain ⟨x3, x4, y1, y2, y3⟩ := P_gi (N := N) (outs := outs) (pos := pos) (f0 := upd (upd g0 3 (nI lim)) 4 (nI np)) hl hN v5' rfl v1 e10 e8
            rw [if_pos (nI_le (by omega) (by omega)), lt_x, lt_x, y1, bd3_s, bd4_s, if_neg cm]
            unfold gL
            have hou : isO outs = true → G2.2.2.2.2.2 = G.1 := by
              intro ho
              cases outs with
              | nil => exact v3
              | cons x y => cases ho
            obtain ⟨q1, q2, q3, q4⟩ := aQ_le ob hb sb (isO outs) (G2.1 - G.1) G2.2.2.1 G2.2.2.2.1 G2.2.2.2.2.2
            by_cases cq : aG ob hb sb (isO outs) (G2.1 - G.1) G2 < G2.1 - G.1
            · rw [if_pos cq, if_pos cq] at y3
              rw [if_pos cq]
              have hkd := kQ_pos hb sb (G2.2.2.1 + aG ob hb sb (isO outs) (G2.1 - G.1) G2) (G2.2.2.2.1 + aG ob hb sb (isO outs) (G2.1 - G.1) G2)
              rw [P_169_f (start := 0) h1 w1 hN hag0 (by omega) y3.2.2.2.1 hkd.1 hkd.2]
              refine ⟨_, _, _, _, _, rfl, OutP_f hkd.1 ⟨_, _, y3, y2, ?_, hkd.2, ?_, ?_⟩⟩
              · unfold aG; omega
              · show (if isO outs = true then G2.2.2.2.2.2 + aG ob hb sb (isO outs) (G2.1 - G.1) G2 else G2.2.2.2.2.2) ≤ 400
                by_cases ho : isO outs = true
                · rw [if_pos ho]; have := q4 ho; unfold aG; omega
                · rw [if_neg ho]; omega
              · intro i hi
                refine e8.2.2 i (Nat.lt_of_lt_of_le hi ?_)
                show (if isO outs = true then G2.2.2.2.2.2 + aG ob hb sb (isO outs) (G2.1 - G.1) G2 else G2.2.2.2.2.2) ≤ G2.1
                by_cases ho : isO outs = true
                · rw [if_pos ho]; have := hou ho; unfold aG; omega
                · rw [if_neg ho]; omega
            · rw [if_neg cq, if_neg cq] at y3
              rw [if_neg cq]
              have eq := aG_of cq
              rw [eq] at y2 y3
              unfold aG at eq
              have hW2 : Wg n ob hb sb (isO outs) (G2.1, G2.2.1, G2.2.2.1 + (G2.1 - G.1), G2.2.2.2.1, max G2.2.2.2.2.1 (G2.2.2.2.1 + (G2.1 - G.1)), if isO outs = true then G2.2.2.2.2.2 + (G2.1 - G.1) else G2.2.2.2.2.2) := by
                refine ⟨w1, w2, w3, w4, u5, ?_, u7, ?_, ?_, ?_, ?_⟩
                · show G2.2.2.1 + (G2.1 - G.1) ≤ sb; omega
                · show max G2.2.2.2.2.1 (G2.2.2.2.1 + (G2.1 - G.1)) ≤ hb; omega
                · show (if isO outs = true then G2.2.2.2.2.2 + (G2.1 - G.1) else G2.2.2.2.2.2) ≤ ob
                  by_cases ho : isO outs = true
                  · rw [if_pos ho]; have := q4 ho; omega
                  · rw [if_neg ho]; omega
                · show (if isO outs = true then G2.2.2.2.2.2 + (G2.1 - G.1) else G2.2.2.2.2.2) ≤ G2.1
                  by_cases ho : isO outs = true
                  · rw [if_pos ho]; have := hou ho; omega
                  · rw [if_neg ho]; omega
                · intro ho
                  show (if isO outs = true then G2.2.2.2.2.2 + (G2.1 - G.1) else G2.2.2.2.2.2) = G2.1
                  rw [if_pos ho]; have := hou ho; omega
              have hOU2 : OU (if isO outs = true then G2.2.2.2.2.2 + (G2.1 - G.1) else G2.2.2.2.2.2) base outs := by
                cases outs with
                | nil => trivial
                | cons x y => exact v3
              have hG2 : Gv x3 x4 g5 ob hb sb 0 (-1) dp2 it2 (G2.1, G2.2.1, G2.2.2.1 + (G2.1 - G.1), G2.2.2.2.1, max G2.2.2.2.2.1 (G2.2.2.2.1 + (G2.1 - G.1)), if isO outs = true then G2.2.2.2.2.2 + (G2.1 - G.1) else G2.2.2.2.2.2) := by
                refine ⟨?_, ?_, e8.2.2⟩
                · rw [show G2.2.2.2.1 + (G2.1 - G.1) - (G2.1 - G.1) = G2.2.2.2.1 by omega] at y3
                  exact y3
                · rw [y2]; congr 1; show G.1 + (G2.1 - G.1) = G2.1; omega
              have hpp' : pos + 1 - 1 = pos := by omega
              rw [hpp']
              exact P_169 (N := N) (n := n) (sv := sv) (b := b) (outs := outs) (k := k2) (base := base) (lim := lim) (np := np) (ags := ags) (start := G.1) (place := pos) (p2 := p2) hl h1 hsv hsb hN hag0 (by omega) hag v5' hbs hW2 (by show G2.2.2.2.1 ≤ max G2.2.2.2.2.1 (G2.2.2.2.1 + (G2.1 - G.1)); omega) hWS hOU2 v7 (by omega) ⟨by rw [un (by decide), us], us, by rw [un (by decide), un (by decide)]; exact e7.2.2⟩ hG2 (by omega) (by omega) (by omega)
end PLAIN4
