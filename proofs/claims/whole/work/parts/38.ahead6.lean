/-! ===== PURE PART 9: the reader that asks ahead: an item, a turn, an opening ===== -/
/-- an account and a row that show what came of an opening -/
def Fz (f3 f4 f5 : Nat → Int32) (ob hb sb : Nat) (r : Rz) : Prop :=
  ∃ hd t, Ac f3 ob hb sb r.1 r.2.1 r.2.2.1 hd r.2.2.2.1 r.2.2.2.2.1 r.2.2.2.2.2.1 r.2.2.2.2.2.2.1 ∧ f4 1 = nI t ∧ t ≤ 800 ∧ r.1 ≤ 10 ∧ r.2.2.2.2.1 ≤ 400 ∧ ∀ i, i < r.2.2.2.2.1 → f5 i = r.2.2.2.2.2.2.2.1 i
theorem Fz_of {f3 f4 f5 : Nat → Int32} {n ob hb sb kd : Nat} {pl : Int32} {dp it : Nat} {ia ca ga : Int32} {G : GS} {om : Bool} (hk : kd ≤ 10) (hW : Wg n ob hb sb om G) (h : Gv f3 f4 f5 ob hb sb kd pl dp it G) : Fz f3 f4 f5 ob hb sb (rz kd pl G dp it ia ca ga) := by
  obtain ⟨w1, w2, w3, w4, w5, w6, w7, w8, w9, w10, w11⟩ := hW
  obtain ⟨h1, h2, h3⟩ := h
  exact ⟨_, G.1, h1, h2, by omega, hk, Nat.le_trans w9 w2, fun i hi => h3 i (Nat.lt_of_lt_of_le hi w10)⟩
def RA (sv : Nat → Int32) (n ob hb sb : Nat) (f0 f1 f2 f3 f4 f5 f6 f7 f8 f9 : Nat → Int32) (pos base lim np : Nat) (outs : List Fr) (dp it : Nat) (G : GS) : Prop :=
  f1 1 = nI n ∧ (∀ i, i < n → f2 i = sv i) ∧ f0 7 = nI (outs.length + 1) ∧ f0 8 = nI pos ∧ f6 (outs.length + 1) = nI base ∧ f7 (outs.length + 1) = nI lim ∧ f8 (outs.length + 1) = nI np ∧ StA f6 f7 f8 f9 np outs ∧ Gv f3 f4 f5 ob hb sb 0 (-1) dp it G
def Sx (b : Nat → Nat) (n ob hb sb pos ags base lim np : Nat) (outs : List Fr) (dp : Nat) (G : GS) : Prop :=
  Wg n ob hb sb (isO outs) G ∧ WS b n lim base np outs ∧ OU G.2.2.2.2.2 base outs ∧ outs.length ≤ 5 ∧ base ≤ G.1 ∧ pos ≤ lim ∧ dp ≤ 6 ∧ ags ≤ pos ∧ ∀ i, pos - ags ≤ i → i < pos → 128 ≤ b i ∧ b i < 192
/-- what comes of an item or a turn: an end, or a place at which it goes on -/
def OutA (sv : Nat → Int32) (b : Nat → Nat) (n ob hb sb : Nat) (f1 f2 : Nat → Int32) (k pos0 : Nat) (v : Option Rz) (g0 g3 g4 g5 g6 g7 g8 g9 : Nat → Int32) : Prop :=
  (∃ r, v = some r ∧ Fz g3 g4 g5 ob hb sb r ∧ (r.1 = 0 → g0 7 = nI 0)) ∨
  (∃ k' pos base lim np outs dp it ia ca ga G, v = sp sv b n ob hb sb k' pos 0 base lim np outs dp it ia ca ga G ∧ k' < k ∧ n < k' + pos ∧ pos0 < pos ∧ RA sv n ob hb sb g0 f1 f2 g3 g4 g5 g6 g7 g8 g9 pos base lim np outs dp it G ∧ Sx b n ob hb sb pos 0 base lim np outs dp G)
section ITEM
variable {N n ob hb sb : Nat} {b : Nat → Nat} {sv : Nat → Int32} {outs : List Fr} {f0 f1 f2 f3 f4 f5 f6 f7 f8 f9 : Nat → Int32} {dp it base lim np pos ags k : Nat} {ia ca ga : Int32} {G : GS}
theorem OU_gv {ou ou2 : Nat} {o : Bool} : ∀ {outs : List Fr} {base : Nat}, OU ou base outs → (outs ≠ [] → ou2 = ou) → OU ou2 base outs
  | [], _, _, _ => trivial
  | [_], _, h, h2 => (h2 (by simp)).trans h
  | (_, _, _, _) :: x :: o2, _, h, h2 => OU_gv (o := o) (outs := x :: o2) h (fun _ => h2 (by simp))
theorem isO_ne (h : outs ≠ []) : isO outs = false := by cases outs with
  | nil => exact absurd rfl h
  | cons a o => rfl
theorem A_137_f {kd : Nat} (h : f3 4 = nI kd) (h0 : 0 < kd) (h1 : kd ≤ 10) (hN : 1000 < N) : bfX1_readItem_137 N f1 f2 f0 f3 f4 f5 f6 f7 f8 f9 = some (f0, f3, f4, f5, f6, f7, f8, f9) := by
  unfold bfX1_readItem_137 pX1_giveAgain
  obtain ⟨m, rfl⟩ : ∃ m, N = m + 1 := ⟨N - 1, by omega⟩
  rw [lt_x]
  have e : bfX1_giveAgain_7 (m + 1) f0 f1 f2 (m + 1) (f0 10 - 1) f3 f4 f5 = some (f3, f4, f5) := by
    show bFX1_giveAgain_7 (m + 1) f0 f1 f2 (bfX1_giveAgain_7 (m + 1) f0 f1 f2 m) (f0 10 - 1) f3 f4 f5 = _
    unfold bFX1_giveAgain_7
    rw [c_failed_1 h h0 (by omega), bd1_s, if_neg (show ¬ (1 : Int32) = 0 by decide)]
    split <;> rfl
  rw [e, bd3_s]
/-- behind what an item gave: its AGAINs; then it goes on, or there is a fault -/
theorem A_137 {p2 start place : Nat} (h7 : f0 7 = nI (outs.length + 1)) (h8 : f0 8 = nI p2) (h9 : f0 9 = nI (place - ags)) (h10 : f0 10 = nI place) (h11 : f0 11 = nI start) (h1 : f1 1 = nI n) (hsv : ∀ i, i < n → f2 i = sv i) (hsb : ∀ i, i < n → sv i = nI (b i) ∧ b i < 256) (hf6 : f6 (outs.length + 1) = nI base) (hf7 : f7 (outs.length + 1) = nI lim) (hf8 : f8 (outs.length + 1) = nI np) (hSt : StA f6 f7 f8 f9 np outs) (hN : 1000 < N)
    (ha : ags ≤ place) (hpl : place < n) (hag : ∀ i, place - ags ≤ i → i < place → 128 ≤ b i ∧ b i < 192) (hst : start ≤ G.1) (hbst : base ≤ start) (hW : Wg n ob hb sb (isO outs) G) (hWS : WS b n lim base np outs) (hOU : OU G.2.2.2.2.2 base outs) (hl : outs.length ≤ 5) (hdp : dp ≤ 6) (hp2 : p2 ≤ lim) (hG : Gv f3 f4 f5 ob hb sb 0 (-1) dp it G) {pos0 k0 : Nat} (hk : k < k0) (hkp : n < k + p2) (hpp : pos0 < p2) :
    ∃ g0 g3 g4 g5 g6 g7 g8 g9, bfX1_readItem_137 N f1 f2 f0 f3 f4 f5 f6 f7 f8 f9 = some (g0, g3, g4, g5, g6, g7, g8, g9) ∧
      OutA sv b n ob hb sb f1 f2 k0 pos0 (if (dn b ob hb sb (isO outs) start ags place G).1 = 0 then sp sv b n ob hb sb k p2 0 base lim np outs dp it ia ca ga (dn b ob hb sb (isO outs) start ags place G).2.2 else some (rz (dn b ob hb sb (isO outs) start ags place G).1 (nI (dn b ob hb sb (isO outs) start ags place G).2.1) (dn b ob hb sb (isO outs) start ags place G).2.2 dp it ia ca ga)) g0 g3 g4 g5 g6 g7 g8 g9 := by
  have hpe : place - ags + ags = place := by omega
  obtain ⟨g3, g4, g5, e1, e2, e3, e4⟩ := A_ga (N := N) (n := n) (ob := ob) (hb := hb) (sb := sb) (b := b) (f2 := f2) (dp := dp) (it := it) (start := start) h7 hl h9 h11 h1 hN ags N f3 f4 f5 G (by have := hW.1; omega) (by omega) (fun i h1 h2 => ⟨by rw [hsv i (by omega)]; exact (hsb i (by omega)).1, (hag i h1 (by omega)).1, (hag i h1 (by omega)).2⟩) hW hst hG
  rw [hpe] at e1 e2 e3 e4
  unfold bfX1_readItem_137 pX1_giveAgain
  rw [lt_x, h10, e1, bd3_s]
  refine ⟨_, _, _, _, _, _, _, _, rfl, ?_⟩
  have hdn_ou : outs ≠ [] → (dn b ob hb sb (isO outs) start ags place G).2.2.2.2.2.2.2 = G.2.2.2.2.2 := by
    intro hne
    have ho := isO_ne hne
    rw [ho]
    have gen : ∀ (a p : Nat) (G : GS), (dn b ob hb sb false start a p G).2.2.2.2.2.2.2 = G.2.2.2.2.2 := by
      intro a
      induction a with
      | zero => intro p G; rfl
      | succ a ih =>
        intro p G
        unfold dn
        split
        · rfl
        · rw [ih]; rfl
    exact gen ags place G
  rcases e4 with ⟨d0, e5⟩ | ⟨d0, d1, e5⟩
  · rw [if_pos d0]
    refine Or.inr ⟨k, p2, base, lim, np, outs, dp, it, ia, ca, ga, _, rfl, hk, hkp, hpp, ⟨h1, hsv, h7, h8, hf6, hf7, hf8, hSt, e5⟩, e2, hWS, OU_gv (o := true) hOU hdn_ou, hl, by omega, hp2, hdp, by omega, fun i h1 h2 => absurd h2 (by omega)⟩
  · rw [if_neg (by omega)]
    exact Or.inl ⟨_, rfl, Fz_of d1 e2 e5, fun h => absurd h (by show ¬ (dn b ob hb sb (isO outs) start ags place G).1 = 0; omega)⟩
end ITEM
