/-! ===== PURE PART 3: one opening, by numbers: what the document says of it, an item a step =====
G = (top of the row, row, steps, held, held at most, given by the outermost); a frame of an outer pack: its base, its end, the place told when a byte is missing, how many AGAINs wait for its INNER -/
abbrev GS : Type := Nat × (Nat → Int32) × Nat × Nat × Nat × Nat
abbrev Fr : Type := Nat × Nat × Nat × Nat
/-- what comes of it: kind, place, steps, held at most, given, deepest, items, row; the least places of an INNER, a COPY, an AGAIN -/
abbrev Rz : Type := Nat × Int32 × Nat × Nat × Nat × Nat × Nat × (Nat → Int32) × Int32 × Int32 × Int32
def rz (kd : Nat) (pl : Int32) (G : GS) (dp it : Nat) (ia ca ga : Int32) : Rz := (kd, pl, G.2.2.1, G.2.2.2.2.1, G.2.2.2.2.2, dp, it, G.2.1, ia, ca, ga)
/-- q bytes are given, and the row is row then -/
def gv (om : Bool) (q : Nat) (t : Nat) (row : Nat → Int32) (G : GS) : GS := (t, row, G.2.2.1 + q, G.2.2.2.1 + q, max G.2.2.2.2.1 (G.2.2.2.1 + q), if om = true then G.2.2.2.2.2 + q else G.2.2.2.2.2)
def aG (ob hb sb : Nat) (om : Bool) (c : Nat) (G : GS) : Nat := aQ ob hb sb om c G.2.2.1 G.2.2.2.1 G.2.2.2.2.2
def kG (hb sb : Nat) (G : GS) : Nat := kQ hb sb G.2.2.1 G.2.2.2.1
/-- bytes of the stream from p on, as they are given -/
def rwR (row : Nat → Int32) (t : Nat) (sv : Nat → Int32) (p : Nat) : Nat → Nat → Int32
  | 0 => row
  | a + 1 => upd (rwR row t sv p a) (t + a) (sv (p + a))
/-- the AGAINs, the nearest first: kind and place of a fault (0: none), and G -/
def dn (b : Nat → Nat) (ob hb sb : Nat) (om : Bool) (start : Nat) : Nat → Nat → GS → Nat × Nat × GS
  | 0, _, G => (0, 0, G)
  | a + 1, p, G =>
    if aG ob hb sb om ((G.1 - start) * (b (p - 1) - 127)) G < (G.1 - start) * (b (p - 1) - 127) then
      (kG hb sb (gv om (aG ob hb sb om ((G.1 - start) * (b (p - 1) - 127)) G) (G.1 + aG ob hb sb om ((G.1 - start) * (b (p - 1) - 127)) G) (cpR G.2.1 G.1 (G.1 - start) (aG ob hb sb om ((G.1 - start) * (b (p - 1) - 127)) G)) G), p - 1,
        gv om (aG ob hb sb om ((G.1 - start) * (b (p - 1) - 127)) G) (G.1 + aG ob hb sb om ((G.1 - start) * (b (p - 1) - 127)) G) (cpR G.2.1 G.1 (G.1 - start) (aG ob hb sb om ((G.1 - start) * (b (p - 1) - 127)) G)) G)
    else dn b ob hb sb om start a (p - 1) (gv om ((G.1 - start) * (b (p - 1) - 127)) (G.1 + (G.1 - start) * (b (p - 1) - 127)) (cpR G.2.1 G.1 (G.1 - start) ((G.1 - start) * (b (p - 1) - 127))) G)
/-- c bytes are asked for at place; then the AGAINs that wait; then it goes on -/
def gD (b : Nat → Nat) (ob hb sb : Nat) (om : Bool) (c start ags place : Nat) (rf : Nat → Nat → Int32) (G : GS) (ko : Nat → Nat → GS → Option Rz) (ok : GS → Option Rz) : Option Rz :=
  if aG ob hb sb om c G < c then ko (kG hb sb (gv om (aG ob hb sb om c G) (G.1 + aG ob hb sb om c G) (rf (aG ob hb sb om c G)) G)) place (gv om (aG ob hb sb om c G) (G.1 + aG ob hb sb om c G) (rf (aG ob hb sb om c G)) G)
  else if (dn b ob hb sb om start ags place (gv om c (G.1 + c) (rf c) G)).1 = 0 then ok (dn b ob hb sb om start ags place (gv om c (G.1 + c) (rf c) G)).2.2
  else ko (dn b ob hb sb om start ags place (gv om c (G.1 + c) (rf c) G)).1 (dn b ob hb sb om start ags place (gv om c (G.1 + c) (rf c) G)).2.1 (dn b ob hb sb om start ags place (gv om c (G.1 + c) (rf c) G)).2.2
/-- an inner pack has ended: c bytes that lie from base on are given by the outer one; its AGAINs -/
def gL (b : Nat → Nat) (ob hb sb : Nat) (om : Bool) (base ags place : Nat) (G : GS) (ko : Nat → Nat → GS → Option Rz) (ok : GS → Option Rz) : Option Rz :=
  if aG ob hb sb om (G.1 - base) G < G.1 - base then ko (kG hb sb (gv om (aG ob hb sb om (G.1 - base) G) G.1 G.2.1 G)) place (gv om (aG ob hb sb om (G.1 - base) G) G.1 G.2.1 G)
  else if (dn b ob hb sb om base ags place (G.1, G.2.1, G.2.2.1 + (G.1 - base), G.2.2.2.1, max G.2.2.2.2.1 (G.2.2.2.1 + (G.1 - base)), if om = true then G.2.2.2.2.2 + (G.1 - base) else G.2.2.2.2.2)).1 = 0 then ok (dn b ob hb sb om base ags place (G.1, G.2.1, G.2.2.1 + (G.1 - base), G.2.2.2.1, max G.2.2.2.2.1 (G.2.2.2.1 + (G.1 - base)), if om = true then G.2.2.2.2.2 + (G.1 - base) else G.2.2.2.2.2)).2.2
  else ko (dn b ob hb sb om base ags place (G.1, G.2.1, G.2.2.1 + (G.1 - base), G.2.2.2.1, max G.2.2.2.2.1 (G.2.2.2.1 + (G.1 - base)), if om = true then G.2.2.2.2.2 + (G.1 - base) else G.2.2.2.2.2)).1 (dn b ob hb sb om base ags place (G.1, G.2.1, G.2.2.1 + (G.1 - base), G.2.2.2.1, max G.2.2.2.2.1 (G.2.2.2.1 + (G.1 - base)), if om = true then G.2.2.2.2.2 + (G.1 - base) else G.2.2.2.2.2)).2.1 (dn b ob hb sb om base ags place (G.1, G.2.1, G.2.2.1 + (G.1 - base), G.2.2.2.1, max G.2.2.2.2.1 (G.2.2.2.1 + (G.1 - base)), if om = true then G.2.2.2.2.2 + (G.1 - base) else G.2.2.2.2.2)).2.2
def isO (outs : List Fr) : Bool := outs.isEmpty
def mK (outs : List Fr) : Nat := if isO outs = true then 1 else 2
def fst_ (x : Int32) (p : Nat) : Int32 := if x = -1 then nI p else x
abbrev SpF : Type := Nat → Nat → Nat → Nat → Nat → List Fr → Nat → Nat → Int32 → Int32 → Int32 → GS → Option Rz
/-- an END, behind its step -/
def spE (rec : SpF) (sv : Nat → Int32) (b : Nat → Nat) (n ob hb sb : Nat) (pos ags base lim np : Nat) (outs : List Fr) (dp it : Nat) (ia ca ga : Int32) (G : GS) : Option Rz :=
  if 0 < ags then some (rz 7 (nI pos) G dp it ia ca ga)
  else if lim < pos + 2 then some (rz (mK outs) (nI np) G dp it ia ca ga)
  else if sv (pos + 1) = smR G.2.1 base (G.1 - base) &&& 255 then
    match outs with
    | [] => if pos + 2 < n then some (rz 5 (nI (pos + 2)) G dp it ia ca ga) else some (rz 0 (-1) G dp it ia ca ga)
    | (b2, l2, n2, a2) :: o2 =>
      if pos + 2 < lim then some (rz 2 (nI np) G dp it ia ca ga)
      else gL b ob hb sb (isO o2) base a2 (np - 1) G (fun k p G2 => some (rz k (nI p) G2 dp it ia ca ga)) (fun G2 => rec (pos + 2) 0 b2 l2 n2 o2 dp it ia ca ga G2)
  else some (rz 4 (nI (pos + 1)) G dp it ia ca ga)
/-- c bytes from p on of an item at pos -/
def spR (rec : SpF) (sv : Nat → Int32) (b : Nat → Nat) (ob hb sb : Nat) (c p pos ags base lim np : Nat) (outs : List Fr) (dp it : Nat) (ia ca ga : Int32) (G : GS) : Option Rz :=
  if lim < p + c then some (rz (mK outs) (nI np) G dp it ia ca ga)
  else gD b ob hb sb (isO outs) c G.1 ags pos (rwR G.2.1 G.1 sv p) G (fun k q G2 => some (rz k (nI q) G2 dp it ia ca ga)) (fun G2 => rec (p + c) 0 base lim np outs dp it ia ca ga G2)
def spC (rec : SpF) (b : Nat → Nat) (ob hb sb : Nat) (pos ags base lim np : Nat) (outs : List Fr) (dp it : Nat) (ia ca ga : Int32) (G : GS) : Option Rz :=
  if lim < pos + 2 then some (rz (mK outs) (nI np) G dp it ia (fst_ ca pos) ga)
  else if G.1 - base < b (pos + 1) + 1 then some (rz 3 (nI (pos + 1)) G dp it ia (fst_ ca pos) ga)
  else gD b ob hb sb (isO outs) (b pos - 62) G.1 ags pos (cpR G.2.1 G.1 (b (pos + 1) + 1)) G (fun k q G2 => some (rz k (nI q) G2 dp it ia (fst_ ca pos) ga)) (fun G2 => rec (pos + 2) 0 base lim np outs dp it ia (fst_ ca pos) ga G2)
def spI (rec : SpF) (b : Nat → Nat) (pos ags base lim np : Nat) (outs : List Fr) (dp it : Nat) (ia ca ga : Int32) (G : GS) : Option Rz :=
  if outs.length = 5 then some (rz 6 (nI pos) G dp it (fst_ ia pos) ca ga)
  else if lim < pos + 2 then some (rz (mK outs) (nI np) G dp it (fst_ ia pos) ca ga)
  else if lim < pos + 2 + b (pos + 1) then some (rz 2 (nI (pos + 1)) G dp it (fst_ ia pos) ca ga)
  else rec (pos + 2) 0 G.1 (pos + 2 + b (pos + 1)) (pos + 1) ((base, lim, np, ags) :: outs) (max dp (outs.length + 2)) it (fst_ ia pos) ca ga G
/-- an item that has begun at pos -/
def spA (rec : SpF) (sv : Nat → Int32) (b : Nat → Nat) (n ob hb sb : Nat) (pos ags base lim np : Nat) (outs : List Fr) (dp it : Nat) (ia ca ga : Int32) (G : GS) : Option Rz :=
  if b pos = 0 then spE rec sv b n ob hb sb pos ags base lim np outs dp it ia ca ga G
  else if b pos < 64 then spR rec sv b ob hb sb (b pos) (pos + 1) pos ags base lim np outs dp it ia ca ga G
  else if b pos < 128 then spC rec b ob hb sb pos ags base lim np outs dp it ia ca ga G
  else if b pos < 192 then rec (pos + 1) (ags + 1) base lim np outs dp it ia ca (fst_ ga pos) G
  else if b pos < 255 then spI rec b pos ags base lim np outs dp it ia ca ga G
  else if lim < pos + 3 then some (rz (mK outs) (nI np) G dp it ia ca ga)
  else spR rec sv b ob hb sb (256 * b (pos + 1) + b (pos + 2)) (pos + 3) pos ags base lim np outs dp it ia ca ga G
def st1 (G : GS) : GS := (G.1, G.2.1, G.2.2.1 + 1, G.2.2.2.1, G.2.2.2.2.1, G.2.2.2.2.2)
def sp (sv : Nat → Int32) (b : Nat → Nat) (n ob hb sb : Nat) : Nat → SpF
  | 0 => fun _ _ _ _ _ _ _ _ _ _ _ _ => none
  | k + 1 => fun pos ags base lim np outs dp it ia ca ga G =>
    if lim < pos + 1 then some (rz (mK outs) (nI np) G dp it ia ca ga)
    else if sb ≤ G.2.2.1 then some (rz 9 (nI pos) G dp it ia ca ga)
    else spA (sp sv b n ob hb sb k) sv b n ob hb sb pos ags base lim np outs dp (it + 1) ia ca ga (st1 G)
/-- an opening from its start -/
def spO (sv : Nat → Int32) (b : Nat → Nat) (n ob hb sb : Nat) (row : Nat → Int32) : Option Rz := sp sv b n ob hb sb (n + 1) 0 0 0 n n [] 1 0 (-1) (-1) (-1) (0, row, 0, 0, 0, 0)
/-- what holds in a state: numbers are small; held is the row's top; the outermost's bytes come first -/
def Wg (n ob hb sb : Nat) (om : Bool) (G : GS) : Prop :=
  n ≤ 160 ∧ ob ≤ 400 ∧ hb ≤ 800 ∧ sb ≤ 1500 ∧ G.2.2.2.1 = G.1 ∧ G.2.2.1 ≤ sb ∧ G.1 ≤ hb ∧ G.2.2.2.2.1 ≤ hb ∧ G.2.2.2.2.2 ≤ ob ∧ G.2.2.2.2.2 ≤ G.1 ∧ (om = true → G.2.2.2.2.2 = G.1)
/-- the packs stand one in the other, in the stream; the bytes ahead of an INNER that wait for it are AGAINs -/
def WS (b : Nat → Nat) (n : Nat) : Nat → Nat → Nat → List Fr → Prop
  | lim, base, np, [] => lim = n ∧ base = 0 ∧ np = n
  | lim, base, np, (ba, li, nq, ag) :: o => lim ≤ li ∧ ba ≤ base ∧ ag + 1 ≤ np ∧ np < n ∧ (∀ i, np - 1 - ag ≤ i → i < np - 1 → 128 ≤ b i ∧ b i < 192) ∧ WS b n li ba nq o
theorem WS_lim {b : Nat → Nat} {n : Nat} : ∀ {outs : List Fr} {lim base np : Nat}, WS b n lim base np outs → lim ≤ n ∧ np ≤ n
  | [], _, _, _, h => ⟨by rw [h.1]; exact Nat.le_refl n, by rw [h.2.2]; exact Nat.le_refl n⟩
  | (_, _, _, _) :: _, _, _, _, h => ⟨Nat.le_trans h.1 (WS_lim h.2.2.2.2.2).1, Nat.le_of_lt h.2.2.2.1⟩
/-- rows that agree below the top -/
theorem cpR_c {r1 r2 : Nat → Int32} {t d : Nat} (hd : 1 ≤ d) (hdt : d ≤ t) (h : ∀ i, i < t → r1 i = r2 i) : ∀ (a i : Nat), i < t + a → cpR r1 t d a i = cpR r2 t d a i := by
  intro a
  induction a with
  | zero => intro i hi; exact h i hi
  | succ a ih =>
    intro i hi
    show upd (cpR r1 t d a) (t + a) (cpR r1 t d a (t + a - d)) i = upd (cpR r2 t d a) (t + a) (cpR r2 t d a (t + a - d)) i
    by_cases c : i = t + a
    · subst c; rw [us, us, ih _ (by omega)]
    · rw [un c, un c, ih i (by omega)]
theorem cpR_low {row : Nat → Int32} {t d : Nat} : ∀ (a i : Nat), i < t → cpR row t d a i = row i := by
  intro a
  induction a with
  | zero => intro i _; rfl
  | succ a ih =>
    intro i hi
    show upd (cpR row t d a) (t + a) (cpR row t d a (t + a - d)) i = row i
    rw [un (by omega), ih i hi]
theorem rwR_c {r1 r2 s1 s2 : Nat → Int32} {t p : Nat} : ∀ (a : Nat), (∀ i, i < t → r1 i = r2 i) → (∀ i, p ≤ i → i < p + a → s1 i = s2 i) → ∀ i, i < t + a → rwR r1 t s1 p a i = rwR r2 t s2 p a i := by
  intro a h
  induction a with
  | zero => intro _ i hi; exact h i hi
  | succ a ih =>
    intro hs i hi
    show upd (rwR r1 t s1 p a) (t + a) (s1 (p + a)) i = upd (rwR r2 t s2 p a) (t + a) (s2 (p + a)) i
    by_cases c : i = t + a
    · subst c; rw [us, us, hs _ (by omega) (by omega)]
    · rw [un c, un c, ih (fun j h1 h2 => hs j h1 (by omega)) i (by omega)]
theorem rwR_low {row : Nat → Int32} {t p : Nat} {sv : Nat → Int32} : ∀ (a i : Nat), i < t → rwR row t sv p a i = row i := by
  intro a
  induction a with
  | zero => intro i _; rfl
  | succ a ih =>
    intro i hi
    show upd (rwR row t sv p a) (t + a) (sv (p + a)) i = row i
    rw [un (by omega), ih i hi]
theorem Wg_gv {n ob hb sb c : Nat} {om : Bool} {G : GS} {row : Nat → Int32} (h : Wg n ob hb sb om G) (hc : c ≤ aG ob hb sb om c G ∨ c ≤ aG ob hb sb om (c + 1) G ∨ ∃ e, c ≤ aG ob hb sb om e G) : Wg n ob hb sb om (gv om c (G.1 + c) row G) := by
  have h0 : ∃ e, c ≤ aG ob hb sb om e G := by
    rcases hc with h1 | h1 | h1
    · exact ⟨_, h1⟩
    · exact ⟨_, h1⟩
    · exact h1
  obtain ⟨e, he⟩ := h0
  obtain ⟨w1, w2, w3, w4, w5, w6, w7, w8, w9, w10, w11⟩ := h
  obtain ⟨q1, q2, q3, q4⟩ := aQ_le ob hb sb om e G.2.2.1 G.2.2.2.1 G.2.2.2.2.2
  unfold aG at he
  unfold gv Wg
  refine ⟨w1, w2, w3, w4, ?_, ?_, ?_, ?_, ?_, ?_, ?_⟩
  · show G.2.2.2.1 + c = G.1 + c; omega
  · show G.2.2.1 + c ≤ sb; omega
  · show G.1 + c ≤ hb; omega
  · show max G.2.2.2.2.1 (G.2.2.2.1 + c) ≤ hb; omega
  · show (if om = true then G.2.2.2.2.2 + c else G.2.2.2.2.2) ≤ ob
    by_cases ho : om = true
    · rw [if_pos ho]; have := q4 ho; omega
    · rw [if_neg ho]; exact w9
  · show (if om = true then G.2.2.2.2.2 + c else G.2.2.2.2.2) ≤ G.1 + c
    by_cases ho : om = true
    · rw [if_pos ho]; omega
    · rw [if_neg ho]; omega
  · intro ho
    show (if om = true then G.2.2.2.2.2 + c else G.2.2.2.2.2) = G.1 + c
    rw [if_pos ho, w11 ho]
theorem aG_of {ob hb sb c : Nat} {om : Bool} {G : GS} (h : ¬ aG ob hb sb om c G < c) : aG ob hb sb om c G = c := by
  have := (aQ_le ob hb sb om c G.2.2.1 G.2.2.2.1 G.2.2.2.2.2).1
  unfold aG at h ⊢
  omega
