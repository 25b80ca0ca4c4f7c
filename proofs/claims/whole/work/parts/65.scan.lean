/-! ===== PURE PART 30: where the first INNER, COPY, AGAIN stand in a stream without a fault ===== -/
def fx (x s : Int32) : Int32 := if x = -1 then s else x
section SCAN
variable {n : Nat} {b : Nat → Nat}
def bz (n : Nat) (b : Nat → Nat) (i : Nat) : Nat := if i < n then b i else 0
def spn (n : Nat) (b : Nat → Nat) (pos : Nat) : Nat := if srt (b pos) = 1 then 1 + b pos else if srt (b pos) = 3 then 1 else if srt (b pos) = 5 then 3 + bz n b (pos + 1) * 256 + bz n b (pos + 2) else 2
def scn (n : Nat) (b : Nat → Nat) (q : Nat) : Nat → Nat → Int32
  | 0, _ => -1
  | m + 1, pos => if n ≤ pos then -1 else if srt (b pos) = q then nI pos else scn n b q m (pos + spn n b pos)
theorem scn_end {q m pos : Nat} (h : n ≤ pos) : scn n b q m pos = -1 := by
  cases m with
  | zero => rfl
  | succ m => show (if n ≤ pos then (-1 : Int32) else _) = _; rw [if_pos h]
theorem scn_hit {q m pos : Nat} (h : pos < n) (hs : srt (b pos) = q) : scn n b q (m + 1) pos = nI pos := by
  show (if n ≤ pos then (-1 : Int32) else if srt (b pos) = q then nI pos else _) = _
  rw [if_neg (by omega), if_pos hs]
theorem scn_go {q m pos : Nat} (h : pos < n) (hs : srt (b pos) ≠ q) : scn n b q (m + 1) pos = scn n b q m (pos + spn n b pos) := by
  show (if n ≤ pos then (-1 : Int32) else if srt (b pos) = q then nI pos else scn n b q m (pos + spn n b pos)) = _
  rw [if_neg (by omega), if_neg hs]
/-- an outcome's place: none, or one with another byte behind it -/
def Pk (n : Nat) (x : Int32) : Prop := x = -1 ∨ ∃ p, x = nI p ∧ p + 1 < n
theorem nI_m1 {p : Nat} (h : p < 2 ^ 31) : nI p ≠ -1 := by
  intro e
  have h2 : (nI p).toInt = -1 := by rw [e]; rfl
  rw [nI_toInt h] at h2
  omega
theorem fst_fx {x : Int32} {p : Nat} (s : Int32) (h : p < 2 ^ 31) : fx (fst_ x p) s = fx x (nI p) := by
  unfold fx fst_
  by_cases c : x = -1
  · rw [if_pos c, if_neg (nI_m1 h)]
  · rw [if_neg c, if_neg c]
theorem Pk_fst {x : Int32} {p : Nat} (h : Pk n x) (hp : p + 1 < n) : Pk n (fst_ x p) := by
  unfold fst_
  by_cases c : x = -1
  · rw [if_pos c]; exact Or.inr ⟨p, rfl, hp⟩
  · rw [if_neg c]; exact h
variable {sv : Nat → Int32} {ob hb sb : Nat}
theorem gD_some {om : Bool} {c start ags place : Nat} {rf : Nat → Nat → Int32} {G : GS} {ko : Nat → Nat → GS → Option Rz} {ok : GS → Option Rz} {r : Rz} (h : gD b ob hb sb om c start ags place rf G ko ok = some r) : (∃ k p G2, 0 < k ∧ ko k p G2 = some r) ∨ ∃ G2, ok G2 = some r := by
  unfold gD at h
  by_cases c1 : aG ob hb sb om c G < c
  · rw [if_pos c1] at h
    exact Or.inl ⟨_, _, _, (kQ_pos hb sb _ _).1, h⟩
  · rw [if_neg c1] at h
    by_cases c2 : (dn b ob hb sb om start ags place (gv om c (G.1 + c) (rf c) G)).1 = 0
    · rw [if_pos c2] at h
      exact Or.inr ⟨_, h⟩
    · rw [if_neg c2] at h
      exact Or.inl ⟨_, _, _, Nat.pos_of_ne_zero c2, h⟩
theorem gL_some {om : Bool} {base ags place : Nat} {G : GS} {ko : Nat → Nat → GS → Option Rz} {ok : GS → Option Rz} {r : Rz} (h : gL b ob hb sb om base ags place G ko ok = some r) : (∃ k p G2, 0 < k ∧ ko k p G2 = some r) ∨ ∃ G2, ok G2 = some r := by
  unfold gL at h
  by_cases c1 : aG ob hb sb om (G.1 - base) G < G.1 - base
  · rw [if_pos c1] at h
    exact Or.inl ⟨_, _, _, (kQ_pos hb sb _ _).1, h⟩
  · rw [if_neg c1] at h
    by_cases c2 : (dn b ob hb sb om base ags place (G.1, G.2.1, G.2.2.1 + (G.1 - base), G.2.2.2.1, max G.2.2.2.2.1 (G.2.2.2.1 + (G.1 - base)), if om = true then G.2.2.2.2.2 + (G.1 - base) else G.2.2.2.2.2)).1 = 0
    · rw [if_pos c2] at h
      exact Or.inr ⟨_, h⟩
    · rw [if_neg c2] at h
      exact Or.inl ⟨_, _, _, Nat.pos_of_ne_zero c2, h⟩
theorem sp_lim {k pos ags base lim np : Nat} {outs : List Fr} {dp it : Nat} {ia ca ga : Int32} {G : GS} {r : Rz} (h : sp sv b n ob hb sb k pos ags base lim np outs dp it ia ca ga G = some r) (h0 : r.1 = 0) : pos + 1 ≤ lim := by
  cases k with
  | zero => cases h
  | succ k =>
    have h2 : (if lim < pos + 1 then some (rz (mK outs) (nI np) G dp it ia ca ga) else if sb ≤ G.2.2.1 then some (rz 9 (nI pos) G dp it ia ca ga) else spA (sp sv b n ob hb sb k) sv b n ob hb sb pos ags base lim np outs dp (it + 1) ia ca ga (st1 G)) = some r := h
    by_cases c : lim < pos + 1
    · rw [if_pos c] at h2
      injection h2 with h2
      rw [← h2] at h0
      have : mK outs = 0 := h0
      unfold mK at this
      split at this <;> omega
    · omega
def Lms (n lim : Nat) (outs : List Fr) : Prop := lim ≤ n ∧ ∀ x ∈ outs, x.2.1 ≤ n
/-- where an opening finds no fault, it came by all items in turn -/
theorem sp_scan (hn : n ≤ 160) {r : Rz} (h0 : r.1 = 0) : ∀ (k m pos ags base lim np : Nat) (outs : List Fr) (dp it : Nat) (ia ca ga : Int32) (G : GS), sp sv b n ob hb sb k pos ags base lim np outs dp it ia ca ga G = some r → n < m + pos → Lms n lim outs → Pk n ia → Pk n ca → Pk n ga →
    (fx ia (scn n b 4 m pos) = r.2.2.2.2.2.2.2.2.1 ∧ Pk n r.2.2.2.2.2.2.2.2.1) ∧ (fx ca (scn n b 2 m pos) = r.2.2.2.2.2.2.2.2.2.1 ∧ Pk n r.2.2.2.2.2.2.2.2.2.1) ∧ (fx ga (scn n b 3 m pos) = r.2.2.2.2.2.2.2.2.2.2 ∧ Pk n r.2.2.2.2.2.2.2.2.2.2) := by
  intro k
  induction k with
  | zero => intro m pos ags base lim np outs dp it ia ca ga G h; cases h
  | succ k ih =>
    intro m pos ags base lim np outs dp it ia ca ga G h hm hL p1 p2 p3
    have hpl := sp_lim h h0
    have hlim := hL.1
    obtain ⟨m, rfl⟩ : ∃ j, m = j + 1 := ⟨m - 1, by omega⟩
    have hpn : pos < n := by omega
    have hbad : ∀ (kd : Nat) (pl : Int32) (G : GS) (dp it : Nat) (x y z : Int32), 0 < kd → ¬ some (rz kd pl G dp it x y z) = some r := by
      intro kd pl G dp it x y z hk e
      injection e with e
      rw [← e] at h0
      have : kd = 0 := h0
      omega
    have h2 : (if lim < pos + 1 then some (rz (mK outs) (nI np) G dp it ia ca ga) else if sb ≤ G.2.2.1 then some (rz 9 (nI pos) G dp it ia ca ga) else spA (sp sv b n ob hb sb k) sv b n ob hb sb pos ags base lim np outs dp (it + 1) ia ca ga (st1 G)) = some r := h
    rw [if_neg (by omega)] at h2
    by_cases cs : sb ≤ G.2.2.1
    · rw [if_pos cs] at h2; exact absurd h2 (hbad _ _ _ _ _ _ _ _ (by omega))
    rw [if_neg cs] at h2
    have hmk : 0 < mK outs := by unfold mK; split <;> omega
    unfold spA at h2
    -- an item that is none of the three
    have hgo : ∀ (q : Nat), srt (b pos) ≠ q → scn n b q (m + 1) pos = scn n b q m (pos + spn n b pos) := fun q hq => scn_go hpn hq
    have hR : ∀ (c p : Nat), srt (b pos) ≠ 4 → srt (b pos) ≠ 2 → srt (b pos) ≠ 3 → pos + spn n b pos = p + c → pos < p → spR (sp sv b n ob hb sb k) sv b ob hb sb c p pos ags base lim np outs dp (it + 1) ia ca ga (st1 G) = some r →
        (fx ia (scn n b 4 (m + 1) pos) = r.2.2.2.2.2.2.2.2.1 ∧ Pk n r.2.2.2.2.2.2.2.2.1) ∧ (fx ca (scn n b 2 (m + 1) pos) = r.2.2.2.2.2.2.2.2.2.1 ∧ Pk n r.2.2.2.2.2.2.2.2.2.1) ∧ (fx ga (scn n b 3 (m + 1) pos) = r.2.2.2.2.2.2.2.2.2.2 ∧ Pk n r.2.2.2.2.2.2.2.2.2.2) := by
      intro c p q4 q2 q3 hsp hpp h3
      rw [hgo 4 q4, hgo 2 q2, hgo 3 q3, hsp]
      unfold spR at h3
      by_cases cl : lim < p + c
      · rw [if_pos cl] at h3; exact absurd h3 (hbad _ _ _ _ _ _ _ _ hmk)
      · rw [if_neg cl] at h3
        rcases gD_some h3 with ⟨k2, p4, G2, hk2, e⟩ | ⟨G2, e⟩
        · exact absurd e (hbad _ _ _ _ _ _ _ _ hk2)
        · exact ih m (p + c) 0 base lim np outs dp (it + 1) ia ca ga G2 e (by omega) hL p1 p2 p3
    by_cases t0 : b pos = 0
    · rw [if_pos t0] at h2
      have hs : srt (b pos) = 0 := by unfold srt; rw [if_pos t0]
      have hsp : spn n b pos = 2 := by unfold spn; rw [if_neg (by omega), if_neg (by omega), if_neg (by omega)]
      rw [hgo 4 (by omega), hgo 2 (by omega), hgo 3 (by omega), hsp]
      unfold spE at h2
      by_cases ca0 : 0 < ags
      · rw [if_pos ca0] at h2; exact absurd h2 (hbad _ _ _ _ _ _ _ _ (by omega))
      rw [if_neg ca0] at h2
      by_cases cl : lim < pos + 2
      · rw [if_pos cl] at h2; exact absurd h2 (hbad _ _ _ _ _ _ _ _ hmk)
      rw [if_neg cl] at h2
      by_cases csum : sv (pos + 1) = smR (st1 G).2.1 base ((st1 G).1 - base) &&& 255
      · rw [if_pos csum] at h2
        cases outs with
        | nil =>
          have h3 : (if pos + 2 < n then some (rz 5 (nI (pos + 2)) (st1 G) dp (it + 1) ia ca ga) else some (rz 0 (-1) (st1 G) dp (it + 1) ia ca ga)) = some r := h2
          by_cases cm : pos + 2 < n
          · rw [if_pos cm] at h3; exact absurd h3 (hbad _ _ _ _ _ _ _ _ (by omega))
          · rw [if_neg cm] at h3
            injection h3 with h3
            subst h3
            rw [scn_end (by omega), scn_end (by omega), scn_end (by omega)]
            have hf : ∀ x, fx x (-1) = x := fun x => by unfold fx; split; exact (by assumption : x = -1).symm; rfl
            exact ⟨⟨hf ia, p1⟩, ⟨hf ca, p2⟩, ⟨hf ga, p3⟩⟩
        | cons fr o =>
          obtain ⟨b2, l2, n2, a2⟩ := fr
          have h3 : (if pos + 2 < lim then some (rz 2 (nI np) (st1 G) dp (it + 1) ia ca ga) else gL b ob hb sb (isO o) base a2 (np - 1) (st1 G) (fun k p G2 => some (rz k (nI p) G2 dp (it + 1) ia ca ga)) (fun G2 => sp sv b n ob hb sb k (pos + 2) 0 b2 l2 n2 o dp (it + 1) ia ca ga G2)) = some r := h2
          by_cases cm : pos + 2 < lim
          · rw [if_pos cm] at h3; exact absurd h3 (hbad _ _ _ _ _ _ _ _ (by omega))
          · rw [if_neg cm] at h3
            rcases gL_some h3 with ⟨k2, p4, G2, hk2, e⟩ | ⟨G2, e⟩
            · exact absurd e (hbad _ _ _ _ _ _ _ _ hk2)
            · exact ih m (pos + 2) 0 b2 l2 n2 o dp (it + 1) ia ca ga G2 e (by omega) ⟨hL.2 _ (List.mem_cons_self ..), fun x hx => hL.2 x (List.mem_cons_of_mem _ hx)⟩ p1 p2 p3
      · rw [if_neg csum] at h2; exact absurd h2 (hbad _ _ _ _ _ _ _ _ (by omega))
    rw [if_neg t0] at h2
    by_cases t1 : b pos < 64
    · rw [if_pos t1] at h2
      have hs : srt (b pos) = 1 := by unfold srt; rw [if_neg t0, if_pos t1]
      exact hR (b pos) (pos + 1) (by omega) (by omega) (by omega) (by unfold spn; rw [if_pos hs]; omega) (by omega) h2
    rw [if_neg t1] at h2
    by_cases t2 : b pos < 128
    · rw [if_pos t2] at h2
      have hs : srt (b pos) = 2 := by unfold srt; rw [if_neg t0, if_neg t1, if_pos t2]
      have hsp : spn n b pos = 2 := by unfold spn; rw [if_neg (by omega), if_neg (by omega), if_neg (by omega)]
      rw [hgo 4 (by omega), hgo 3 (by omega), hsp, scn_hit hpn hs]
      unfold spC at h2
      by_cases cl : lim < pos + 2
      · rw [if_pos cl] at h2; exact absurd h2 (hbad _ _ _ _ _ _ _ _ hmk)
      rw [if_neg cl] at h2
      by_cases cf : (st1 G).1 - base < b (pos + 1) + 1
      · rw [if_pos cf] at h2; exact absurd h2 (hbad _ _ _ _ _ _ _ _ (by omega))
      rw [if_neg cf] at h2
      rcases gD_some h2 with ⟨k2, p4, G2, hk2, e⟩ | ⟨G2, e⟩
      · exact absurd e (hbad _ _ _ _ _ _ _ _ hk2)
      · have := ih m (pos + 2) 0 base lim np outs dp (it + 1) ia (fst_ ca pos) ga G2 e (by omega) hL p1 (Pk_fst p2 (by omega)) p3
        rw [fst_fx _ (by omega)] at this
        exact this
    rw [if_neg t2] at h2
    by_cases t3 : b pos < 192
    · rw [if_pos t3] at h2
      have hs : srt (b pos) = 3 := by unfold srt; rw [if_neg t0, if_neg t1, if_neg t2, if_pos t3]
      have hsp : spn n b pos = 1 := by unfold spn; rw [if_neg (by omega), if_pos hs]
      rw [hgo 4 (by omega), hgo 2 (by omega), hsp, scn_hit hpn hs]
      have hp2 := sp_lim h2 h0
      have := ih m (pos + 1) (ags + 1) base lim np outs dp (it + 1) ia ca (fst_ ga pos) (st1 G) h2 (by omega) hL p1 p2 (Pk_fst p3 (by omega))
      rw [fst_fx _ (by omega)] at this
      exact this
    rw [if_neg t3] at h2
    by_cases t4 : b pos < 255
    · rw [if_pos t4] at h2
      have hs : srt (b pos) = 4 := by unfold srt; rw [if_neg t0, if_neg t1, if_neg t2, if_neg t3, if_pos t4]
      have hsp : spn n b pos = 2 := by unfold spn; rw [if_neg (by omega), if_neg (by omega), if_neg (by omega)]
      rw [hgo 2 (by omega), hgo 3 (by omega), hsp, scn_hit hpn hs]
      unfold spI at h2
      by_cases c5 : outs.length = 5
      · rw [if_pos c5] at h2; exact absurd h2 (hbad _ _ _ _ _ _ _ _ (by omega))
      rw [if_neg c5] at h2
      by_cases cl : lim < pos + 2
      · rw [if_pos cl] at h2; exact absurd h2 (hbad _ _ _ _ _ _ _ _ hmk)
      rw [if_neg cl] at h2
      by_cases ci : lim < pos + 2 + b (pos + 1)
      · rw [if_pos ci] at h2; exact absurd h2 (hbad _ _ _ _ _ _ _ _ (by omega))
      rw [if_neg ci] at h2
      have := ih m (pos + 2) 0 _ _ _ _ _ (it + 1) (fst_ ia pos) ca ga _ h2 (by omega) ⟨by omega, fun x hx => by
        rcases List.mem_cons.mp hx with rfl | hx
        · exact hlim
        · exact hL.2 x hx⟩ (Pk_fst p1 (by omega)) p2 p3
      rw [fst_fx _ (by omega)] at this
      exact this
    · rw [if_neg t4] at h2
      by_cases cl : lim < pos + 3
      · rw [if_pos cl] at h2; exact absurd h2 (hbad _ _ _ _ _ _ _ _ hmk)
      rw [if_neg cl] at h2
      have hs : srt (b pos) = 5 := by unfold srt; rw [if_neg t0, if_neg t1, if_neg t2, if_neg t3, if_neg t4]
      exact hR (256 * b (pos + 1) + b (pos + 2)) (pos + 3) (by omega) (by omega) (by omega) (by unfold spn bz; rw [if_neg (by omega), if_neg (by omega), if_pos hs, if_pos (by omega), if_pos (by omega)]; omega) (by omega) h2
end SCAN
section LEAST
variable {N n : Nat} {b : Nat → Nat} {f1 f2 : Nat → Int32}
theorem x_bz (h1 : f1 1 = nI n) (hn : n ≤ 160) (h2 : ∀ i, i < n → f2 i = nI (b i)) {i : Nat} (hi : i < 2 ^ 31) : pX5_byteAt (nI i) f1 f2 = some (nI (bz n b i)) := by
  unfold bz
  by_cases c : i < n
  · rw [if_pos c, s_at h1 hn c, h2 i c]
  · rw [if_neg c, s_at_f h1 hn (by omega) hi]; rfl
theorem srt_lt (t : Nat) : srt t < 6 := by unfold srt; split <;> (try split) <;> (try split) <;> (try split) <;> (try split) <;> omega
theorem x_span (h1 : f1 1 = nI n) (hn : n ≤ 160) (hb : ∀ i, i < n → b i < 256) (h2 : ∀ i, i < n → f2 i = nI (b i)) {pos : Nat} (hp : pos < n) : pX6_span (nI pos) f1 f2 = some (nI (spn n b pos)) := by
  unfold pX6_span spn
  rw [s_at h1 hn hp, bd1_s, h2 pos hp, x_sort (hb pos hp), bd1_s]
  have hq : ∀ c, c < 6 → (nI (srt (b pos)) = nI c) = (srt (b pos) = c) := fun c hc => neq (by have := srt_lt (b pos); omega) (by omega)
  by_cases c1 : srt (b pos) = 1
  · rw [if_pos (show nI (srt (b pos)) = 1 by rw [c1]; rfl), if_pos c1, k1, nI_add]
  · rw [if_neg (show ¬ nI (srt (b pos)) = 1 from fun h => c1 ((hq 1 (by omega)).mp h)), if_neg c1]
    by_cases c3 : srt (b pos) = 3
    · rw [if_pos (show nI (srt (b pos)) = 3 by rw [c3]; rfl), if_pos c3]; rfl
    · rw [if_neg (show ¬ nI (srt (b pos)) = 3 from fun h => c3 ((hq 3 (by omega)).mp h)), if_neg c3]
      by_cases c5 : srt (b pos) = 5
      · rw [if_pos (show nI (srt (b pos)) = 5 by rw [c5]; rfl), if_pos c5, k1, k2, nI_add, nI_add, x_bz h1 hn h2 (by omega), bd1_s, x_bz h1 hn h2 (by omega), bd1_s, k256, k3, pk_mul, nI_add, nI_add]
      · rw [if_neg (show ¬ nI (srt (b pos)) = 5 from fun h => c5 ((hq 5 (by omega)).mp h)), if_neg c5]; rfl
theorem spn_bd (hb : ∀ i, i < n → b i < 256) {pos : Nat} (hp : pos < n) : 1 ≤ spn n b pos ∧ spn n b pos ≤ 70000 := by
  have h1 := hb pos hp
  have hz : ∀ i, bz n b i < 256 := fun i => by unfold bz; split; exact hb i (by assumption); omega
  have h2 := hz (pos + 1)
  have h3 := hz (pos + 2)
  unfold spn
  split <;> (try split) <;> (try split) <;> omega
theorem x_least (h1 : f1 1 = nI n) (hn : n ≤ 160) (hb : ∀ i, i < n → b i < 256) (h2 : ∀ i, i < n → f2 i = nI (b i)) {q : Nat} (hq : q < 6) : ∀ (m i pos : Nat), i ≤ pos → pos < 100000 → 160 < m + i → i ≤ 160 → bfX6_leastPlace_4 N (nI q) f1 f2 m (nI pos) (nI i) = some (scn n b q m pos) := by
  intro m
  induction m with
  | zero => intro i pos _ _ h h3; omega
  | succ m ih =>
    intro i pos hi hp hm hi2
    show bFX6_leastPlace_4 N (nI q) f1 f2 (bfX6_leastPlace_4 N (nI q) f1 f2 m) (nI pos) (nI i) = _
    unfold bFX6_leastPlace_4
    by_cases c0 : 160 ≤ i
    · rw [if_pos (show (160 : Int32) ≤ nI i from nI_le (a := 160) c0 (by omega)), scn_end (by omega)]
    · rw [if_neg (by rw [k160]; exact nI_ge (by omega) (by omega))]
      by_cases c1 : n ≤ pos
      · rw [s_has_f h1 hn c1 (by omega), bd1_s, if_pos rfl, scn_end c1]
      · have hpn : pos < n := by omega
        have hsq : (nI (srt (b pos)) = nI q) = (srt (b pos) = q) := neq (by have := srt_lt (b pos); omega) (by omega)
        rw [s_has_t h1 hn hpn, bd1_s, if_neg (show ¬ (1 : Int32) = 0 by decide), s_at h1 hn hpn, bd1_s, h2 pos hpn, x_sort (hb pos hpn), bd1_s]
        by_cases c2 : srt (b pos) = q
        · rw [if_pos (hsq.mpr c2), scn_hit hpn c2]
        · have hsb := spn_bd hb hpn
          rw [if_neg (fun h => c2 (hsq.mp h)), x_span h1 hn hb h2 hpn, bd1_s, lt_x, lt_x, nI_add, nI_1, scn_go hpn c2]
          exact ih (i + 1) (pos + spn n b pos) (by omega) (by omega) (by omega) (by omega)
end LEAST
