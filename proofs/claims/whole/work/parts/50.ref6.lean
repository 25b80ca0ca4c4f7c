/-! ===== PURE PART 17: the reference's reader: END ===== -/
section REND
variable {N n ob hb sb base A lim np k kz pos : Nat} {b : Nat → Nat} {sv : Nat → Int32} {outs : List Fr} {l1 l2 : Int64} {dp it : Nat} {ia ca ga : Int32} {f0 f1 f2 f3 f4 f5 f6 f7 f8 f9 f10 f11 : Nat → Int32} {G : GS}
theorem R_sum {d t : Nat} (hd2 : f0 2 = nI d) (hd6 : d < 6) (h2 : f2 d = nI base) (h3 : f3 d = nI (t - base)) (hbt : base ≤ t) (ht : t ≤ 800) :
    ∀ (m j : Nat) (s : Int32), j ≤ t - base → t - base - j < m → ∃ m', bfX7_end_13 N l1 l2 f1 f2 f4 f5 f6 f7 f9 f10 f11 m s (nI j) f0 f3 f8 = bfX7_end_13 N l1 l2 f1 f2 f4 f5 f6 f7 f9 f10 f11 (m' + 1) (s + smR f8 (base + j) (t - base - j)) (nI (t - base)) f0 f3 f8 := by
  intro m
  induction m with
  | zero => intro j s _ h; omega
  | succ m ih =>
    intro j s hj hm
    by_cases cj : j = t - base
    · refine ⟨m, ?_⟩
      rw [cj, Nat.sub_self]
      show bfX7_end_13 N l1 l2 f1 f2 f4 f5 f6 f7 f9 f10 f11 (m + 1) s _ f0 f3 f8 = bfX7_end_13 N l1 l2 f1 f2 f4 f5 f6 f7 f9 f10 f11 (m + 1) (s + 0) _ f0 f3 f8
      rw [Int32.add_zero]
    · obtain ⟨m', e⟩ := ih (j + 1) (s + f8 (base + j)) (by omega) (by omega)
      refine ⟨m', ?_⟩
      have e1 : bfX7_end_13 N l1 l2 f1 f2 f4 f5 f6 f7 f9 f10 f11 (m + 1) s (nI j) f0 f3 f8 = bfX7_end_13 N l1 l2 f1 f2 f4 f5 f6 f7 f9 f10 f11 m (s + f8 (base + j)) (nI (j + 1)) f0 f3 f8 := by
        show bFX7_end_13 N l1 l2 f1 f2 f4 f5 f6 f7 f9 f10 f11 (bfX7_end_13 N l1 l2 f1 f2 f4 f5 f6 f7 f9 f10 f11 m) s (nI j) f0 f3 f8 = _
        unfold bFX7_end_13
        rw [hd2, gi_ok hd6 (by omega), ncl (by omega), h3, if_neg (nI_ge (by omega) (by omega)), gi_ok hd6 (by omega), h2, nI_add, gi_ok (by omega) (by omega), ncl (by omega), lt_x, lt_x, nI_1]
      rw [e1, e, show t - base - j = t - base - (j + 1) + 1 by omega, smR_s, show base + (j + 1) = base + j + 1 by omega, Int32.add_assoc]
/-- an END that no AGAIN waits for -/
theorem R_end (hsb : ∀ i, i < n → sv i = nI (b i) ∧ b i < 256) (hN : 1000 < N) (hR : RR sv b n ob hb sb f0 f1 f2 f3 f4 f5 f6 f7 f8 f9 f10 f11 (pos + 1) 0 base lim np outs A dp it ia ca ga G) (hAp : A ≤ pos) (hW : Wg n ob hb sb (isO outs) G) (hWS : WS b n lim base np outs) (hOU : OU G.2.2.2.2.2 base outs) (hl : outs.length ≤ 5) (hbs : base ≤ G.1) (hdp : dp ≤ 6) (hpl : pos + 1 ≤ lim) (hk : k < kz) (hkp : n < k + (pos + 1)) :
    ∃ x0 x2 x3 x4 x5 x6 x7 x8 x9 x10 x11, bd3 (pX7_end N f0 l1 l2 f1 f2 f3 f4 f5 f6 f7 f8 f9 f10 f11) (fun f0_60 f3_61 f8_62 => some (f0_60, f2, f3_61, f4, f5, f6, f7, f8_62, f9, f10, f11)) = some (x0, x2, x3, x4, x5, x6, x7, x8, x9, x10, x11) ∧
      OutR sv b n ob hb sb f1 kz (spE (sp sv b n ob hb sb k) sv b n ob hb sb pos 0 base lim np outs dp it ia ca ga G) x0 x2 x3 x4 x5 x6 x7 x8 x9 x10 x11 := by
  obtain ⟨hsv, hM, h2, h3, h30, h4, h7, hSt, hAg, h8, hmx, hApos, hnpos⟩ := hR
  obtain ⟨w1, w2, w3, w4, w5, w6, w7, w8, w9, w10, w11⟩ := id hW
  have hlim := (WS_lim hWS).1
  have hnp : (outs = [] → np = n) ∧ (outs ≠ [] → f6 outs.length = nI np) := by
    refine ⟨fun h => ?_, fun h => ?_⟩
    · subst h; exact hWS.2.2
    · cases outs with
      | nil => exact absurd rfl h
      | cons fr o => obtain ⟨b2, l2', n2, a2⟩ := fr; exact hSt.2.1
  unfold pX7_end spE
  rw [if_neg (show ¬ 0 < 0 by omega)]
  by_cases cl : lim < pos + 2
  · obtain ⟨g, e1, e2⟩ := m_has_f (l1 := l1) (l2 := l2) (c := 1) (f6 := f6) (outs := outs) rfl (by omega) (by omega) h4 (by omega) (by omega) hnp hM
    have hmk : 0 < mK outs ∧ mK outs ≤ 2 := by unfold mK; split <;> omega
    replace e1 : pX7_has 1 f0 l1 l2 f4 f6 = some (0, g) := e1
    rw [e1, bd2_s, if_pos rfl, bd3_s, if_pos cl]
    exact ⟨_, _, _, _, _, _, _, _, _, _, _, rfl, Or.inl ⟨_, rfl, Fm_of (by omega) hW e2 h30 h8 ⟨fun h => absurd h (by omega), fun _ => Nat.zero_le _⟩⟩⟩
  have hh : pX7_has 1 f0 l1 l2 f4 f6 = some (1, f0) := m_has_t (c := 1) (by omega) (by omega) h4 (by omega) hM
  rw [if_neg cl, hh, bd2_s, if_neg (by decide)]
  obtain ⟨m', e0⟩ := R_sum (N := N) (l1 := l1) (l2 := l2) (f1 := f1) (f4 := f4) (f5 := f5) (f6 := f6) (f7 := f7) (f8 := f8) (f9 := f9) (f10 := f10) (f11 := f11) hM.2.1 (by omega) h2 h3 hbs (by omega) N 0 0 (by omega) (by omega)
  replace e0 : bfX7_end_13 N l1 l2 f1 f2 f4 f5 f6 f7 f9 f10 f11 N 0 0 f0 f3 f8 = bfX7_end_13 N l1 l2 f1 f2 f4 f5 f6 f7 f9 f10 f11 (m' + 1) (0 + smR f8 base (G.1 - base)) (nI (G.1 - base)) f0 f3 f8 := e0
  rw [Int32.zero_add] at e0
  rw [e0]
  have esm : smR f8 base (G.1 - base) = smR G.2.1 base (G.1 - base) := smR_c (fun j _ h => h8 j (by omega))
  have e1 : bfX7_end_13 N l1 l2 f1 f2 f4 f5 f6 f7 f9 f10 f11 (m' + 1) (smR f8 base (G.1 - base)) (nI (G.1 - base)) f0 f3 f8 = bFX7_end_13 N l1 l2 f1 f2 f4 f5 f6 f7 f9 f10 f11 (bfX7_end_13 N l1 l2 f1 f2 f4 f5 f6 f7 f9 f10 f11 m') (smR f8 base (G.1 - base)) (nI (G.1 - base)) f0 f3 f8 := rfl
  rw [e1]
  unfold bFX7_end_13
  rw [hM.2.1, gi_ok (by omega) (by omega), ncl (by omega), h3, if_pos (nI_le (Nat.le_refl _) (by omega)), hM.2.2.2.1, gi_ok (by omega) (by omega), ncl (by omega), hsv (pos + 1) (by omega), esm]
  by_cases csum : sv (pos + 1) = smR G.2.1 base (G.1 - base) &&& 255
  · rw [if_pos csum.symm, if_pos csum, lt_x, nI_1]
    have hM2 : Mo (upd f0 14 (nI (pos + 1 + 1))) n outs.length (A + 0) (pos + 2) 0 0 (-1) G.2.2.1 G.2.2.2.1 G.2.2.2.2.1 dp it ob hb sb ia ca ga := by
      obtain ⟨a1, a2, a3, a4, a5, a6, a7, a8, a9, a10, a11, a12, a13, a14, a15, a16, a17, a18⟩ := hM
      refine ⟨?_, ?_, ?_, ?_, ?_, ?_, ?_, ?_, ?_, ?_, ?_, ?_, ?_, ?_, ?_, ?_, ?_, ?_⟩ <;> simp [upd, *]
    cases outs with
    | nil =>
      have hM3 : Mo (upd (upd f0 14 (nI (pos + 1 + 1))) 15 1) n 0 (A + 0) (pos + 2) 1 0 (-1) G.2.2.1 G.2.2.2.1 G.2.2.2.2.1 dp it ob hb sb ia ca ga := by
        obtain ⟨a1, a2, a3, a4, a5, a6, a7, a8, a9, a10, a11, a12, a13, a14, a15, a16, a17, a18⟩ := hM2
        refine ⟨?_, ?_, ?_, ?_, ?_, ?_, ?_, ?_, ?_, ?_, ?_, ?_, ?_, ?_, ?_, ?_, ?_, ?_⟩ <;> first | rfl | (rw [un (by decide)]; assumption)
      rw [if_pos (by rw [hM2.2.1]; rfl), lt_x, hM3.1, hM3.2.2.2.1]
      show ∃ x0 x2 x3 x4 x5 x6 x7 x8 x9 x10 x11, _ ∧ OutR _ _ _ _ _ _ _ _ (if pos + 2 < n then _ else _) x0 x2 x3 x4 x5 x6 x7 x8 x9 x10 x11
      by_cases cm : pos + 2 < n
      · obtain ⟨g, e2, e3⟩ := m_fault (l1 := l1) (l2 := l2) (k := 5) (p := nI (pos + 2)) (kn := 5) rfl hM3
        rw [if_neg (nI_ge cm (by omega)), e2, bd1_s, bd3_s, if_pos cm]
        exact ⟨_, _, _, _, _, _, _, _, _, _, _, rfl, Or.inl ⟨_, rfl, Fm_of (by omega) hW e3 h30 h8 ⟨fun h => absurd h (by omega), fun _ => Nat.le_refl _⟩⟩⟩
      · rw [if_pos (nI_le (by omega) (by omega)), bd3_s, if_neg cm]
        exact ⟨_, _, _, _, _, _, _, _, _, _, _, rfl, Or.inl ⟨_, rfl, Fm_of (by omega) hW hM3 h30 h8 ⟨fun _ => rfl, fun h => absurd rfl h⟩⟩⟩
    | cons fr o =>
      obtain ⟨b2, l2', n2, a2⟩ := fr
      obtain ⟨s1, s2, s3, s4, s5, s6, s7, s8, s10, s11, s9⟩ := hSt
      obtain ⟨v1, v2, v3, v4, v5, v6⟩ := hWS
      simp only [List.length_cons] at hl h2 h3 h4 h7 hM2
      have hM2d := hM2.2.1
      have hM2p := hM2.2.2.2.1
      rw [if_neg (by rw [hM2d]; exact nI_ne0 (by omega) (by omega)), hM2d, gi_ok (by omega) (by omega), ncl (by omega), h4, hM2p]
      show ∃ x0 x2 x3 x4 x5 x6 x7 x8 x9 x10 x11, _ ∧ OutR _ _ _ _ _ _ _ _ (if pos + 2 < lim then _ else gL b ob hb sb (isO o) base a2 (np - 1) G _ _) x0 x2 x3 x4 x5 x6 x7 x8 x9 x10 x11
      by_cases cm : pos + 2 < lim
      · obtain ⟨g, e2, e3⟩ := m_fault (l1 := l1) (l2 := l2) (k := 2) (p := nI np) (kn := 2) rfl hM2
        rw [if_neg (nI_ge cm (by omega)), gi_ok (by omega) (by omega), s2, e2, bd1_s, bd3_s, if_pos cm]
        exact ⟨_, _, _, _, _, _, _, _, _, _, _, rfl, Or.inl ⟨_, rfl, Fm_of (by omega) hW e3 h30 h8 ⟨fun h => absurd h (by omega), fun _ => Nat.zero_le _⟩⟩⟩
      · rw [if_pos (nI_le (by omega) (by omega)), if_neg cm]
        have ed : nI (o.length + 1) - 1 = nI o.length := by rw [k1, nsub (by omega)]; congr 1
        simp only [gi_ok (show o.length + 1 < 6 by omega) (show 6 < 2 ^ 31 by decide), lt_x, h2, h3, s1, ed]
        have hM3 : Mo (upd (upd f0 14 (nI (pos + 1 + 1))) 2 (nI o.length)) n o.length (A + 0) (pos + 2) 0 0 (-1) G.2.2.1 G.2.2.2.1 G.2.2.2.2.1 dp it ob hb sb ia ca ga := by
          obtain ⟨a1, a2, a3, a4, a5, a6, a7, a8, a9, a10, a11, a12, a13, a14, a15, a16, a17, a18⟩ := hM2
          refine ⟨?_, ?_, ?_, ?_, ?_, ?_, ?_, ?_, ?_, ?_, ?_, ?_, ?_, ?_, ?_, ?_, ?_, ?_⟩ <;> first | exact us | (rw [un (by decide)]; assumption)
        have hb0 : o.length = 0 → b2 = 0 := by
          intro h
          cases o with
          | nil => exact v6.2.1
          | cons x y => simp at h
        have hou : isO o = true → G.2.2.2.2.2 = base := by
          intro ho
          cases o with
          | nil => exact hOU
          | cons x y => cases ho
        obtain ⟨g0, e2, e3⟩ := R_leave_loop (N := N) (l1 := l1) (l2 := l2) (f1 := f1) (f4 := f4) (f5 := f5) (f6 := f6) (f7 := f7) (f9 := f9) (f10 := f10) (f11 := f11) (p := nI (np - 1)) (c := G.1 - base) (t0 := base) (isO_dec o) (by omega) w4 w3 w2 (by omega) s3 v2 N 0 (pos + 2) G.2.2.1 G.2.2.2.1 G.2.2.2.2.1 G.2.2.2.2.2 (upd (upd f0 14 (nI (pos + 1 + 1))) 2 (nI o.length)) f3 f8 (by omega) (by omega) w6 (by omega) w9 hmx (by omega) s4 (by omega) h30 (fun h => by rw [hou (by rw [isO_dec]; simp [h]), hb0 h]; omega) hM3
        simp only [Nat.sub_zero, Nat.add_zero] at e2 e3
        replace e2 : bfX7_end_196 N l1 l2 f1 f2 f4 f5 f6 f7 f9 f10 f11 N (nI base) (nI (G.1 - base)) (nI (np - 1)) 0 (upd (upd f0 14 (nI (pos + 1 + 1))) 2 (nI o.length)) f3 f8 = _ := e2
        rw [e2]
        unfold bfX7_end_232 bfX7_end_249 gL
        obtain ⟨q1, q2, q3, q4⟩ := aQ_le ob hb sb (isO o) (G.1 - base) G.2.2.1 G.2.2.2.1 G.2.2.2.2.2
        have hx3 : ∀ q, upd f3 o.length (nI (base + q - b2)) 0 = nI (if isO o = true then G.2.2.2.2.2 + q else G.2.2.2.2.2) := by
          intro q
          cases o with
          | nil =>
            show upd f3 0 _ 0 = _
            rw [us, if_pos (show isO ([] : List Fr) = true from rfl), hou rfl, hb0 rfl]
            rfl
          | cons x y => rw [un (by simp), if_neg (show ¬ isO (x :: y) = true from Bool.false_ne_true)]; exact h30
        by_cases cq : aG ob hb sb (isO o) (G.1 - base) G < G.1 - base
        · rw [if_pos cq]
          have cq2 := cq
          unfold aG at cq2
          unfold Mq at e3
          rw [if_pos cq2, if_pos cq2] at e3
          have hkd := kQ_pos hb sb (G.2.2.1 + aQ ob hb sb (isO o) (G.1 - base) G.2.2.1 G.2.2.2.1 G.2.2.2.2.2) (G.2.2.2.1 + aQ ob hb sb (isO o) (G.1 - base) G.2.2.1 G.2.2.2.1 G.2.2.2.2.2)
          rw [if_neg (by rw [e3.2.2.2.2.2.1]; exact nI_ne0 hkd.1 (by omega)), R_done_f hN e3.2.2.2.2.2.1 hkd.1 hkd.2, bd3_s, bd3_s]
          refine ⟨_, _, _, _, _, _, _, _, _, _, _, rfl, Or.inl ⟨_, rfl, ⟨_, _, _, _, _, e3, hx3 _, fun i hi => h8 i (Nat.lt_of_lt_of_le hi ?_), hkd.2, ?_, fun h => absurd h (by have := hkd.1; exact Nat.pos_iff_ne_zero.mp this), fun _ => Nat.zero_le _⟩⟩⟩
          · show (if isO o = true then G.2.2.2.2.2 + aG ob hb sb (isO o) (G.1 - base) G else G.2.2.2.2.2) ≤ G.1
            by_cases ho : isO o = true
            · rw [if_pos ho]; have := hou ho; unfold aG; omega
            · rw [if_neg ho]; omega
          · show (if isO o = true then G.2.2.2.2.2 + aG ob hb sb (isO o) (G.1 - base) G else G.2.2.2.2.2) ≤ 400
            by_cases ho : isO o = true
            · rw [if_pos ho]; have := q4 ho; unfold aG; omega
            · rw [if_neg ho]; omega
        · have eq := aG_of cq
          unfold aG at eq
          rw [if_neg cq]
          unfold Mq at e3
          rw [eq, if_neg (by omega), if_neg (by omega)] at e3
          rw [eq, if_pos (by rw [e3.2.2.2.2.2.1]; rfl), lt_x, e3.2.2.2.2.2.2.2.2.1, nsub (by omega), show G.2.2.2.1 + (G.1 - base) - (G.1 - base) = G.2.2.2.1 by omega]
          have hM4 : Mo (upd g0 19 (nI G.2.2.2.1)) n o.length (A - a2 + a2) (pos + 2) 0 0 (-1) (G.2.2.1 + (G.1 - base)) G.2.2.2.1 (max G.2.2.2.2.1 (G.2.2.2.1 + (G.1 - base))) dp it ob hb sb ia ca ga := by
            rw [show A - a2 + a2 = A + 0 by omega]
            obtain ⟨a1, a2, a3, a4, a5, a6, a7, a8, a9, a10, a11, a12, a13, a14, a15, a16, a17, a18⟩ := e3
            refine ⟨?_, ?_, ?_, ?_, ?_, ?_, ?_, ?_, ?_, ?_, ?_, ?_, ?_, ?_, ?_, ?_, ?_, ?_⟩ <;> first | exact us | (rw [un (by decide)]; assumption)
          have hW2 : Wg n ob hb sb (isO o) (G.1, G.2.1, G.2.2.1 + (G.1 - base), G.2.2.2.1, max G.2.2.2.2.1 (G.2.2.2.1 + (G.1 - base)), if isO o = true then G.2.2.2.2.2 + (G.1 - base) else G.2.2.2.2.2) := by
            refine ⟨w1, w2, w3, w4, w5, ?_, w7, ?_, ?_, ?_, ?_⟩
            · show G.2.2.1 + (G.1 - base) ≤ sb; omega
            · show max G.2.2.2.2.1 (G.2.2.2.1 + (G.1 - base)) ≤ hb; omega
            · show (if isO o = true then G.2.2.2.2.2 + (G.1 - base) else G.2.2.2.2.2) ≤ ob
              by_cases ho : isO o = true
              · rw [if_pos ho]; have := q4 ho; omega
              · rw [if_neg ho]; omega
            · show (if isO o = true then G.2.2.2.2.2 + (G.1 - base) else G.2.2.2.2.2) ≤ G.1
              by_cases ho : isO o = true
              · rw [if_pos ho]; have := hou ho; omega
              · rw [if_neg ho]; omega
            · intro ho
              show (if isO o = true then G.2.2.2.2.2 + (G.1 - base) else G.2.2.2.2.2) = G.1
              rw [if_pos ho]; have := hou ho; omega
          have hOU2 : OU (if isO o = true then G.2.2.2.2.2 + (G.1 - base) else G.2.2.2.2.2) b2 o := by
            cases o with
            | nil => trivial
            | cons x y => exact hOU
          obtain ⟨x0, x3, x8, e4, e5⟩ := R_fin (N := N) (n := n) (sv := sv) (b := b) (outs := o) (f1 := f1) (f2 := f2) (f3 := upd f3 o.length (nI (base + (G.1 - base) - b2))) (f4 := f4) (f5 := f5) (f6 := f6) (f7 := f7) (f9 := f9) (f10 := f10) (f11 := f11) (l1 := l1) (l2 := l2) (g8 := f8) (G := (G.1, G.2.1, G.2.2.1 + (G.1 - base), G.2.2.2.1, max G.2.2.2.2.1 (G.2.2.2.1 + (G.1 - base)), if isO o = true then G.2.2.2.2.2 + (G.1 - base) else G.2.2.2.2.2)) (k := k) (kz := kz) (base := b2) (lim := l2') (np := n2) (A := A - a2) (ags := a2) (start := base) (place := np - 1) (p2 := pos + 2) hN hsv s3 (by rw [us]; congr 1; show base + (G.1 - base) - b2 = G.1 - b2; omega) (hx3 _) s5 s7 (StR_c (fun j hj => ⟨rfl, un (by omega), rfl, rfl⟩) (fun j _ => ⟨rfl, rfl⟩) (fun j _ => ⟨rfl, rfl, rfl⟩) s9) s8 (by omega) (by have := hnpos (by simp); omega) (fun h => by have := hnpos (by simp); have := s11 h; omega) (by omega) v5 h8 (by show G.2.2.2.1 ≤ max _ _; omega) hbs v2 hW2 v6 hOU2 (by omega) hdp (by omega) hM4 hk (by omega)
          rw [e4, bd3_s, bd3_s]
          exact ⟨_, _, _, _, _, _, _, _, _, _, _, rfl, e5⟩
  · obtain ⟨g, e2, e3⟩ := m_fault (l1 := l1) (l2 := l2) (k := 4) (p := nI (pos + 1)) (kn := 4) rfl hM
    rw [if_neg (fun h => csum h.symm), if_neg csum, e2, bd1_s, bd3_s]
    exact ⟨_, _, _, _, _, _, _, _, _, _, _, rfl, Or.inl ⟨_, rfl, Fm_of (by omega) hW e3 h30 h8 ⟨fun h => absurd h (by omega), fun _ => Nat.zero_le _⟩⟩⟩
end REND
