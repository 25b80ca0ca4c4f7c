/-! ===== PURE PART 34: draw: one item ===== -/
abbrev RP := Int32 → (Nat → Int32) → Int64 → (Nat → Int32) → (Nat → Int32) → (Nat → Int32) → (Nat → Int32) → Option (Int64 × (Nat → Int32) × (Nat → Int32) × (Nat → Int32) × (Nat → Int32))
theorem bd5_eta {α1 α2 α3 α4 α5 : Type} (x : Option (α1 × α2 × α3 × α4 × α5)) : bd5 x (fun a b c d e => some (a, b, c, d, e)) = x := by
  cases x <;> rfl
theorem nI_q {k j : Nat} (hk : k < 300) (hj : j < 300) : (nI k = nI j) ↔ k = j := nI_eq (by omega) (by omega)
/-- what the reference does at an inner pack -/
def mInn (a2 : Int32) (l31 l32 : Int64) (f0 f1 f2 f3 f4 f5 f6 f7 f8 : Nat → Int32) : Option ((Nat → Int32) × Int64 × (Nat → Int32) × (Nat → Int32) × (Nat → Int32) × (Nat → Int32) × (Nat → Int32) × (Nat → Int32) × (Nat → Int32) × (Nat → Int32)) := bd2 (pX7_lay (192 : Int32) f0 l31 l32 f1) (fun f0_54 f1_55 => bd2 (pX7_lay (0 : Int32) f0_54 l31 l32 f1_55) (fun f0_57 f1_58 => lt_ (upd f0_57 2 ((f0_57 2) + (1 : Int32))) (fun f0_60 => bd7 (pX7_opens (0 : Int32) ((f0_60 1) - (2 : Int32)) ((f0_60 1) - (1 : Int32)) f0_60 l31 l32 f2 f3 f4 f5 f6 f7) (fun f0_61 f2_62 f3_63 f4_64 f5_65 f6_66 f7_67 => bd2 (pX7_pick a2 f0_61 l31 l32) (fun r_69 l0_32_70 => gi_ (f0_61 2) 6 (lt_ (upd f4_64 (f0_61 2).toNatClampNeg ((1 : Int32) + r_69)) (fun f4_73 => some (f0_61, l0_32_70, f1_58, f2_62, f3_63, f4_73, f5_65, f6_66, f7_67, f8))))))))
def ItemR (N n t d base : Nat) (a2 : Int32) (l31 : Int64) (rp : RP) (fc : Nat → Int32) (cls : Option (Int64 × (Nat → Int32) × (Nat → Int32) × (Nat → Int32) × (Nat → Int32))) (rf : Option ((Nat → Int32) × Int64 × (Nat → Int32) × (Nat → Int32) × (Nat → Int32) × (Nat → Int32) × (Nat → Int32) × (Nat → Int32) × (Nat → Int32) × (Nat → Int32))) (c1 c2 c3 c4 f0 f1 f2 f3 f4 f5 f6 f7 f8 : Nat → Int32) : Prop :=
  (∃ n1 t1 l' g1 g2 g3 g4 x0 lb x1 x3 x8, cls = some (l', g1, g2, g3, g4) ∧ rf = some (x0, lb, x1, f2, x3, f4, f5, f6, f7, x8) ∧ DO n1 t1 d base l31 f2 f3 l' g1 g2 g3 g4 x0 lb x1 x3 x8 ∧ n + 2 ≤ n1 ∧ n1 ≤ n + 8 ∧ t ≤ t1 ∧ t1 - t ≤ 4 * (n1 - n)) ∨
  (d < 3 ∧ ∃ la lb, la = l31 + lb * KK ∧ cls = pX2_drawInner N rp (nI (d + 1)) fc la c1 c2 c3 c4 ∧ rf = mInn a2 l31 lb f0 f1 f2 f3 f4 f5 f6 f7 f8)
section ITEM
variable {N d base : Nat} {l31 : Int64} {f2 fc : Nat → Int32} {so a2 : Int32} {rp : RP}
theorem d_75 {k n t : Nat} {a1 a2' : Int32} {l l32 : Int64} {c1 c2 c3 c4 f0 f1 f3 f4 f5 f6 f7 f8 : Nat → Int32} (hk : k < 8) (hN : 1000 < N) (hso : fc 3 = so) (hn : n < 100) (ht : t ≤ 4 * n) (hS : SmN n c1 c2 f0 f1) (hR : Rw t d base c3 c4 f0 f2 f3 f8) (hl : l = l31 + l32 * KK) :
    ItemR N n t d base a2 l31 rp fc (bfX2_drawItem_75 N rp a1 a2' fc (nI k) l c1 c2 c3 c4) (bfX7_drawItem_328 N so a2 l31 (nI k) f0 l32 f1 f2 f3 f4 f5 f6 f7 f8) c1 c2 c3 c4 f0 f1 f2 f3 f4 f5 f6 f7 f8 := by
  by_cases c : k = 7
  · subst c
    obtain ⟨c, l', g1, g2, g3, g4, x0, lb, x1, x3, x8, q1, q2, q3, q4, q5⟩ := d_wide (N := N) (so := so) (a2 := a2) (f4 := f4) (f5 := f5) (f6 := f6) (f7 := f7) hN hso (by omega) (by omega) hS hR hl
    refine Or.inl ⟨n + 3 + c, t + c, l', g1, g2, g3, g4, x0, lb, x1, x3, x8, ?_, q4, q5, by omega, by omega, by omega, by omega⟩
    unfold bfX2_drawItem_75
    rw [if_pos (show nI 7 = 7 from rfl), bd5_eta, q3]
  · obtain ⟨c', l', g1, g2, g3, g4, x0, lb, x1, x3, x8, q1, q2, q3, q4, q5⟩ := d_raw (N := N) (so := so) hN hso (by omega) (by omega) hS hR hl
    have h7 : ¬ (nI k = 7) := fun h => c ((nI_q (j := 7) (by omega) (by omega)).mp h)
    refine Or.inl ⟨n + 1 + c', t + c', l', g1, g2, g3, g4, x0, lb, x1, x3, x8, ?_, ?_, q5, by omega, by omega, by omega, by omega⟩
    · unfold bfX2_drawItem_75
      rw [if_neg h7, bd5_eta, q3]
    · unfold bfX7_drawItem_328
      rw [if_neg h7, q4, bd5_s]
theorem d_42 {k n t : Nat} {a1 : Int32} {l l32 : Int64} {c1 c2 c3 c4 f0 f1 f3 f4 f5 f6 f7 f8 : Nat → Int32} (hk : k < 8) (hN : 1000 < N) (hso : fc 3 = so) (hn : n < 100) (ht : t ≤ 4 * n) (hS : SmN n c1 c2 f0 f1) (hR : Rw t d base c3 c4 f0 f2 f3 f8) (hl : l = l31 + l32 * KK) :
    ItemR N n t d base a2 l31 rp fc (bfX2_drawItem_42 N rp a1 (nI (d + 1)) fc (nI k) l c1 c2 c3 c4) (bfX7_drawItem_142 N so a2 l31 (nI k) f0 l32 f1 f2 f3 f4 f5 f6 f7 f8) c1 c2 c3 c4 f0 f1 f2 f3 f4 f5 f6 f7 f8 := by
  by_cases c : k = 5
  · subst c
    obtain ⟨c, tt, l', g1, g2, g3, g4, x0, lb, x1, x3, x8, q1, q2, q6, q7, q3, q4, q5⟩ := d_again (N := N) (so := so) (a2 := a2) (f4 := f4) (f5 := f5) (f6 := f6) (f7 := f7) hN hso (by omega) (by omega) hS hR hl
    refine Or.inl ⟨n + 2 + c, tt, l', g1, g2, g3, g4, x0, lb, x1, x3, x8, ?_, q4, q5, by omega, by omega, by omega, by omega⟩
    unfold bfX2_drawItem_42
    rw [if_pos (show nI 5 = 5 from rfl), bd5_eta, q3]
  · have h5 : ¬ (nI k = 5) := fun h => c ((nI_q (j := 5) (by omega) (by omega)).mp h)
    have h75 := d_75 (a1 := a1) (a2' := nI (d + 1)) (a2 := a2) (rp := rp) (f4 := f4) (f5 := f5) (f6 := f6) (f7 := f7) hk hN hso hn ht hS hR hl
    have h2 : f0 2 = nI d := hR.2.2.1
    have h7 : d < 6 := hR.2.2.2.2.2.2
    unfold bfX2_drawItem_42 bfX7_drawItem_142
    rw [if_neg h5, if_neg h5]
    by_cases c6 : k = 6
    · subst c6
      rw [if_pos (show nI 6 = 6 from rfl), if_pos (show nI 6 = 6 from rfl), h2]
      have n1 : ((3 : Int32) < nI (d + 1)) = (3 < d + 1) := nlt (a := 3) (b := d + 1) (by omega) (by omega)
      have n2 : ((3 : Int32) ≤ nI d) = (3 ≤ d) := nle (a := 3) (b := d) (by omega) (by omega)
      by_cases cd : 3 ≤ d
      · rw [if_pos (n1.mpr (by omega)), if_pos (n2.mpr cd)]
        exact h75
      · rw [if_neg (fun h => cd (by have := n1.mp h; omega)), if_neg (fun h => cd (n2.mp h)), bd5_eta]
        exact Or.inr ⟨by omega, l, l32, hl, rfl, rfl⟩
    · have h6 : ¬ (nI k = 6) := fun h => c6 ((nI_q (j := 6) (by omega) (by omega)).mp h)
      rw [if_neg h6, if_neg h6]
      exact h75
theorem d_item {n t : Nat} {l l32 : Int64} {c1 c2 c3 c4 f0 f1 f3 f4 f5 f6 f7 f8 : Nat → Int32} (hN : 1000 < N) (hso : fc 3 = so) (hn : n < 100) (ht : t ≤ 4 * n) (hS : SmN n c1 c2 f0 f1) (hR : Rw t d base c3 c4 f0 f2 f3 f8) (hl : l = l31 + l32 * KK) :
    ItemR N n t d base a2 l31 rp fc (pX2_drawItem N rp (nI base) (nI (d + 1)) fc l c1 c2 c3 c4) (pX7_drawItem N so a2 f0 l31 l32 f1 f2 f3 f4 f5 f6 f7 f8) c1 c2 c3 c4 f0 f1 f2 f3 f4 f5 f6 f7 f8 := by
  obtain ⟨k, la, lb, hk, e1, e2, e3⟩ := both_pick (f0 := fc) (g0 := f0) (n := 8) (by omega) (by omega) hl
  have e1 : pX2_pick 8 fc l = some (nI k, la) := e1
  have e2 : pX7_pick 8 f0 l31 l32 = some (nI k, lb) := e2
  have h42 := d_42 (a1 := nI base) (a2 := a2) (rp := rp) (f4 := f4) (f5 := f5) (f6 := f6) (f7 := f7) hk hN hso hn ht hS hR e3
  unfold pX2_drawItem pX7_drawItem pX4_top
  rw [bd1_s, lt_x, hR.1, nsub hR.2.2.2.2.2.1, e1, e2, bd2_s, bd2_s]
  have h30 : ItemR N n t d base a2 l31 rp fc (bfX2_drawItem_30 N rp (nI base) (nI (d + 1)) fc (nI (t - base)) (nI k) la c1 c2 c3 c4) (bfX7_drawItem_17 N so a2 l31 (nI k) f0 lb f1 f2 f3 f4 f5 f6 f7 f8) c1 c2 c3 c4 f0 f1 f2 f3 f4 f5 f6 f7 f8 := by
    by_cases cg : t - base = 0
    · unfold bfX2_drawItem_30 bfX7_drawItem_17
      rw [hR.2.2.1, gi_ok hR.2.2.2.2.2.2 (by omega), ncl (by have := hR.2.2.2.2.2.2; omega), hR.2.2.2.2.1, cg, if_pos (by decide), if_pos (by decide)]
      exact h42
    · obtain ⟨c, l', g1, g2, g3, g4, x0, ld, x1, x3, x8, q1, q2, q3, q4, q5⟩ := d_copy (N := N) (v3 := k) (so := so) (a2 := a2) (fc := fc) (f4 := f4) (f5 := f5) (f6 := f6) (f7 := f7) hN (by omega) (by omega) (by omega) hS hR e3
      refine Or.inl ⟨n + 2, t + c, l', g1, g2, g3, g4, x0, ld, x1, x3, x8, ?_, q4, q5, by omega, by omega, by omega, by omega⟩
      unfold bfX2_drawItem_30
      rw [if_neg (nI_nle (by omega) (by omega)), bd5_eta, q3]
  by_cases c3 : k = 3
  · have h3 : nI k = 3 := by rw [c3]; rfl
    rw [if_pos h3, if_pos h3]; exact h30
  · have h3 : ¬ (nI k = 3) := fun h => c3 ((nI_q (j := 3) (by omega) (by omega)).mp h)
    rw [if_neg h3, if_neg h3]
    by_cases c4 : k = 4
    · have h4 : nI k = 4 := by rw [c4]; rfl
      rw [if_pos h4, if_pos h4]; exact h30
    · have h4 : ¬ (nI k = 4) := fun h => c4 ((nI_q (j := 4) (by omega) (by omega)).mp h)
      rw [if_neg h4, if_neg h4]; exact h42
end ITEM
