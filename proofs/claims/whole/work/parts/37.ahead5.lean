/-! ===== PURE PART 8: the reader that asks ahead: leaving an inner pack ===== -/
/-- what the outermost gave lies below the second pack's base -/
def OU (ou : Nat) : Nat → List Fr → Prop
  | _, [] => True
  | base, [_] => ou = base
  | _, (ba, _, _, _) :: x :: o => OU ou ba (x :: o)
section LEAVE
variable {N n ob hb sb : Nat} {b : Nat → Nat} {sv : Nat → Int32} {o : List Fr} {f0 f1 f2 f3 f4 f5 f6 f7 f8 f9 : Nat → Int32} {dp it base lim np pos b2 l2 n2 a2 : Nat} {G : GS}
theorem A_li_l (h7 : f0 7 = nI (o.length + 2)) (hl : o.length ≤ 4) (h8 : f0 8 = nI (pos + 2)) (hf7 : f7 (o.length + 2) = nI lim) (hf8 : f8 (o.length + 2) = nI np) (hlim : lim ≤ 160) (hp : pos + 2 < lim) (hG : Gv f3 f4 f5 ob hb sb 0 (-1) dp it G) :
    ∃ g3, pX1_leaveInner f0 f3 f4 f6 f7 f8 f9 = some (f0, g3) ∧ Gv g3 f4 f5 ob hb sb 2 (nI np) dp it G := by
  unfold pX1_leaveInner
  obtain ⟨g3, e1, e2⟩ := c_fail (k := 2) (p := nI np) (kn := 2) rfl hG.1
  simp only [h7, gi_ok (show o.length + 2 < 7 by omega) (by decide), lt_x, ncl (show o.length + 2 < 2 ^ 31 by omega), hf7, hf8, h8]
  rw [if_neg (nI_ge hp (by omega)), e1, bd1_s]
  exact ⟨g3, rfl, e2, hG.2⟩
theorem A_li_t (h7 : f0 7 = nI (o.length + 2)) (hl : o.length ≤ 4) (h8 : f0 8 = nI (pos + 2)) (hf6 : f6 (o.length + 2) = nI base) (hf7 : f7 (o.length + 2) = nI lim) (hf8 : f8 (o.length + 2) = nI np) (hf9 : f9 (o.length + 2) = nI (np - 1 - a2)) (hlim : lim ≤ 160) (hp : lim ≤ pos + 2) (hpos : pos + 2 ≤ 160) (hnp : 1 ≤ np) (hbs : base ≤ G.1) {om0 : Bool} (hW : Wg n ob hb sb om0 G) (hG : Gv f3 f4 f5 ob hb sb 0 (-1) dp it G) :
    ∃ g0 g3, pX1_leaveInner f0 f3 f4 f6 f7 f8 f9 = some (g0, g3) ∧ g0 7 = nI (o.length + 1) ∧ g0 8 = nI (pos + 2) ∧ g0 9 = nI (np - 1 - a2) ∧ g0 10 = nI (np - 1) ∧ g0 11 = nI base ∧
      (aG ob hb sb (isO o) (G.1 - base) G < G.1 - base ∧ Ac g3 ob hb sb (kG hb sb (gv (isO o) (aG ob hb sb (isO o) (G.1 - base) G) G.1 G.2.1 G)) (nI (np - 1)) (G.2.2.1 + aG ob hb sb (isO o) (G.1 - base) G) (G.2.2.2.1 + aG ob hb sb (isO o) (G.1 - base) G - (G.1 - base)) (max G.2.2.2.2.1 (G.2.2.2.1 + aG ob hb sb (isO o) (G.1 - base) G)) (if isO o = true then G.2.2.2.2.2 + aG ob hb sb (isO o) (G.1 - base) G else G.2.2.2.2.2) dp it ∨
       ¬ aG ob hb sb (isO o) (G.1 - base) G < G.1 - base ∧ Gv g3 f4 f5 ob hb sb 0 (-1) dp it (G.1, G.2.1, G.2.2.1 + (G.1 - base), G.2.2.2.1, max G.2.2.2.2.1 (G.2.2.2.1 + (G.1 - base)), if isO o = true then G.2.2.2.2.2 + (G.1 - base) else G.2.2.2.2.2)) := by
  obtain ⟨w1, w2, w3, w4, w5, w6, w7, w8, w9, w10, w11⟩ := id hW
  obtain ⟨hA, h4, h5⟩ := hG
  unfold pX1_leaveInner
  have e0 : nI (o.length + 2) - 1 = nI (o.length + 1) := by rw [k1, nsub (by omega)]; congr 1
  have e1 : nI np - 1 = nI (np - 1) := by rw [k1, nsub hnp]
  simp only [h7, gi_ok (show o.length + 2 < 7 by omega) (by decide), lt_x, ncl (show o.length + 2 < 2 ^ 31 by omega), hf6, hf7, hf8, hf9, h8, e1]
  rw [if_pos (nI_le hp (by omega))]
  have e7 : upd (upd f0 9 (nI (np - 1 - a2))) 10 (nI (np - 1)) 7 = nI (o.length + 2) := by rw [un (by decide), un (by decide)]; exact h7
  simp only [e7, gi_ok (show o.length + 2 < 7 by omega) (by decide), ncl (show o.length + 2 < 2 ^ 31 by omega), hf6]
  have e8 : upd (upd (upd f0 9 (nI (np - 1 - a2))) 10 (nI (np - 1))) 11 (nI base) 7 = nI (o.length + 2) := by rw [un (by decide)]; exact e7
  rw [e8, e0]
  generalize hg0 : upd (upd (upd (upd f0 9 (nI (np - 1 - a2))) 10 (nI (np - 1))) 11 (nI base)) 7 (nI (o.length + 1)) = g0
  have p7 : g0 7 = nI (o.length + 1) := by rw [← hg0, us]
  have p8 : g0 8 = nI (pos + 2) := by rw [← hg0, un (by decide), un (by decide), un (by decide), un (by decide)]; exact h8
  have p9 : g0 9 = nI (np - 1 - a2) := by rw [← hg0, un (by decide), un (by decide), un (by decide), us]
  have p10 : g0 10 = nI (np - 1) := by rw [← hg0, un (by decide), un (by decide), us]
  have p11 : g0 11 = nI base := by rw [← hg0, un (by decide), us]
  unfold pX4_top
  rw [bd1_s, h4, p11, nsub hbs, A_out p7 (by omega), bd1_s, p10]
  obtain ⟨g3, e2, e3⟩ := c_ask (c := G.1 - base) (om := isO o) (p := nI (np - 1)) w6 (by omega) (fun _ => w9) w4 w3 w2 (by omega) (by omega) hA
  rw [e2, bd2_s]
  obtain ⟨q1, q2, q3, q4⟩ := aQ_le ob hb sb (isO o) (G.1 - base) G.2.2.1 G.2.2.2.1 G.2.2.2.2.2
  obtain ⟨g4, e4, e5⟩ := c_release (c := G.1 - base) (by omega) e3
  rw [e4, bd1_s]
  refine ⟨g0, g4, rfl, p7, p8, p9, p10, p11, ?_⟩
  by_cases cq : aG ob hb sb (isO o) (G.1 - base) G < G.1 - base
  · refine Or.inl ⟨cq, ?_⟩
    have cq2 := cq
    unfold aG at cq2
    rw [if_pos cq2, if_pos cq2] at e5
    exact e5
  · have eq := aG_of cq
    unfold aG at eq
    rw [eq, if_neg (by omega), if_neg (by omega), show G.2.2.2.1 + (G.1 - base) - (G.1 - base) = G.2.2.2.1 by omega] at e5
    exact Or.inr ⟨cq, e5, h4, h5⟩
end LEAVE
