/-! ===== PURE PART 26: what holds between two calls; the small calls ===== -/
theorem nn_of {a : Int32} (h : ¬ a < 0) : ∃ k, k < 2 ^ 31 ∧ a = nI k := by
  have h1 : 0 ≤ a.toInt := by
    rw [Int32.lt_iff_toInt_lt] at h
    have : (0 : Int32).toInt = 0 := rfl
    omega
  have h2 := Int32.toInt_lt a
  refine ⟨a.toInt.toNat, by omega, ?_⟩
  apply Int32.toInt_inj.mp
  rw [nI_toInt (by omega)]
  omega
theorem n_pred {n k : Nat} (hn : n < 2 ^ 30) (hk : k < 2 ^ 31) : (nI n - 1 < nI k) = (n ≤ k) := by
  apply propext
  rw [k1, Int32.lt_iff_toInt_lt, pk_sub_toInt (by omega) (by omega), nI_toInt hk]
  omega
/-- the streams of class and reference -/
def Sm (n : Nat) (b : Nat → Nat) (f1 f2 f25 f26 : Nat → Int32) : Prop := n ≤ 160 ∧ (∀ i, i < n → b i < 256) ∧ f1 1 = nI n ∧ (∀ i, i < n → f2 i = nI (b i)) ∧ f25 1 = nI n ∧ ∀ i, i < n → f26 i = nI (b i)
/-- what is told of the latest opening -/
def Tl (f5 f7 f37 f38 : Nat → Int32) : Prop := ∃ kd ou, kd ≤ 10 ∧ ou ≤ 400 ∧ f5 4 = nI kd ∧ f37 0 = (if kd = 0 then -1 else nI kd) ∧ f37 1 = f5 5 ∧ f37 2 = f5 6 ∧ f37 3 = f5 8 ∧ f5 9 = nI ou ∧ f37 4 = nI ou ∧ f37 5 = f5 10 ∧ f37 6 = f5 11 ∧ ∀ i, i < ou → f7 i = f38 i
def Tp (f : Nat → Int32) : Prop := ∃ t, t ≤ 800 ∧ f 1 = nI t
def Iv (f1 f2 f5 f6 f7 f9 f23 f25 f26 f37 f38 : Nat → Int32) : Prop := (∃ n b, Sm n b f1 f2 f25 f26) ∧ Tp f6 ∧ Tp f9 ∧ Tp f23 ∧ Tl f5 f7 f37 f38
theorem Sm_mk {n : Nat} {f1 f2 f25 f26 : Nat → Int32} (hn : n ≤ 160) (h1 : f1 1 = nI n) (h25 : f25 1 = nI n) (h : ∀ i, i < n → ∃ k, k < 256 ∧ f2 i = nI k ∧ f26 i = nI k) : ∃ n b, Sm n b f1 f2 f25 f26 := by
  have h2 : ∀ i, ∃ k, i < n → k < 256 ∧ f2 i = nI k ∧ f26 i = nI k := by
    intro i
    by_cases c : i < n
    · obtain ⟨k, hk⟩ := h i c; exact ⟨k, fun _ => hk⟩
    · exact ⟨0, fun hc => absurd hc c⟩
  exact ⟨n, fun i => Classical.choose (h2 i), hn, fun i hi => (Classical.choose_spec (h2 i) hi).1, h1, fun i hi => (Classical.choose_spec (h2 i) hi).2.1, h25, fun i hi => (Classical.choose_spec (h2 i) hi).2.2⟩
section CALLS
variable {f1 f2 f5 f6 f7 f9 f23 f25 f26 f37 f38 : Nat → Int32} {l25_31 l25_32 : Int64} {a1 a2 a3 : Int32}
theorem in_byte : pX7_in a1 0 255 = pX6_isByte a1 := rfl
theorem isByte_cases (a : Int32) : pX6_isByte a = some 0 ∨ (pX6_isByte a = some 1 ∧ ∃ k, k < 256 ∧ a = nI k) := by
  unfold pX6_isByte
  by_cases c0 : a < 0
  · rw [if_pos c0]; exact Or.inl rfl
  · obtain ⟨k, hk, rfl⟩ := nn_of c0
    rw [if_neg c0]
    by_cases c1 : (255 : Int32) < nI k
    · rw [if_pos c1]; exact Or.inl rfl
    · rw [if_neg c1]
      rw [k255, nlt (by omega) hk] at c1
      exact Or.inr ⟨rfl, k, by omega, rfl⟩
theorem s_put (hI : Iv f1 f2 f5 f6 f7 f9 f23 f25 f26 f37 f38) : ∃ (r : Int32) (f1' f2' f25' f26' : Nat → Int32), pX6_put a1 f1 f2 = some (r, f1', f2') ∧ pX7_put a1 f25 l25_31 l25_32 f26 = some (r, f25', f26') ∧ Iv f1' f2' f5 f6 f7 f9 f23 f25' f26' f37 f38 := by
  have hI0 := hI
  obtain ⟨⟨n, b, hn, hb, h1, h2, h25, h26⟩, hr⟩ := hI
  unfold pX6_put pX7_put
  rw [in_byte]
  rcases isByte_cases a1 with e | ⟨e, k, hk, rfl⟩
  · rw [e, bd1_s, bd1_s, if_pos rfl, if_pos rfl]
    exact ⟨_, _, _, _, _, rfl, rfl, hI0⟩
  · rw [e, bd1_s, bd1_s, if_neg (by decide), if_neg (by decide), s_full h1 hn, bd1_s, h25, k160]
    by_cases c : n = 160
    · rw [if_pos c, if_pos (show nI n = nI 160 by rw [c]), if_neg (show ¬ (1 : Int32) = 0 by decide)]
      exact ⟨_, _, _, _, _, rfl, rfl, hI0⟩
    · rw [if_neg c, if_neg (fun h => c ((nI_eq (by omega) (by omega)).mp h)), if_pos rfl, s_app h1 (by omega), bd2_s, gi_ok (by omega) (by omega), lt_x, lt_x, ncl (by omega), nI_1]
      unfold pX5_count
      rw [bd1_s, us, us]
      refine ⟨_, _, _, _, _, rfl, rfl, Sm_mk (n := n + 1) (by omega) us us ?_, hr⟩
      intro i hi
      by_cases ci : i = n
      · subst ci; exact ⟨k, hk, us, us⟩
      · rw [un ci, un ci]; exact ⟨b i, hb i (by omega), h2 i (by omega), h26 i (by omega)⟩
theorem s_cut (hI : Iv f1 f2 f5 f6 f7 f9 f23 f25 f26 f37 f38) : ∃ (r : Int32) (f1' f25' : Nat → Int32), pX6_cut a1 f1 = some (r, f1') ∧ pX7_cut a1 f25 l25_31 l25_32 = some (r, f25') ∧ Iv f1' f2 f5 f6 f7 f9 f23 f25' f26 f37 f38 := by
  have hI0 := hI
  obtain ⟨⟨n, b, hn, hb, h1, h2, h25, h26⟩, hr⟩ := hI
  unfold pX6_cut pX7_cut pX5_count pX7_in
  rw [bd1_s, h1, h25]
  by_cases c0 : a1 < 0
  · rw [if_pos c0, if_pos c0, bd1_s, if_pos rfl]
    exact ⟨_, _, _, rfl, rfl, hI0⟩
  · obtain ⟨k, hk, rfl⟩ := nn_of c0
    rw [if_neg c0, if_neg c0]
    by_cases c1 : k ≤ n
    · rw [if_pos (nI_le c1 (by omega)), if_neg (nI_nlt c1 (by omega)), bd1_s, if_neg (by decide), lt_x, lt_x]
      have hkeep : ∃ g, pX5_keep (nI k) f1 = some g ∧ g 1 = nI k := by
        by_cases c2 : k < n
        · exact ⟨_, s_keep h1 hn c2, us⟩
        · exact ⟨_, s_keep_n h1 (by omega) hk, by rw [h1]; congr 1; omega⟩
      obtain ⟨g, e1, e2⟩ := hkeep
      rw [e1, bd1_s]
      exact ⟨_, _, _, rfl, rfl, ⟨k, b, by omega, fun i hi => hb i (by omega), e2, fun i hi => h2 i (by omega), us, fun i hi => h26 i (by omega)⟩, hr⟩
    · rw [if_neg (nI_ge (by omega) (by omega)), if_pos (nI_lt (by omega) hk), bd1_s, if_pos rfl]
      exact ⟨_, _, _, rfl, rfl, hI0⟩
theorem s_poke (hI : Iv f1 f2 f5 f6 f7 f9 f23 f25 f26 f37 f38) : ∃ (r : Int32) (f2' f26' : Nat → Int32), pX6_poke a1 a2 f1 f2 = some (r, f2') ∧ pX7_poke a1 a2 f25 l25_31 l25_32 f26 = some (r, f26') ∧ Iv f1 f2' f5 f6 f7 f9 f23 f25 f26' f37 f38 := by
  have hI0 := hI
  obtain ⟨⟨n, b, hn, hb, h1, h2, h25, h26⟩, hr⟩ := hI
  unfold pX6_poke pX7_poke
  rw [in_byte]
  unfold pX7_in
  by_cases c0 : a1 < 0
  · rw [s_has_n c0, bd1_s, if_pos rfl, if_pos c0, bd1_s, if_pos rfl]
    exact ⟨_, _, _, rfl, rfl, hI0⟩
  · obtain ⟨k, hk, rfl⟩ := nn_of c0
    rw [if_neg c0, h25]
    have np := n_pred (n := n) (by omega) hk
    by_cases c1 : n ≤ k
    · rw [s_has_f h1 hn c1 hk, bd1_s, if_pos rfl, if_pos (np.mpr c1), bd1_s, if_pos rfl]
      exact ⟨_, _, _, rfl, rfl, hI0⟩
    · rw [s_has_t h1 hn (by omega), bd1_s, if_neg (show ¬ (1 : Int32) = 0 by decide), if_neg (fun h => c1 (np.mp h)), bd1_s, if_neg (show ¬ (1 : Int32) = 0 by decide)]
      rcases isByte_cases a2 with e | ⟨e, v, hv, rfl⟩
      · rw [e, bd1_s, bd1_s, if_pos rfl, if_pos rfl]
        exact ⟨_, _, _, rfl, rfl, hI0⟩
      · rw [e, bd1_s, bd1_s, if_neg (show ¬ (1 : Int32) = 0 by decide), if_neg (show ¬ (1 : Int32) = 0 by decide), s_at h1 hn (by omega), bd1_s, s_chg h1 hn (by omega), bd1_s, gi_ok (by omega) (by omega), lt_x, gi_ok (by omega) (by omega), lt_x, ncl (by omega), h2 k (by omega), h26 k (by omega)]
        refine ⟨_, _, _, rfl, rfl, Sm_mk hn h1 h25 ?_, hr⟩
        intro i hi
        by_cases ci : i = k
        · subst ci; exact ⟨v, hv, us, us⟩
        · rw [un ci, un ci]; exact ⟨b i, hb i hi, h2 i hi, h26 i hi⟩
theorem s_at_ (hI : Iv f1 f2 f5 f6 f7 f9 f23 f25 f26 f37 f38) : ∃ (r : Int32), pX6_at a1 f1 f2 = some r ∧ pX7_at a1 f25 l25_31 l25_32 f26 = some r ∧ Iv f1 f2 f5 f6 f7 f9 f23 f25 f26 f37 f38 := by
  have hI0 := hI
  obtain ⟨⟨n, b, hn, hb, h1, h2, h25, h26⟩, hr⟩ := hI
  unfold pX6_at pX7_at pX7_in
  by_cases c0 : a1 < 0
  · rw [s_has_n c0, bd1_s, if_pos rfl, if_pos c0, bd1_s, if_pos rfl]
    exact ⟨_, rfl, rfl, hI0⟩
  · obtain ⟨k, hk, rfl⟩ := nn_of c0
    rw [if_neg c0, h25]
    have np := n_pred (n := n) (by omega) hk
    by_cases c1 : n ≤ k
    · rw [s_has_f h1 hn c1 hk, bd1_s, if_pos rfl, if_pos (np.mpr c1), bd1_s, if_pos rfl]
      exact ⟨_, rfl, rfl, hI0⟩
    · rw [s_has_t h1 hn (by omega), bd1_s, if_neg (show ¬ (1 : Int32) = 0 by decide), if_neg (fun h => c1 (np.mp h)), bd1_s, if_neg (show ¬ (1 : Int32) = 0 by decide), s_at h1 hn (by omega), bd1_s, gi_ok (by omega) (by omega), ncl (by omega), h2 k (by omega), h26 k (by omega)]
      exact ⟨_, rfl, rfl, hI0⟩
theorem s_length (hI : Iv f1 f2 f5 f6 f7 f9 f23 f25 f26 f37 f38) : ∃ (r : Int32), pX6_length f1 = some r ∧ pX7_length f25 l25_31 l25_32 = some r ∧ Iv f1 f2 f5 f6 f7 f9 f23 f25 f26 f37 f38 := by
  have hI0 := hI
  obtain ⟨⟨n, b, hn, hb, h1, h2, h25, h26⟩, hr⟩ := hI
  exact ⟨nI n, by unfold pX6_length pX5_count; rw [bd1_s, h1], by unfold pX7_length; rw [h25], hI0⟩
theorem s_told (hI : Iv f1 f2 f5 f6 f7 f9 f23 f25 f26 f37 f38) : ∃ (r : Int32), pX6_told a1 f5 = some r ∧ pX7_told a1 f25 l25_31 l25_32 f37 = some r ∧ Iv f1 f2 f5 f6 f7 f9 f23 f25 f26 f37 f38 := by
  have hI0 := hI
  obtain ⟨-, -, -, -, kd, ou, hk, ho, t0, t1, t2, t3, t4, t5, t6, t7, t8, -⟩ := hI
  unfold pX6_told pX7_told pX7_in
  by_cases c0 : a1 < 0
  · have hne : ∀ c : Int32, ¬ c < 0 → ¬ a1 = c := fun c h e => h (e ▸ c0)
    rw [if_neg (hne 0 (by decide)), if_neg (hne 1 (by decide)), if_neg (hne 2 (by decide)), if_neg (hne 3 (by decide)), if_neg (hne 4 (by decide)), if_neg (hne 5 (by decide)), if_neg (hne 6 (by decide)), if_pos c0, bd1_s, if_pos rfl]
    exact ⟨_, rfl, rfl, hI0⟩
  · obtain ⟨k, hk2, rfl⟩ := nn_of c0
    rw [if_neg c0]
    by_cases c1 : 6 < k
    · have hne : ∀ c : Nat, c ≤ 6 → ¬ nI k = nI c := fun c h e => by have := (nI_eq hk2 (by omega)).mp e; omega
      rw [if_neg (show ¬ nI k = 0 from hne 0 (by decide)), if_neg (show ¬ nI k = 1 from hne 1 (by decide)), if_neg (show ¬ nI k = 2 from hne 2 (by decide)), if_neg (show ¬ nI k = 3 from hne 3 (by decide)), if_neg (show ¬ nI k = 4 from hne 4 (by decide)), if_neg (show ¬ nI k = 5 from hne 5 (by decide)), if_neg (show ¬ nI k = 6 from hne 6 (by decide)), if_pos (show (6 : Int32) < nI k from nI_lt (a := 6) c1 hk2), bd1_s, if_pos rfl]
      exact ⟨_, rfl, rfl, hI0⟩
    · rw [if_neg (show ¬ (6 : Int32) < nI k from nI_nlt (b := k) (a := 6) (by omega) (by omega)), bd1_s, if_neg (show ¬ (1 : Int32) = 0 by decide), gi_ok (by omega) (by omega), ncl (by omega)]
      have hc : k = 0 ∨ k = 1 ∨ k = 2 ∨ k = 3 ∨ k = 4 ∨ k = 5 ∨ k = 6 := by omega
      rcases hc with rfl | rfl | rfl | rfl | rfl | rfl | rfl
      · rw [if_pos (show nI 0 = 0 from rfl), t1]
        by_cases cz : kd = 0
        · subst cz
          rw [c_failed_0 t0, bd1_s, if_pos rfl, if_pos rfl]
          exact ⟨_, rfl, rfl, hI0⟩
        · rw [c_failed_1 t0 (by omega) (by omega), bd1_s, if_neg (show ¬ (1 : Int32) = 0 by decide), if_neg cz, t0]
          exact ⟨_, rfl, rfl, hI0⟩
      · exact ⟨_, rfl, by rw [t2], hI0⟩
      · exact ⟨_, rfl, by rw [t3], hI0⟩
      · exact ⟨_, rfl, by rw [t4], hI0⟩
      · exact ⟨_, rfl, by rw [t6, ← t5], hI0⟩
      · exact ⟨_, rfl, by rw [t7], hI0⟩
      · exact ⟨_, rfl, by rw [t8], hI0⟩
theorem s_given (hI : Iv f1 f2 f5 f6 f7 f9 f23 f25 f26 f37 f38) : ∃ (r : Int32), pX6_given a1 f5 f6 f7 = some r ∧ pX7_given a1 f25 l25_31 l25_32 f37 f38 = some r ∧ Iv f1 f2 f5 f6 f7 f9 f23 f25 f26 f37 f38 := by
  have hI0 := hI
  obtain ⟨-, -, -, -, kd, ou, hk, ho, t0, t1, t2, t3, t4, t5, t6, t7, t8, t9⟩ := hI
  unfold pX6_given pX7_given pX7_in
  rw [k4, gi_ok (by omega) (by omega), ncl (by omega), t6, t5]
  by_cases c0 : a1 < 0
  · rw [if_pos c0, if_pos c0, bd1_s, if_pos rfl]
    exact ⟨_, rfl, rfl, hI0⟩
  · obtain ⟨k, hk2, rfl⟩ := nn_of c0
    rw [if_neg c0, if_neg c0]
    have np := n_pred (n := ou) (by omega) hk2
    have nq := nle (a := ou) (b := k) (by omega) hk2
    by_cases c1 : ou ≤ k
    · rw [if_pos (nq.mpr c1), if_pos (np.mpr c1), bd1_s, if_pos rfl]
      exact ⟨_, rfl, rfl, hI0⟩
    · rw [if_neg (fun h => c1 (nq.mp h)), if_neg (fun h => c1 (np.mp h)), bd1_s, if_neg (show ¬ (1 : Int32) = 0 by decide), r_at (by omega), bd1_s, gi_ok (by omega) (by omega), ncl (by omega), t9 k (by omega)]
      exact ⟨_, rfl, rfl, hI0⟩
theorem bounds_eq : pX7_isBound a1 a2 a3 = pX6_areBounds a1 a2 a3 := by
  unfold pX7_isBound pX6_areBounds pX7_in
  by_cases c1 : a1 < 0
  · rw [if_pos c1, if_pos c1]; rfl
  · rw [if_neg c1, if_neg c1]
    by_cases c2 : (400 : Int32) < a1
    · rw [if_pos c2, if_pos c2]; rfl
    · rw [if_neg c2, if_neg c2, bd1_s, if_neg (show ¬ (1 : Int32) = 0 by decide)]
      by_cases c3 : a2 < 0
      · rw [if_pos c3, if_pos c3]; rfl
      · rw [if_neg c3, if_neg c3]
        by_cases c4 : (800 : Int32) < a2
        · rw [if_pos c4, if_pos c4]; rfl
        · rw [if_neg c4, if_neg c4, bd1_s, if_neg (show ¬ (1 : Int32) = 0 by decide)]
          by_cases c5 : a3 < 0
          · rw [if_pos c5]; rfl
          · rw [if_neg c5]
            by_cases c6 : (1500 : Int32) < a3
            · rw [if_pos c6]; rfl
            · rw [if_neg c6]; rfl
theorem bounds_cases (a1 a2 a3 : Int32) : pX6_areBounds a1 a2 a3 = some 0 ∨ (pX6_areBounds a1 a2 a3 = some 1 ∧ ∃ ob hb sb, ob ≤ 400 ∧ hb ≤ 800 ∧ sb ≤ 1500 ∧ a1 = nI ob ∧ a2 = nI hb ∧ a3 = nI sb) := by
  unfold pX6_areBounds
  by_cases c1 : a1 < 0
  · rw [if_pos c1]; exact Or.inl rfl
  · rw [if_neg c1]
    by_cases c2 : (400 : Int32) < a1
    · rw [if_pos c2]; exact Or.inl rfl
    · rw [if_neg c2]
      by_cases c3 : a2 < 0
      · rw [if_pos c3]; exact Or.inl rfl
      · rw [if_neg c3]
        by_cases c4 : (800 : Int32) < a2
        · rw [if_pos c4]; exact Or.inl rfl
        · rw [if_neg c4]
          by_cases c5 : a3 < 0
          · rw [if_pos c5]; exact Or.inl rfl
          · rw [if_neg c5]
            by_cases c6 : (1500 : Int32) < a3
            · rw [if_pos c6]; exact Or.inl rfl
            · rw [if_neg c6]
              obtain ⟨x, hx, rfl⟩ := nn_of c1
              obtain ⟨y, hy, rfl⟩ := nn_of c3
              obtain ⟨z, hz, rfl⟩ := nn_of c5
              rw [k400, nlt (by omega) (by omega)] at c2
              rw [k800, nlt (by omega) (by omega)] at c4
              rw [k1500, nlt (by omega) (by omega)] at c6
              exact Or.inr ⟨rfl, x, y, z, by omega, by omega, by omega, rfl, rfl, rfl⟩
end CALLS
