def zb_ (r : Int32) : Bool := decide (r = 0 ∨ r = 1)
theorem zb_e {r : Int32} (h : zb_ r = true) : narrow .boolean (.int r) = .int r := by
  rcases of_decide_eq_true h with e | e <;> subst e <;> rfl
/-! PackDrawer.put -/
abbrev wdX6_1 (cA : ClassId) (q0 q1 q2 q3 q5 q8 q11 q16 q17 q22 : Nat) (f1 : Nat → Int32) (f2 : Nat → Int32) : va_W := [(q0, .inr (6, [.ref q1, .ref q3, .ref q5, .ref q8, .ref q11, .ref q16, .ref q17, .ref q22])), (q1, .inr (5, [.ref q2, .int (f1 1)])), (q2, .inl (cA, 160, .inl f2))]
theorem hdX6_isByte : yX6_isByte.cls = RX6 ∧ yX6_isByte.cls ≠ "java/lang/invoke/MethodHandle" ∧ yX6_isByte.cls ≠ "java/lang/invoke/VarHandle" ∧ (parseMethodDescriptor yX6_isByte.desc).map (fun d => d.parameters.length) = some 1 := by decide +kernel
theorem hdX5_isFull : yX5_isFull.cls = RX5 ∧ yX5_isFull.cls ≠ "java/lang/invoke/MethodHandle" ∧ yX5_isFull.cls ≠ "java/lang/invoke/VarHandle" ∧ (parseMethodDescriptor yX5_isFull.desc).map (fun d => d.parameters.length) = some 0 := by decide +kernel
abbrev rmX6_put : Room := { frames := 1, cells := 0, slots := 0, locals := 21 }
theorem lkX6_put_10 : Cond.fieldLink RX6 10 RX6 (TX6 0).2.1 (TX6 0).2.2.1 ∈ wsX6_put := by decide +kernel
theorem inX6_put_X6 : ∀ w ∈ u_ws RX6 TX6 8, w ∈ wsX6_put := by decide +kernel
def pX6_put (a1 : Int32) (f1 : Nat → Int32) (f2 : Nat → Int32) : Option (Int32 × (Nat → Int32) × (Nat → Int32)) := bd1 (pX6_isByte a1) (fun r_1 => if r_1 = 0 then some ((-2 : Int32), f1, f2) else bd1 (pX5_isFull f1 f2) (fun r_4 => if r_4 = 0 then bd2 (pX5_append a1 f1 f2) (fun f1_7 f2_8 => bd1 (pX5_count f1_7) (fun r_10 => some (r_10, f1_7, f2_8))) else some ((-3 : Int32), f1, f2)))
set_option maxHeartbeats 4000000 in
set_option maxRecDepth 100000 in
theorem bwX6_put {p : Program} {l : Launch} {e : Env} {s : State} {m : MethodId} {args : Array Value} {below : List Frame} {meth : Method} {c : Code} {D : va_G} {A : Nat → Prop} {cA : ClassId} {q0 q1 q2 q3 q5 q8 q11 q16 q17 q22 : Nat} {res : Int32 × (Nat → Int32) × (Nat → Int32)} (C0 : cx p s m args meth c cX6_put 2 RX6 wsX6_put (some .int) D vwCl [(cA, .int)] A) (a1 : Int32) (f1 : Nat → Int32) (f2 : Nat → Int32) (h : pX6_put a1 f1 f2 = some res) : At_ p l e (rmX6_put) s m args below meth c D vwCl A 2 0 0 (Qi_ below args s D vwCl A (wdX6_1 cA q0 q1 q2 q3 q5 q8 q11 q16 q17 q22 res.2.1 res.2.2) res.1) 0 [(0, .ref q0), (1, .int a1)] [] (wdX6_1 cA q0 q1 q2 q3 q5 q8 q11 q16 q17 q22 f1 f2) := by
  unfold pX6_put at h
  refine a_iload_n C0 dX6_put_0 rfl 1 rfl ?_
  obtain ⟨r_1, h_2, h⟩ := bd1_e h
  refine a_callSi C0 (wdX6_1 cA q0 q1 q2 q3 q5 q8 q11 q16 q17 q22 f1 f2) (As := [.int a1]) (rest := []) (ctX6_isByte l D cA a1 h_2) (cwS 1 C0.1.2.2.2.2 gX6_put_X6_isByte rfl rfl rfl hdX6_isByte ⟨Nat.le_of_ble_eq_true rfl, Nat.le_of_ble_eq_true rfl⟩) [] [0, 1, 2] [0, 1, 2] rfl rfl rfl rfl (by decide) rfl rfl rfl rfl (Nat.le_of_ble_eq_true rfl) dX6_put_1 ⟨Nat.zero_le _, Nat.zero_le _⟩ ?_
  refine a_if_ne C0 10 dX6_put_4 (by decide) (fun c_3 => ?_) (fun c_3 => ?_)
  · have h := ie_ c_3 h
    refine a_aload_n C0 dX6_put_10 rfl 0 rfl ?_
    refine a_get C0 inX6_put_X6 0 rfl rfl 0 (by decide) lkX6_put_10 (fun _ h9 => h9) (.ref q1) rfl dX6_put_11 ?_
    obtain ⟨r_4, h_5, h⟩ := bd1_e h
    refine a_callVi C0 (wdX6_1 cA q0 q1 q2 q3 q5 q8 q11 q16 q17 q22 f1 f2) (As := []) (rest := []) (ctX5_isFull l D cA q1 q2 f1 f2 h_5) (cwV 0 C0.1.2.2.2.2 gX6_put_X5_isFull rfl rfl rfl hdX5_isFull ⟨Nat.le_of_ble_eq_true rfl, Nat.le_of_ble_eq_true rfl⟩) [1, 2] [0] [0, 1, 2] rfl rfl rfl rfl (by decide) rfl rfl rfl rfl rfl rfl (Nat.le_of_ble_eq_true rfl) dX6_put_14 ⟨Nat.zero_le _, Nat.zero_le _⟩ ?_
    refine a_if_eq C0 23 dX6_put_17 (by decide) (fun c_6 => ?_) (fun c_6 => ?_)
    · have h := it_ c_6 h
      refine a_aload_n C0 dX6_put_23 rfl 0 rfl ?_
      refine a_get C0 inX6_put_X6 0 rfl rfl 0 (by decide) lkX6_put_10 (fun _ h9 => h9) (.ref q1) rfl dX6_put_24 ?_
      refine a_iload_n C0 dX6_put_27 rfl 1 rfl ?_
      obtain ⟨f1_7, f2_8, h_9, h⟩ := bd2_e h
      refine a_callVv C0 (wdX6_1 cA q0 q1 q2 q3 q5 q8 q11 q16 q17 q22 f1_7 f2_8) (As := [.int a1]) (rest := []) (ctX5_append l D cA q1 q2 a1 f1 f2 h_9) (cwV 1 C0.1.2.2.2.2 gX6_put_X5_append rfl rfl rfl hdX5_append ⟨Nat.le_of_ble_eq_true rfl, Nat.le_of_ble_eq_true rfl⟩) [1, 2] [0] [0, 1, 2] rfl rfl rfl rfl (by decide) rfl rfl rfl rfl rfl rfl (Nat.le_of_ble_eq_true rfl) dX6_put_28 ⟨Nat.zero_le _, Nat.zero_le _⟩ ?_
      refine a_aload_n C0 dX6_put_31 rfl 0 rfl ?_
      refine a_get C0 inX6_put_X6 0 rfl rfl 0 (by decide) lkX6_put_10 (fun _ h9 => h9) (.ref q1) rfl dX6_put_32 ?_
      obtain ⟨r_10, h_11, h⟩ := bd1_e h
      refine a_callVi C0 (wdX6_1 cA q0 q1 q2 q3 q5 q8 q11 q16 q17 q22 f1_7 f2_8) (As := []) (rest := []) (ctX5_count l D cA q1 q2 f1_7 h_11) (cwV 0 C0.1.2.2.2.2 gX6_put_X5_count rfl rfl rfl hdX5_count ⟨Nat.le_of_ble_eq_true rfl, Nat.le_of_ble_eq_true rfl⟩) [1] [0, 2] [0, 2, 1] rfl rfl rfl rfl (by decide) rfl rfl rfl rfl rfl rfl (Nat.le_of_ble_eq_true rfl) dX6_put_35 ⟨Nat.zero_le _, Nat.zero_le _⟩ ?_
      obtain rfl := Option.some.inj h
      exact a_iret C0 dX6_put_38 rfl rfl
    · have h := ie_ c_6 h
      refine a_bipush C0 (-3 : Int32) dX6_put_20 (by decide) ?_
      obtain rfl := Option.some.inj h
      exact a_iret C0 dX6_put_22 rfl rfl
  · have h := it_ c_3 h
    refine a_bipush C0 (-2 : Int32) dX6_put_7 (by decide) ?_
    obtain rfl := Option.some.inj h
    exact a_iret C0 dX6_put_9 rfl rfl
set_option maxRecDepth 100000 in
theorem ctX6_put (l : Launch) (D : va_G) (cA : ClassId) (q0 q1 q2 q3 q5 q8 q11 q16 q17 q22 : Nat) (a1 : Int32) (f1 : Nat → Int32) (f2 : Nat → Int32) {res : Int32 × (Nat → Int32) × (Nat → Int32)} (h : pX6_put a1 f1 f2 = some res) : Cti l yX6_put wsX6_put (rmX6_put) D vwCl [(cA, .int)] [.ref q0, .int a1] (wdX6_1 cA q0 q1 q2 q3 q5 q8 q11 q16 q17 q22 f1 f2) (wdX6_1 cA q0 q1 q2 q3 q5 q8 q11 q16 q17 q22 res.2.1 res.2.2) 0 0 res.1 :=
  ct_i (maxL := 2) (cc := cX6_put) (by decide) rfl (Nat.le_of_ble_eq_true rfl) (fun p e s m below meth c C0 => bwX6_put C0 a1 f1 f2 h)
/-! PackDrawer.cut -/
abbrev wdX6_2 (cA : ClassId) (q0 q1 q2 q3 q5 q8 q11 q16 q17 q22 : Nat) (f1 : Nat → Int32) : va_W := [(q0, .inr (6, [.ref q1, .ref q3, .ref q5, .ref q8, .ref q11, .ref q16, .ref q17, .ref q22])), (q1, .inr (5, [.ref q2, .int (f1 1)]))]
abbrev rmX6_cut : Room := { frames := 1, cells := 0, slots := 0, locals := 21 }
theorem lkX6_cut_10 : Cond.fieldLink RX6 10 RX6 (TX6 0).2.1 (TX6 0).2.2.1 ∈ wsX6_cut := by decide +kernel
theorem inX6_cut_X6 : ∀ w ∈ u_ws RX6 TX6 8, w ∈ wsX6_cut := by decide +kernel
def pX6_cut (a1 : Int32) (f1 : Nat → Int32) : Option (Int32 × (Nat → Int32)) := bd1 (pX5_count f1) (fun r_1 => if a1 < 0 then some ((-2 : Int32), f1) else if a1 ≤ r_1 then bd1 (pX5_keep a1 f1) (fun f1_5 => some ((r_1 - a1), f1_5)) else some ((-2 : Int32), f1))
set_option maxHeartbeats 4000000 in
set_option maxRecDepth 100000 in
theorem bwX6_cut {p : Program} {l : Launch} {e : Env} {s : State} {m : MethodId} {args : Array Value} {below : List Frame} {meth : Method} {c : Code} {D : va_G} {A : Nat → Prop} {cA : ClassId} {q0 q1 q2 q3 q5 q8 q11 q16 q17 q22 : Nat} {res : Int32 × (Nat → Int32)} (C0 : cx p s m args meth c cX6_cut 3 RX6 wsX6_cut (some .int) D vwCl [(cA, .int)] A) (a1 : Int32) (f1 : Nat → Int32) (h : pX6_cut a1 f1 = some res) : At_ p l e (rmX6_cut) s m args below meth c D vwCl A 3 0 0 (Qi_ below args s D vwCl A (wdX6_2 cA q0 q1 q2 q3 q5 q8 q11 q16 q17 q22 res.2) res.1) 0 [(0, .ref q0), (1, .int a1)] [] (wdX6_2 cA q0 q1 q2 q3 q5 q8 q11 q16 q17 q22 f1) := by
  unfold pX6_cut at h
  refine a_aload_n C0 dX6_cut_0 rfl 0 rfl ?_
  refine a_get C0 inX6_cut_X6 0 rfl rfl 0 (by decide) lkX6_cut_10 (fun _ h9 => h9) (.ref q1) rfl dX6_cut_1 ?_
  obtain ⟨r_1, h_2, h⟩ := bd1_e h
  refine a_callVi C0 (wdX6_2 cA q0 q1 q2 q3 q5 q8 q11 q16 q17 q22 f1) (As := []) (rest := []) (ctX5_count l D cA q1 q2 f1 h_2) (cwV 0 C0.1.2.2.2.2 gX6_cut_X5_count rfl rfl rfl hdX5_count ⟨Nat.le_of_ble_eq_true rfl, Nat.le_of_ble_eq_true rfl⟩) [1] [0] [0, 1] rfl rfl rfl rfl (by decide) rfl rfl rfl rfl rfl rfl (Nat.le_of_ble_eq_true rfl) dX6_cut_4 ⟨Nat.zero_le _, Nat.zero_le _⟩ ?_
  refine a_istore_n C0 [(2, .int r_1), (0, .ref q0), (1, .int a1)] dX6_cut_7 rfl (by decide) rfl ?_
  refine a_iload_n C0 dX6_cut_8 rfl 2 rfl ?_
  refine a_if_lt C0 17 dX6_cut_9 (by decide) (fun c_3 => ?_) (fun c_3 => ?_)
  · have h := it_ c_3 h
    refine a_bipush C0 (-2 : Int32) dX6_cut_17 (by decide) ?_
    obtain rfl := Option.some.inj h
    exact a_iret C0 dX6_cut_19 rfl rfl
  · have h := ie_ c_3 h
    refine a_iload_n C0 dX6_cut_12 rfl 2 rfl ?_
    refine a_iload_n C0 dX6_cut_13 rfl 0 rfl ?_
    refine a_icmp_le C0 20 dX6_cut_14 (by decide) (fun c_4 => ?_) (fun c_4 => ?_)
    · have h := it_ c_4 h
      refine a_aload_n C0 dX6_cut_20 rfl 1 rfl ?_
      refine a_get C0 inX6_cut_X6 0 rfl rfl 0 (by decide) lkX6_cut_10 (fun _ h9 => h9) (.ref q1) rfl dX6_cut_21 ?_
      refine a_iload_n C0 dX6_cut_24 rfl 2 rfl ?_
      obtain ⟨f1_5, h_6, h⟩ := bd1_e h
      refine a_callVv C0 (wdX6_2 cA q0 q1 q2 q3 q5 q8 q11 q16 q17 q22 f1_5) (As := [.int a1]) (rest := []) (ctX5_keep l D cA q1 q2 a1 f1 h_6) (cwV 1 C0.1.2.2.2.2 gX6_cut_X5_keep rfl rfl rfl hdX5_keep ⟨Nat.le_of_ble_eq_true rfl, Nat.le_of_ble_eq_true rfl⟩) [1] [0] [0, 1] rfl rfl rfl rfl (by decide) rfl rfl rfl rfl rfl rfl (Nat.le_of_ble_eq_true rfl) dX6_cut_25 ⟨Nat.zero_le _, Nat.zero_le _⟩ ?_
      refine a_iload_n C0 dX6_cut_28 rfl 0 rfl ?_
      refine a_iload_n C0 dX6_cut_29 rfl 2 rfl ?_
      refine a_isub C0 dX6_cut_30 ?_
      obtain rfl := Option.some.inj h
      exact a_iret C0 dX6_cut_31 rfl rfl
    · have h := ie_ c_4 h
      refine a_bipush C0 (-2 : Int32) dX6_cut_17 (by decide) ?_
      obtain rfl := Option.some.inj h
      exact a_iret C0 dX6_cut_19 rfl rfl
set_option maxRecDepth 100000 in
theorem ctX6_cut (l : Launch) (D : va_G) (cA : ClassId) (q0 q1 q2 q3 q5 q8 q11 q16 q17 q22 : Nat) (a1 : Int32) (f1 : Nat → Int32) {res : Int32 × (Nat → Int32)} (h : pX6_cut a1 f1 = some res) : Cti l yX6_cut wsX6_cut (rmX6_cut) D vwCl [(cA, .int)] [.ref q0, .int a1] (wdX6_2 cA q0 q1 q2 q3 q5 q8 q11 q16 q17 q22 f1) (wdX6_2 cA q0 q1 q2 q3 q5 q8 q11 q16 q17 q22 res.2) 0 0 res.1 :=
  ct_i (maxL := 3) (cc := cX6_cut) (by decide) rfl (Nat.le_of_ble_eq_true rfl) (fun p e s m below meth c C0 => bwX6_cut C0 a1 f1 h)
/-! PackDrawer.poke -/
abbrev rmX6_poke : Room := { frames := 2, cells := 0, slots := 0, locals := 43 }
theorem lkX6_poke_10 : Cond.fieldLink RX6 10 RX6 (TX6 0).2.1 (TX6 0).2.2.1 ∈ wsX6_poke := by decide +kernel
theorem inX6_poke_X6 : ∀ w ∈ u_ws RX6 TX6 8, w ∈ wsX6_poke := by decide +kernel
def pX6_poke (a1 : Int32) (a2 : Int32) (f1 : Nat → Int32) (f2 : Nat → Int32) : Option (Int32 × (Nat → Int32)) := bd1 (pX5_has a1 f1) (fun r_1 => if r_1 = 0 then some ((-2 : Int32), f2) else bd1 (pX6_isByte a2) (fun r_4 => if r_4 = 0 then some ((-2 : Int32), f2) else bd1 (pX5_byteAt a1 f1 f2) (fun r_7 => bd1 (pX5_change a1 a2 f1 f2) (fun f2_9 => some (r_7, f2_9)))))
set_option maxHeartbeats 4000000 in
set_option maxRecDepth 100000 in
theorem bwX6_poke {p : Program} {l : Launch} {e : Env} {s : State} {m : MethodId} {args : Array Value} {below : List Frame} {meth : Method} {c : Code} {D : va_G} {A : Nat → Prop} {cA : ClassId} {q0 q1 q2 q3 q5 q8 q11 q16 q17 q22 : Nat} {res : Int32 × (Nat → Int32)} (C0 : cx p s m args meth c cX6_poke 4 RX6 wsX6_poke (some .int) D vwCl [(cA, .int)] A) (a1 : Int32) (a2 : Int32) (f1 : Nat → Int32) (f2 : Nat → Int32) (h : pX6_poke a1 a2 f1 f2 = some res) : At_ p l e (rmX6_poke) s m args below meth c D vwCl A 4 0 0 (Qi_ below args s D vwCl A (wdX6_1 cA q0 q1 q2 q3 q5 q8 q11 q16 q17 q22 f1 res.2) res.1) 0 [(0, .ref q0), (1, .int a1), (2, .int a2)] [] (wdX6_1 cA q0 q1 q2 q3 q5 q8 q11 q16 q17 q22 f1 f2) := by
  unfold pX6_poke at h
  refine a_aload_n C0 dX6_poke_0 rfl 0 rfl ?_
  refine a_get C0 inX6_poke_X6 0 rfl rfl 0 (by decide) lkX6_poke_10 (fun _ h9 => h9) (.ref q1) rfl dX6_poke_1 ?_
  refine a_iload_n C0 dX6_poke_4 rfl 1 rfl ?_
  obtain ⟨r_1, h_2, h⟩ := bd1_e h
  refine a_callVi C0 (wdX6_1 cA q0 q1 q2 q3 q5 q8 q11 q16 q17 q22 f1 f2) (As := [.int a1]) (rest := []) (ctX5_has l D cA q1 q2 a1 f1 h_2) (cwV 1 C0.1.2.2.2.2 gX6_poke_X5_has rfl rfl rfl hdX5_has ⟨Nat.le_of_ble_eq_true rfl, Nat.le_of_ble_eq_true rfl⟩) [1] [0, 2] [0, 2, 1] rfl rfl rfl rfl (by decide) rfl rfl rfl rfl rfl rfl (Nat.le_of_ble_eq_true rfl) dX6_poke_5 ⟨Nat.zero_le _, Nat.zero_le _⟩ ?_
  refine a_if_eq C0 18 dX6_poke_8 (by decide) (fun c_3 => ?_) (fun c_3 => ?_)
  · have h := it_ c_3 h
    refine a_bipush C0 (-2 : Int32) dX6_poke_18 (by decide) ?_
    obtain rfl := Option.some.inj h
    exact a_iret C0 dX6_poke_20 rfl rfl
  · have h := ie_ c_3 h
    refine a_iload_n C0 dX6_poke_11 rfl 2 rfl ?_
    obtain ⟨r_4, h_5, h⟩ := bd1_e h
    refine a_callSi C0 (wdX6_1 cA q0 q1 q2 q3 q5 q8 q11 q16 q17 q22 f1 f2) (As := [.int a2]) (rest := []) (ctX6_isByte l D cA a2 h_5) (cwS 1 C0.1.2.2.2.2 gX6_poke_X6_isByte rfl rfl rfl hdX6_isByte ⟨Nat.le_of_ble_eq_true rfl, Nat.le_of_ble_eq_true rfl⟩) [] [0, 1, 2] [0, 1, 2] rfl rfl rfl rfl (by decide) rfl rfl rfl rfl (Nat.le_of_ble_eq_true rfl) dX6_poke_12 ⟨Nat.zero_le _, Nat.zero_le _⟩ ?_
    refine a_if_ne C0 21 dX6_poke_15 (by decide) (fun c_6 => ?_) (fun c_6 => ?_)
    · have h := ie_ c_6 h
      refine a_aload_n C0 dX6_poke_21 rfl 0 rfl ?_
      refine a_get C0 inX6_poke_X6 0 rfl rfl 0 (by decide) lkX6_poke_10 (fun _ h9 => h9) (.ref q1) rfl dX6_poke_22 ?_
      refine a_iload_n C0 dX6_poke_25 rfl 1 rfl ?_
      obtain ⟨r_7, h_8, h⟩ := bd1_e h
      refine a_callVi C0 (wdX6_1 cA q0 q1 q2 q3 q5 q8 q11 q16 q17 q22 f1 f2) (As := [.int a1]) (rest := []) (ctX5_byteAt l D cA q1 q2 a1 f1 f2 h_8) (cwV 1 C0.1.2.2.2.2 gX6_poke_X5_byteAt rfl rfl rfl hdX5_byteAt ⟨Nat.le_of_ble_eq_true rfl, Nat.le_of_ble_eq_true rfl⟩) [1, 2] [0] [0, 1, 2] rfl rfl rfl rfl (by decide) rfl rfl rfl rfl rfl rfl (Nat.le_of_ble_eq_true rfl) dX6_poke_26 ⟨Nat.zero_le _, Nat.zero_le _⟩ ?_
      refine a_istore_n C0 [(3, .int r_7), (0, .ref q0), (1, .int a1), (2, .int a2)] dX6_poke_29 rfl (by decide) rfl ?_
      refine a_aload_n C0 dX6_poke_30 rfl 1 rfl ?_
      refine a_get C0 inX6_poke_X6 0 rfl rfl 0 (by decide) lkX6_poke_10 (fun _ h9 => h9) (.ref q1) rfl dX6_poke_31 ?_
      refine a_iload_n C0 dX6_poke_34 rfl 2 rfl ?_
      refine a_iload_n C0 dX6_poke_35 rfl 3 rfl ?_
      obtain ⟨f2_9, h_10, h⟩ := bd1_e h
      refine a_callVv C0 (wdX6_1 cA q0 q1 q2 q3 q5 q8 q11 q16 q17 q22 f1 f2_9) (As := [.int a1, .int a2]) (rest := []) (ctX5_change l D cA q1 q2 a1 a2 f1 f2 h_10) (cwV 2 C0.1.2.2.2.2 gX6_poke_X5_change rfl rfl rfl hdX5_change ⟨Nat.le_of_ble_eq_true rfl, Nat.le_of_ble_eq_true rfl⟩) [1, 2] [0] [0, 1, 2] rfl rfl rfl rfl (by decide) rfl rfl rfl rfl rfl rfl (Nat.le_of_ble_eq_true rfl) dX6_poke_36 ⟨Nat.zero_le _, Nat.zero_le _⟩ ?_
      refine a_iload_n C0 dX6_poke_39 rfl 0 rfl ?_
      obtain rfl := Option.some.inj h
      exact a_iret C0 dX6_poke_40 rfl rfl
    · have h := it_ c_6 h
      refine a_bipush C0 (-2 : Int32) dX6_poke_18 (by decide) ?_
      obtain rfl := Option.some.inj h
      exact a_iret C0 dX6_poke_20 rfl rfl
set_option maxRecDepth 100000 in
theorem ctX6_poke (l : Launch) (D : va_G) (cA : ClassId) (q0 q1 q2 q3 q5 q8 q11 q16 q17 q22 : Nat) (a1 : Int32) (a2 : Int32) (f1 : Nat → Int32) (f2 : Nat → Int32) {res : Int32 × (Nat → Int32)} (h : pX6_poke a1 a2 f1 f2 = some res) : Cti l yX6_poke wsX6_poke (rmX6_poke) D vwCl [(cA, .int)] [.ref q0, .int a1, .int a2] (wdX6_1 cA q0 q1 q2 q3 q5 q8 q11 q16 q17 q22 f1 f2) (wdX6_1 cA q0 q1 q2 q3 q5 q8 q11 q16 q17 q22 f1 res.2) 0 0 res.1 :=
  ct_i (maxL := 4) (cc := cX6_poke) (by decide) rfl (Nat.le_of_ble_eq_true rfl) (fun p e s m below meth c C0 => bwX6_poke C0 a1 a2 f1 f2 h)
/-! PackDrawer.at -/
abbrev rmX6_at : Room := { frames := 2, cells := 0, slots := 0, locals := 42 }
theorem lkX6_at_10 : Cond.fieldLink RX6 10 RX6 (TX6 0).2.1 (TX6 0).2.2.1 ∈ wsX6_at := by decide +kernel
theorem inX6_at_X6 : ∀ w ∈ u_ws RX6 TX6 8, w ∈ wsX6_at := by decide +kernel
def pX6_at (a1 : Int32) (f1 : Nat → Int32) (f2 : Nat → Int32) : Option (Int32) := bd1 (pX5_has a1 f1) (fun r_1 => if r_1 = 0 then some (-1 : Int32) else bd1 (pX5_byteAt a1 f1 f2) (fun r_4 => some r_4))
set_option maxHeartbeats 4000000 in
set_option maxRecDepth 100000 in
theorem bwX6_at {p : Program} {l : Launch} {e : Env} {s : State} {m : MethodId} {args : Array Value} {below : List Frame} {meth : Method} {c : Code} {D : va_G} {A : Nat → Prop} {cA : ClassId} {q0 q1 q2 q3 q5 q8 q11 q16 q17 q22 : Nat} {res : Int32} (C0 : cx p s m args meth c cX6_at 2 RX6 wsX6_at (some .int) D vwCl [(cA, .int)] A) (a1 : Int32) (f1 : Nat → Int32) (f2 : Nat → Int32) (h : pX6_at a1 f1 f2 = some res) : At_ p l e (rmX6_at) s m args below meth c D vwCl A 2 0 0 (Qi_ below args s D vwCl A (wdX6_1 cA q0 q1 q2 q3 q5 q8 q11 q16 q17 q22 f1 f2) res) 0 [(0, .ref q0), (1, .int a1)] [] (wdX6_1 cA q0 q1 q2 q3 q5 q8 q11 q16 q17 q22 f1 f2) := by
  unfold pX6_at at h
  refine a_aload_n C0 dX6_at_0 rfl 0 rfl ?_
  refine a_get C0 inX6_at_X6 0 rfl rfl 0 (by decide) lkX6_at_10 (fun _ h9 => h9) (.ref q1) rfl dX6_at_1 ?_
  refine a_iload_n C0 dX6_at_4 rfl 1 rfl ?_
  obtain ⟨r_1, h_2, h⟩ := bd1_e h
  refine a_callVi C0 (wdX6_1 cA q0 q1 q2 q3 q5 q8 q11 q16 q17 q22 f1 f2) (As := [.int a1]) (rest := []) (ctX5_has l D cA q1 q2 a1 f1 h_2) (cwV 1 C0.1.2.2.2.2 gX6_at_X5_has rfl rfl rfl hdX5_has ⟨Nat.le_of_ble_eq_true rfl, Nat.le_of_ble_eq_true rfl⟩) [1] [0, 2] [0, 2, 1] rfl rfl rfl rfl (by decide) rfl rfl rfl rfl rfl rfl (Nat.le_of_ble_eq_true rfl) dX6_at_5 ⟨Nat.zero_le _, Nat.zero_le _⟩ ?_
  refine a_if_eq C0 22 dX6_at_8 (by decide) (fun c_3 => ?_) (fun c_3 => ?_)
  · have h := it_ c_3 h
    refine a_iconst C0 (-1 : Int32) dX6_at_22 (by decide) ?_
    obtain rfl := Option.some.inj h
    exact a_iret C0 dX6_at_23 rfl rfl
  · have h := ie_ c_3 h
    refine a_aload_n C0 dX6_at_11 rfl 0 rfl ?_
    refine a_get C0 inX6_at_X6 0 rfl rfl 0 (by decide) lkX6_at_10 (fun _ h9 => h9) (.ref q1) rfl dX6_at_12 ?_
    refine a_iload_n C0 dX6_at_15 rfl 1 rfl ?_
    obtain ⟨r_4, h_5, h⟩ := bd1_e h
    refine a_callVi C0 (wdX6_1 cA q0 q1 q2 q3 q5 q8 q11 q16 q17 q22 f1 f2) (As := [.int a1]) (rest := []) (ctX5_byteAt l D cA q1 q2 a1 f1 f2 h_5) (cwV 1 C0.1.2.2.2.2 gX6_at_X5_byteAt rfl rfl rfl hdX5_byteAt ⟨Nat.le_of_ble_eq_true rfl, Nat.le_of_ble_eq_true rfl⟩) [1, 2] [0] [0, 1, 2] rfl rfl rfl rfl (by decide) rfl rfl rfl rfl rfl rfl (Nat.le_of_ble_eq_true rfl) dX6_at_16 ⟨Nat.zero_le _, Nat.zero_le _⟩ ?_
    refine a_goto C0 23 dX6_at_19 (by decide) ?_
    obtain rfl := Option.some.inj h
    exact a_iret C0 dX6_at_23 rfl rfl
set_option maxRecDepth 100000 in
theorem ctX6_at (l : Launch) (D : va_G) (cA : ClassId) (q0 q1 q2 q3 q5 q8 q11 q16 q17 q22 : Nat) (a1 : Int32) (f1 : Nat → Int32) (f2 : Nat → Int32) {res : Int32} (h : pX6_at a1 f1 f2 = some res) : Cti l yX6_at wsX6_at (rmX6_at) D vwCl [(cA, .int)] [.ref q0, .int a1] (wdX6_1 cA q0 q1 q2 q3 q5 q8 q11 q16 q17 q22 f1 f2) (wdX6_1 cA q0 q1 q2 q3 q5 q8 q11 q16 q17 q22 f1 f2) 0 0 res :=
  ct_i (maxL := 2) (cc := cX6_at) (by decide) rfl (Nat.le_of_ble_eq_true rfl) (fun p e s m below meth c C0 => bwX6_at C0 a1 f1 f2 h)
/-! PackDrawer.length -/
abbrev rmX6_length : Room := { frames := 1, cells := 0, slots := 0, locals := 20 }
theorem lkX6_length_10 : Cond.fieldLink RX6 10 RX6 (TX6 0).2.1 (TX6 0).2.2.1 ∈ wsX6_length := by decide +kernel
theorem inX6_length_X6 : ∀ w ∈ u_ws RX6 TX6 8, w ∈ wsX6_length := by decide +kernel
def pX6_length (f1 : Nat → Int32) : Option (Int32) := bd1 (pX5_count f1) (fun r_1 => some r_1)
set_option maxHeartbeats 4000000 in
set_option maxRecDepth 100000 in
theorem bwX6_length {p : Program} {l : Launch} {e : Env} {s : State} {m : MethodId} {args : Array Value} {below : List Frame} {meth : Method} {c : Code} {D : va_G} {A : Nat → Prop} {cA : ClassId} {q0 q1 q2 q3 q5 q8 q11 q16 q17 q22 : Nat} {res : Int32} (C0 : cx p s m args meth c cX6_length 1 RX6 wsX6_length (some .int) D vwCl [(cA, .int)] A) (f1 : Nat → Int32) (h : pX6_length f1 = some res) : At_ p l e (rmX6_length) s m args below meth c D vwCl A 1 0 0 (Qi_ below args s D vwCl A (wdX6_2 cA q0 q1 q2 q3 q5 q8 q11 q16 q17 q22 f1) res) 0 [(0, .ref q0)] [] (wdX6_2 cA q0 q1 q2 q3 q5 q8 q11 q16 q17 q22 f1) := by
  unfold pX6_length at h
  refine a_aload_n C0 dX6_length_0 rfl 0 rfl ?_
  refine a_get C0 inX6_length_X6 0 rfl rfl 0 (by decide) lkX6_length_10 (fun _ h9 => h9) (.ref q1) rfl dX6_length_1 ?_
  obtain ⟨r_1, h_2, h⟩ := bd1_e h
  refine a_callVi C0 (wdX6_2 cA q0 q1 q2 q3 q5 q8 q11 q16 q17 q22 f1) (As := []) (rest := []) (ctX5_count l D cA q1 q2 f1 h_2) (cwV 0 C0.1.2.2.2.2 gX6_length_X5_count rfl rfl rfl hdX5_count ⟨Nat.le_of_ble_eq_true rfl, Nat.le_of_ble_eq_true rfl⟩) [1] [0] [0, 1] rfl rfl rfl rfl (by decide) rfl rfl rfl rfl rfl rfl (Nat.le_of_ble_eq_true rfl) dX6_length_4 ⟨Nat.zero_le _, Nat.zero_le _⟩ ?_
  obtain rfl := Option.some.inj h
  exact a_iret C0 dX6_length_7 rfl rfl
set_option maxRecDepth 100000 in
theorem ctX6_length (l : Launch) (D : va_G) (cA : ClassId) (q0 q1 q2 q3 q5 q8 q11 q16 q17 q22 : Nat) (f1 : Nat → Int32) {res : Int32} (h : pX6_length f1 = some res) : Cti l yX6_length wsX6_length (rmX6_length) D vwCl [(cA, .int)] [.ref q0] (wdX6_2 cA q0 q1 q2 q3 q5 q8 q11 q16 q17 q22 f1) (wdX6_2 cA q0 q1 q2 q3 q5 q8 q11 q16 q17 q22 f1) 0 0 res :=
  ct_i (maxL := 1) (cc := cX6_length) (by decide) rfl (Nat.le_of_ble_eq_true rfl) (fun p e s m below meth c C0 => bwX6_length C0 f1 h)
/-! PackDrawer.draw -/
abbrev wdX6_3 (cA : ClassId) (q0 q1 q2 q3 q5 q8 q11 q16 q17 q22 q23 q24 : Nat) (f1 : Nat → Int32) (f2 : Nat → Int32) (f22 : Nat → Int32) (l22_2 : Int64) (f23 : Nat → Int32) (f24 : Nat → Int32) : va_W := [(q0, .inr (6, [.ref q1, .ref q3, .ref q5, .ref q8, .ref q11, .ref q16, .ref q17, .ref q22])), (q1, .inr (5, [.ref q2, .int (f1 1)])), (q2, .inl (cA, 160, .inl f2)), (q22, .inr (2, [.ref q1, .ref q23, .long l22_2, .int (f22 3), .int (f22 4)])), (q23, .inr (4, [.ref q24, .int (f23 1)])), (q24, .inl (cA, 800, .inl f24))]
theorem hdX2_drawStream : yX2_drawStream.cls = RX2 ∧ yX2_drawStream.cls ≠ "java/lang/invoke/MethodHandle" ∧ yX2_drawStream.cls ≠ "java/lang/invoke/VarHandle" ∧ (parseMethodDescriptor yX2_drawStream.desc).map (fun d => d.parameters.length) = some 3 := by decide +kernel
abbrev rmX6_draw : Room := { frames := 30, cells := 0, slots := 0, locals := 699 }
theorem lkX6_draw_53 : Cond.fieldLink RX6 53 RX6 (TX6 7).2.1 (TX6 7).2.2.1 ∈ wsX6_draw := by decide +kernel
theorem inX6_draw_X6 : ∀ w ∈ u_ws RX6 TX6 8, w ∈ wsX6_draw := by decide +kernel
theorem lkX6_draw_10 : Cond.fieldLink RX6 10 RX6 (TX6 0).2.1 (TX6 0).2.2.1 ∈ wsX6_draw := by decide +kernel
def pX6_draw (N : Nat) (a1 : Int64) (a3 : Int32) (a4 : Int32) (f1 : Nat → Int32) (f2 : Nat → Int32) (f22 : Nat → Int32) (l22_2 : Int64) (f23 : Nat → Int32) (f24 : Nat → Int32) : Option (Int32 × (Nat → Int32) × (Nat → Int32) × (Nat → Int32) × Int64 × (Nat → Int32) × (Nat → Int32)) := if a3 < 0 then some ((-2 : Int32), f1, f2, f22, l22_2, f23, f24) else if (2 : Int32) < a3 then some ((-2 : Int32), f1, f2, f22, l22_2, f23, f24) else if a4 < (1 : Int32) then some ((-2 : Int32), f1, f2, f22, l22_2, f23, f24) else if a4 ≤ (5 : Int32) then bd6 (pX2_drawStream N a1 a3 a4 f22 l22_2 f1 f2 f23 f24) (fun f22_5 l22_2_6 f1_7 f2_8 f23_9 f24_10 => bd1 (pX5_count f1_7) (fun r_12 => some (r_12, f1_7, f2_8, f22_5, l22_2_6, f23_9, f24_10))) else some ((-2 : Int32), f1, f2, f22, l22_2, f23, f24)
set_option maxHeartbeats 4000000 in
set_option maxRecDepth 100000 in
theorem bwX6_draw {p : Program} {l : Launch} {e : Env} {s : State} {m : MethodId} {args : Array Value} {below : List Frame} {meth : Method} {c : Code} {D : va_G} {A : Nat → Prop} {cA : ClassId} {q0 q1 q2 q3 q5 q8 q11 q16 q17 q22 q23 q24 : Nat} {res : Int32 × (Nat → Int32) × (Nat → Int32) × (Nat → Int32) × Int64 × (Nat → Int32) × (Nat → Int32)} (C0 : cx p s m args meth c cX6_draw 5 RX6 wsX6_draw (some .int) D vwCl [(cA, .int)] A) (N : Nat) (a1 : Int64) (a3 : Int32) (a4 : Int32) (f1 : Nat → Int32) (f2 : Nat → Int32) (f22 : Nat → Int32) (l22_2 : Int64) (f23 : Nat → Int32) (f24 : Nat → Int32) (h : pX6_draw N a1 a3 a4 f1 f2 f22 l22_2 f23 f24 = some res) : At_ p l e (rmX6_draw) s m args below meth c D vwCl A 5 0 0 (Qi_ below args s D vwCl A (wdX6_3 cA q0 q1 q2 q3 q5 q8 q11 q16 q17 q22 q23 q24 res.2.1 res.2.2.1 res.2.2.2.1 res.2.2.2.2.1 res.2.2.2.2.2.1 res.2.2.2.2.2.2) res.1) 0 [(0, .ref q0), (1, .long a1), (3, .int a3), (4, .int a4)] [] (wdX6_3 cA q0 q1 q2 q3 q5 q8 q11 q16 q17 q22 q23 q24 f1 f2 f22 l22_2 f23 f24) := by
  unfold pX6_draw at h
  refine a_iload_n C0 dX6_draw_0 rfl 2 rfl ?_
  refine a_if_lt C0 21 dX6_draw_1 (by decide) (fun c_1 => ?_) (fun c_1 => ?_)
  · have h := it_ c_1 h
    refine a_bipush C0 (-2 : Int32) dX6_draw_21 (by decide) ?_
    obtain rfl := Option.some.inj h
    exact a_iret C0 dX6_draw_23 rfl rfl
  · have h := ie_ c_1 h
    refine a_iload_n C0 dX6_draw_4 rfl 2 rfl ?_
    refine a_iconst C0 (2 : Int32) dX6_draw_5 (by decide) ?_
    refine a_icmp_gt C0 21 dX6_draw_6 (by decide) (fun c_2 => ?_) (fun c_2 => ?_)
    · have h := it_ c_2 h
      refine a_bipush C0 (-2 : Int32) dX6_draw_21 (by decide) ?_
      obtain rfl := Option.some.inj h
      exact a_iret C0 dX6_draw_23 rfl rfl
    · have h := ie_ c_2 h
      refine a_iload C0 dX6_draw_9 3 rfl ?_
      refine a_iconst C0 (1 : Int32) dX6_draw_11 (by decide) ?_
      refine a_icmp_lt C0 21 dX6_draw_12 (by decide) (fun c_3 => ?_) (fun c_3 => ?_)
      · have h := it_ c_3 h
        refine a_bipush C0 (-2 : Int32) dX6_draw_21 (by decide) ?_
        obtain rfl := Option.some.inj h
        exact a_iret C0 dX6_draw_23 rfl rfl
      · have h := ie_ c_3 h
        refine a_iload C0 dX6_draw_15 3 rfl ?_
        refine a_iconst C0 (5 : Int32) dX6_draw_17 (by decide) ?_
        refine a_icmp_le C0 24 dX6_draw_18 (by decide) (fun c_4 => ?_) (fun c_4 => ?_)
        · have h := it_ c_4 h
          refine a_aload_n C0 dX6_draw_24 rfl 0 rfl ?_
          refine a_get C0 inX6_draw_X6 0 rfl rfl 7 (by decide) lkX6_draw_53 (fun _ h9 => h9) (.ref q22) rfl dX6_draw_25 ?_
          refine a_lload_n C0 dX6_draw_28 rfl 1 rfl ?_
          refine a_iload_n C0 dX6_draw_29 rfl 2 rfl ?_
          refine a_iload C0 dX6_draw_30 3 rfl ?_
          obtain ⟨f22_5, l22_2_6, f1_7, f2_8, f23_9, f24_10, h_11, h⟩ := bd6_e h
          refine a_callVv C0 (wdX6_3 cA q0 q1 q2 q3 q5 q8 q11 q16 q17 q22 q23 q24 f1_7 f2_8 f22_5 l22_2_6 f23_9 f24_10) (As := [.long a1, .int a3, .int a4]) (rest := []) (ctX2_drawStream l D cA q22 q1 q2 q23 q24 N a1 a3 a4 f22 l22_2 f1 f2 f23 f24 h_11) (cwV 3 C0.1.2.2.2.2 gX6_draw_X2_drawStream rfl rfl rfl hdX2_drawStream ⟨Nat.le_of_ble_eq_true rfl, Nat.le_of_ble_eq_true rfl⟩) [3, 1, 2, 4, 5] [0] [0, 2, 3, 1, 4, 5] rfl rfl rfl rfl (by decide) rfl rfl rfl rfl rfl rfl (Nat.le_of_ble_eq_true rfl) dX6_draw_32 ⟨Nat.zero_le _, Nat.zero_le _⟩ ?_
          refine a_aload_n C0 dX6_draw_35 rfl 0 rfl ?_
          refine a_get C0 inX6_draw_X6 0 rfl rfl 0 (by decide) lkX6_draw_10 (fun _ h9 => h9) (.ref q1) rfl dX6_draw_36 ?_
          obtain ⟨r_12, h_13, h⟩ := bd1_e h
          refine a_callVi C0 (wdX6_3 cA q0 q1 q2 q3 q5 q8 q11 q16 q17 q22 q23 q24 f1_7 f2_8 f22_5 l22_2_6 f23_9 f24_10) (As := []) (rest := []) (ctX5_count l D cA q1 q2 f1_7 h_13) (cwV 0 C0.1.2.2.2.2 gX6_draw_X5_count rfl rfl rfl hdX5_count ⟨Nat.le_of_ble_eq_true rfl, Nat.le_of_ble_eq_true rfl⟩) [1] [0, 2, 3, 4, 5] [0, 5, 1, 2, 3, 4] rfl rfl rfl rfl (by decide) rfl rfl rfl rfl rfl rfl (Nat.le_of_ble_eq_true rfl) dX6_draw_39 ⟨Nat.zero_le _, Nat.zero_le _⟩ ?_
          obtain rfl := Option.some.inj h
          exact a_iret C0 dX6_draw_42 rfl rfl
        · have h := ie_ c_4 h
          refine a_bipush C0 (-2 : Int32) dX6_draw_21 (by decide) ?_
          obtain rfl := Option.some.inj h
          exact a_iret C0 dX6_draw_23 rfl rfl
set_option maxRecDepth 100000 in
theorem ctX6_draw (l : Launch) (D : va_G) (cA : ClassId) (q0 q1 q2 q3 q5 q8 q11 q16 q17 q22 q23 q24 : Nat) (N : Nat) (a1 : Int64) (a3 : Int32) (a4 : Int32) (f1 : Nat → Int32) (f2 : Nat → Int32) (f22 : Nat → Int32) (l22_2 : Int64) (f23 : Nat → Int32) (f24 : Nat → Int32) {res : Int32 × (Nat → Int32) × (Nat → Int32) × (Nat → Int32) × Int64 × (Nat → Int32) × (Nat → Int32)} (h : pX6_draw N a1 a3 a4 f1 f2 f22 l22_2 f23 f24 = some res) : Cti l yX6_draw wsX6_draw (rmX6_draw) D vwCl [(cA, .int)] [.ref q0, .long a1, .int a3, .int a4] (wdX6_3 cA q0 q1 q2 q3 q5 q8 q11 q16 q17 q22 q23 q24 f1 f2 f22 l22_2 f23 f24) (wdX6_3 cA q0 q1 q2 q3 q5 q8 q11 q16 q17 q22 q23 q24 res.2.1 res.2.2.1 res.2.2.2.1 res.2.2.2.2.1 res.2.2.2.2.2.1 res.2.2.2.2.2.2) 0 0 res.1 :=
  ct_i (maxL := 5) (cc := cX6_draw) (by decide) rfl (Nat.le_of_ble_eq_true rfl) (fun p e s m below meth c C0 => bwX6_draw C0 N a1 a3 a4 f1 f2 f22 l22_2 f23 f24 h)
/-! PackDrawer.bomb -/
theorem hdX6_bombLength : yX6_bombLength.cls = RX6 ∧ yX6_bombLength.cls ≠ "java/lang/invoke/MethodHandle" ∧ yX6_bombLength.cls ≠ "java/lang/invoke/VarHandle" ∧ (parseMethodDescriptor yX6_bombLength.desc).map (fun d => d.parameters.length) = some 1 := by decide +kernel
abbrev rmX6_bomb : Room := { frames := 1, cells := 0, slots := 0, locals := 21 }
theorem lkX6_bomb_10 : Cond.fieldLink RX6 10 RX6 (TX6 0).2.1 (TX6 0).2.2.1 ∈ wsX6_bomb := by decide +kernel
theorem inX6_bomb_X6 : ∀ w ∈ u_ws RX6 TX6 8, w ∈ wsX6_bomb := by decide +kernel
def bFX6_bomb_113 (N : Nat) (a1 : Int32) (a2 : Int32) (a3 : Int32) (rc113 : Int32 → Int32 → (Nat → Int32) → (Nat → Int32) → Option (Int32 × (Nat → Int32) × (Nat → Int32))) (v4 : Int32) (v5 : Int32) (f1 : Nat → Int32) (f2 : Nat → Int32) : Option (Int32 × (Nat → Int32) × (Nat → Int32)) := if a1 < v5 then bd1 (pX5_count f1) (fun r_2 => some (r_2, f1, f2)) else bd2 (pX5_append (0 : Int32) f1 f2) (fun f1_4 f2_5 => bd2 (pX5_append (v4 &&& (255 : Int32)) f1_4 f2_5) (fun f1_7 f2_8 => lt_ (((v4 * a2) &&& (255 : Int32))) (fun x_10 => lt_ ((v5 + (1 : Int32))) (fun x_11 => rc113 x_10 x_11 f1_7 f2_8))))
def bfX6_bomb_113 (N : Nat) (a1 : Int32) (a2 : Int32) (a3 : Int32) : Nat → Int32 → Int32 → (Nat → Int32) → (Nat → Int32) → Option (Int32 × (Nat → Int32) × (Nat → Int32))
  | 0 => fun _ _ _ _ => none
  | n + 1 => bFX6_bomb_113 N a1 a2 a3  (bfX6_bomb_113 N a1 a2 a3  n)
def bFX6_bomb_42 (N : Nat) (a1 : Int32) (a2 : Int32) (a3 : Int32) (rc42 : Int32 → (Nat → Int32) → (Nat → Int32) → Option (Int32 × (Nat → Int32) × (Nat → Int32))) (v4 : Int32) (f1 : Nat → Int32) (f2 : Nat → Int32) : Option (Int32 × (Nat → Int32) × (Nat → Int32)) := if v4 ≤ 0 then bd2 (pX5_append (1 : Int32) f1 f2) (fun f1_13 f2_14 => bd2 (pX5_append a3 f1_13 f2_14) (fun f1_16 f2_17 => bfX6_bomb_113 N a1 a2 a3 N a3 (0 : Int32) f1_16 f2_17)) else bd2 (pX5_append (((128 : Int32) + a2) - (2 : Int32)) f1 f2) (fun f1_19 f2_20 => bd2 (pX5_append (192 : Int32) f1_19 f2_20) (fun f1_22 f2_23 => bd1 (pX6_bombLength (v4 - (1 : Int32))) (fun r_25 => bd2 (pX5_append r_25 f1_22 f2_23) (fun f1_27 f2_28 => lt_ ((v4 + (-1 : Int32))) (fun x_30 => rc42 x_30 f1_27 f2_28)))))
def bfX6_bomb_42 (N : Nat) (a1 : Int32) (a2 : Int32) (a3 : Int32) : Nat → Int32 → (Nat → Int32) → (Nat → Int32) → Option (Int32 × (Nat → Int32) × (Nat → Int32))
  | 0 => fun _ _ _ => none
  | n + 1 => bFX6_bomb_42 N a1 a2 a3  (bfX6_bomb_42 N a1 a2 a3  n)
def pX6_bomb (N : Nat) (a1 : Int32) (a2 : Int32) (a3 : Int32) (f1 : Nat → Int32) (f2 : Nat → Int32) : Option (Int32 × (Nat → Int32) × (Nat → Int32)) := if a1 < 0 then some ((-2 : Int32), f1, f2) else if (12 : Int32) < a1 then some ((-2 : Int32), f1, f2) else if a2 < (2 : Int32) then some ((-2 : Int32), f1, f2) else if (65 : Int32) < a2 then some ((-2 : Int32), f1, f2) else bd1 (pX6_isByte a3) (fun r_35 => if r_35 = 0 then some ((-2 : Int32), f1, f2) else bd1 (pX5_keep (0 : Int32) f1) (fun f1_38 => bfX6_bomb_42 N a1 a2 a3 N a1 f1_38 f2))
set_option maxHeartbeats 4000000 in
set_option maxRecDepth 100000 in
theorem bwX6_bomb_113 {p : Program} {l : Launch} {e : Env} {s : State} {m : MethodId} {args : Array Value} {below : List Frame} {meth : Method} {c : Code} {D : va_G} {A : Nat → Prop} {cA : ClassId} {q0 q1 q2 q3 q5 q8 q11 q16 q17 q22 : Nat} {res : Int32 × (Nat → Int32) × (Nat → Int32)} (C0 : cx p s m args meth c cX6_bomb 6 RX6 wsX6_bomb (some .int) D vwCl [(cA, .int)] A) (N : Nat) (a1 : Int32) (a2 : Int32) (a3 : Int32) : ∀ (n : Nat) (v4 : Int32) (v5 : Int32) (f1 : Nat → Int32) (f2 : Nat → Int32), bfX6_bomb_113 N a1 a2 a3  n v4 v5 f1 f2 = some res → At_ p l e (rmX6_bomb) s m args below meth c D vwCl A 6 0 0 (Qi_ below args s D vwCl A (wdX6_1 cA q0 q1 q2 q3 q5 q8 q11 q16 q17 q22 res.2.1 res.2.2) res.1) 113 [(0, .ref q0), (1, .int a1), (2, .int a2), (3, .int a3), (4, .int v4), (5, .int v5)] [] (wdX6_1 cA q0 q1 q2 q3 q5 q8 q11 q16 q17 q22 f1 f2) := by
  intro n
  induction n with
  | zero => intro v4 v5 f1 f2 h; cases h
  | succ n hrc113 =>
    intro v4 v5 f1 f2 h
    replace h : bFX6_bomb_113 N a1 a2 a3  (bfX6_bomb_113 N a1 a2 a3  n) v4 v5 f1 f2 = some res := h
    generalize bfX6_bomb_113 N a1 a2 a3  n = rc113 at h hrc113
    unfold bFX6_bomb_113 at h
    refine a_iload C0 dX6_bomb_113 5 rfl ?_
    refine a_iload_n C0 dX6_bomb_115 rfl 1 rfl ?_
    refine a_icmp_gt C0 156 dX6_bomb_116 (by decide) (fun c_1 => ?_) (fun c_1 => ?_)
    · have h := it_ c_1 h
      refine a_aload_n C0 dX6_bomb_156 rfl 0 rfl ?_
      refine a_get C0 inX6_bomb_X6 0 rfl rfl 0 (by decide) lkX6_bomb_10 (fun _ h9 => h9) (.ref q1) rfl dX6_bomb_157 ?_
      obtain ⟨r_2, h_3, h⟩ := bd1_e h
      refine a_callVi C0 (wdX6_1 cA q0 q1 q2 q3 q5 q8 q11 q16 q17 q22 f1 f2) (As := []) (rest := []) (ctX5_count l D cA q1 q2 f1 h_3) (cwV 0 C0.1.2.2.2.2 gX6_bomb_X5_count rfl rfl rfl hdX5_count ⟨Nat.le_of_ble_eq_true rfl, Nat.le_of_ble_eq_true rfl⟩) [1] [0, 2] [0, 2, 1] rfl rfl rfl rfl (by decide) rfl rfl rfl rfl rfl rfl (Nat.le_of_ble_eq_true rfl) dX6_bomb_160 ⟨Nat.zero_le _, Nat.zero_le _⟩ ?_
      obtain rfl := Option.some.inj h
      exact a_iret C0 dX6_bomb_163 rfl rfl
    · have h := ie_ c_1 h
      refine a_aload_n C0 dX6_bomb_119 rfl 0 rfl ?_
      refine a_get C0 inX6_bomb_X6 0 rfl rfl 0 (by decide) lkX6_bomb_10 (fun _ h9 => h9) (.ref q1) rfl dX6_bomb_120 ?_
      refine a_iconst C0 (0 : Int32) dX6_bomb_123 (by decide) ?_
      obtain ⟨f1_4, f2_5, h_6, h⟩ := bd2_e h
      refine a_callVv C0 (wdX6_1 cA q0 q1 q2 q3 q5 q8 q11 q16 q17 q22 f1_4 f2_5) (As := [.int (0 : Int32)]) (rest := []) (ctX5_append l D cA q1 q2 (0 : Int32) f1 f2 h_6) (cwV 1 C0.1.2.2.2.2 gX6_bomb_X5_append rfl rfl rfl hdX5_append ⟨Nat.le_of_ble_eq_true rfl, Nat.le_of_ble_eq_true rfl⟩) [1, 2] [0] [0, 1, 2] rfl rfl rfl rfl (by decide) rfl rfl rfl rfl rfl rfl (Nat.le_of_ble_eq_true rfl) dX6_bomb_124 ⟨Nat.zero_le _, Nat.zero_le _⟩ ?_
      refine a_aload_n C0 dX6_bomb_127 rfl 0 rfl ?_
      refine a_get C0 inX6_bomb_X6 0 rfl rfl 0 (by decide) lkX6_bomb_10 (fun _ h9 => h9) (.ref q1) rfl dX6_bomb_128 ?_
      refine a_iload C0 dX6_bomb_131 4 rfl ?_
      refine a_sipush C0 (255 : Int32) dX6_bomb_133 (by decide) ?_
      refine a_iand C0 dX6_bomb_136 ?_
      obtain ⟨f1_7, f2_8, h_9, h⟩ := bd2_e h
      refine a_callVv C0 (wdX6_1 cA q0 q1 q2 q3 q5 q8 q11 q16 q17 q22 f1_7 f2_8) (As := [.int (v4 &&& (255 : Int32))]) (rest := []) (ctX5_append l D cA q1 q2 (v4 &&& (255 : Int32)) f1_4 f2_5 h_9) (cwV 1 C0.1.2.2.2.2 gX6_bomb_X5_append rfl rfl rfl hdX5_append ⟨Nat.le_of_ble_eq_true rfl, Nat.le_of_ble_eq_true rfl⟩) [1, 2] [0] [0, 1, 2] rfl rfl rfl rfl (by decide) rfl rfl rfl rfl rfl rfl (Nat.le_of_ble_eq_true rfl) dX6_bomb_137 ⟨Nat.zero_le _, Nat.zero_le _⟩ ?_
      refine a_iload C0 dX6_bomb_140 4 rfl ?_
      refine a_iload_n C0 dX6_bomb_142 rfl 2 rfl ?_
      refine a_imul C0 dX6_bomb_143 ?_
      refine a_sipush C0 (255 : Int32) dX6_bomb_144 (by decide) ?_
      refine a_iand C0 dX6_bomb_147 ?_
      obtain ⟨x_10, ex_10, h⟩ := lt_e h
      refine a_topi ex_10 ?_
      refine a_istore C0 [(4, .int x_10), (0, .ref q0), (1, .int a1), (2, .int a2), (3, .int a3), (5, .int v5)] dX6_bomb_148 (by decide) rfl ?_
      obtain ⟨x_11, ex_11, h⟩ := lt_e h
      refine a_iinc C0 x_11 [(5, .int x_11), (4, .int x_10), (0, .ref q0), (1, .int a1), (2, .int a2), (3, .int a3)] dX6_bomb_150 5 rfl (by subst ex_11; rfl) (by decide) rfl ?_
      refine a_goto C0 113 dX6_bomb_153 (by decide) ?_
      refine a_lv [2, 3, 4, 5, 1, 0] (lv' := [(0, .ref q0), (1, .int a1), (2, .int a2), (3, .int a3), (4, .int x_10), (5, .int x_11)]) rfl ?_
      exact hrc113 x_10 x_11 f1_7 f2_8 h
set_option maxHeartbeats 4000000 in
set_option maxRecDepth 100000 in
theorem bwX6_bomb_42 {p : Program} {l : Launch} {e : Env} {s : State} {m : MethodId} {args : Array Value} {below : List Frame} {meth : Method} {c : Code} {D : va_G} {A : Nat → Prop} {cA : ClassId} {q0 q1 q2 q3 q5 q8 q11 q16 q17 q22 : Nat} {res : Int32 × (Nat → Int32) × (Nat → Int32)} (C0 : cx p s m args meth c cX6_bomb 6 RX6 wsX6_bomb (some .int) D vwCl [(cA, .int)] A) (N : Nat) (a1 : Int32) (a2 : Int32) (a3 : Int32) : ∀ (n : Nat) (v4 : Int32) (f1 : Nat → Int32) (f2 : Nat → Int32), bfX6_bomb_42 N a1 a2 a3  n v4 f1 f2 = some res → At_ p l e (rmX6_bomb) s m args below meth c D vwCl A 6 0 0 (Qi_ below args s D vwCl A (wdX6_1 cA q0 q1 q2 q3 q5 q8 q11 q16 q17 q22 res.2.1 res.2.2) res.1) 42 [(0, .ref q0), (1, .int a1), (2, .int a2), (3, .int a3), (4, .int v4)] [] (wdX6_1 cA q0 q1 q2 q3 q5 q8 q11 q16 q17 q22 f1 f2) := by
  intro n
  induction n with
  | zero => intro v4 f1 f2 h; cases h
  | succ n hrc42 =>
    intro v4 f1 f2 h
    replace h : bFX6_bomb_42 N a1 a2 a3  (bfX6_bomb_42 N a1 a2 a3  n) v4 f1 f2 = some res := h
    generalize bfX6_bomb_42 N a1 a2 a3  n = rc42 at h hrc42
    unfold bFX6_bomb_42 at h
    refine a_iload C0 dX6_bomb_42 4 rfl ?_
    refine a_if_le C0 91 dX6_bomb_44 (by decide) (fun c_12 => ?_) (fun c_12 => ?_)
    · have h := it_ c_12 h
      refine a_aload_n C0 dX6_bomb_91 rfl 0 rfl ?_
      refine a_get C0 inX6_bomb_X6 0 rfl rfl 0 (by decide) lkX6_bomb_10 (fun _ h9 => h9) (.ref q1) rfl dX6_bomb_92 ?_
      refine a_iconst C0 (1 : Int32) dX6_bomb_95 (by decide) ?_
      obtain ⟨f1_13, f2_14, h_15, h⟩ := bd2_e h
      refine a_callVv C0 (wdX6_1 cA q0 q1 q2 q3 q5 q8 q11 q16 q17 q22 f1_13 f2_14) (As := [.int (1 : Int32)]) (rest := []) (ctX5_append l D cA q1 q2 (1 : Int32) f1 f2 h_15) (cwV 1 C0.1.2.2.2.2 gX6_bomb_X5_append rfl rfl rfl hdX5_append ⟨Nat.le_of_ble_eq_true rfl, Nat.le_of_ble_eq_true rfl⟩) [1, 2] [0] [0, 1, 2] rfl rfl rfl rfl (by decide) rfl rfl rfl rfl rfl rfl (Nat.le_of_ble_eq_true rfl) dX6_bomb_96 ⟨Nat.zero_le _, Nat.zero_le _⟩ ?_
      refine a_aload_n C0 dX6_bomb_99 rfl 0 rfl ?_
      refine a_get C0 inX6_bomb_X6 0 rfl rfl 0 (by decide) lkX6_bomb_10 (fun _ h9 => h9) (.ref q1) rfl dX6_bomb_100 ?_
      refine a_iload_n C0 dX6_bomb_103 rfl 3 rfl ?_
      obtain ⟨f1_16, f2_17, h_18, h⟩ := bd2_e h
      refine a_callVv C0 (wdX6_1 cA q0 q1 q2 q3 q5 q8 q11 q16 q17 q22 f1_16 f2_17) (As := [.int a3]) (rest := []) (ctX5_append l D cA q1 q2 a3 f1_13 f2_14 h_18) (cwV 1 C0.1.2.2.2.2 gX6_bomb_X5_append rfl rfl rfl hdX5_append ⟨Nat.le_of_ble_eq_true rfl, Nat.le_of_ble_eq_true rfl⟩) [1, 2] [0] [0, 1, 2] rfl rfl rfl rfl (by decide) rfl rfl rfl rfl rfl rfl (Nat.le_of_ble_eq_true rfl) dX6_bomb_104 ⟨Nat.zero_le _, Nat.zero_le _⟩ ?_
      refine a_iload_n C0 dX6_bomb_107 rfl 3 rfl ?_
      refine a_istore C0 [(4, .int a3), (0, .ref q0), (1, .int a1), (2, .int a2), (3, .int a3)] dX6_bomb_108 (by decide) rfl ?_
      refine a_iconst C0 (0 : Int32) dX6_bomb_110 (by decide) ?_
      refine a_istore C0 [(5, .int (0 : Int32)), (4, .int a3), (0, .ref q0), (1, .int a1), (2, .int a2), (3, .int a3)] dX6_bomb_111 (by decide) rfl ?_
      refine a_lv [2, 3, 4, 5, 1, 0] (lv' := [(0, .ref q0), (1, .int a1), (2, .int a2), (3, .int a3), (4, .int a3), (5, .int (0 : Int32))]) rfl ?_
      exact bwX6_bomb_113 C0 N a1 a2 a3 N a3 (0 : Int32) f1_16 f2_17 h
    · have h := ie_ c_12 h
      refine a_aload_n C0 dX6_bomb_47 rfl 0 rfl ?_
      refine a_get C0 inX6_bomb_X6 0 rfl rfl 0 (by decide) lkX6_bomb_10 (fun _ h9 => h9) (.ref q1) rfl dX6_bomb_48 ?_
      refine a_sipush C0 (128 : Int32) dX6_bomb_51 (by decide) ?_
      refine a_iload_n C0 dX6_bomb_54 rfl 2 rfl ?_
      refine a_iadd C0 dX6_bomb_55 ?_
      refine a_iconst C0 (2 : Int32) dX6_bomb_56 (by decide) ?_
      refine a_isub C0 dX6_bomb_57 ?_
      obtain ⟨f1_19, f2_20, h_21, h⟩ := bd2_e h
      refine a_callVv C0 (wdX6_1 cA q0 q1 q2 q3 q5 q8 q11 q16 q17 q22 f1_19 f2_20) (As := [.int (((128 : Int32) + a2) - (2 : Int32))]) (rest := []) (ctX5_append l D cA q1 q2 (((128 : Int32) + a2) - (2 : Int32)) f1 f2 h_21) (cwV 1 C0.1.2.2.2.2 gX6_bomb_X5_append rfl rfl rfl hdX5_append ⟨Nat.le_of_ble_eq_true rfl, Nat.le_of_ble_eq_true rfl⟩) [1, 2] [0] [0, 1, 2] rfl rfl rfl rfl (by decide) rfl rfl rfl rfl rfl rfl (Nat.le_of_ble_eq_true rfl) dX6_bomb_58 ⟨Nat.zero_le _, Nat.zero_le _⟩ ?_
      refine a_aload_n C0 dX6_bomb_61 rfl 0 rfl ?_
      refine a_get C0 inX6_bomb_X6 0 rfl rfl 0 (by decide) lkX6_bomb_10 (fun _ h9 => h9) (.ref q1) rfl dX6_bomb_62 ?_
      refine a_sipush C0 (192 : Int32) dX6_bomb_65 (by decide) ?_
      obtain ⟨f1_22, f2_23, h_24, h⟩ := bd2_e h
      refine a_callVv C0 (wdX6_1 cA q0 q1 q2 q3 q5 q8 q11 q16 q17 q22 f1_22 f2_23) (As := [.int (192 : Int32)]) (rest := []) (ctX5_append l D cA q1 q2 (192 : Int32) f1_19 f2_20 h_24) (cwV 1 C0.1.2.2.2.2 gX6_bomb_X5_append rfl rfl rfl hdX5_append ⟨Nat.le_of_ble_eq_true rfl, Nat.le_of_ble_eq_true rfl⟩) [1, 2] [0] [0, 1, 2] rfl rfl rfl rfl (by decide) rfl rfl rfl rfl rfl rfl (Nat.le_of_ble_eq_true rfl) dX6_bomb_68 ⟨Nat.zero_le _, Nat.zero_le _⟩ ?_
      refine a_aload_n C0 dX6_bomb_71 rfl 0 rfl ?_
      refine a_get C0 inX6_bomb_X6 0 rfl rfl 0 (by decide) lkX6_bomb_10 (fun _ h9 => h9) (.ref q1) rfl dX6_bomb_72 ?_
      refine a_iload C0 dX6_bomb_75 4 rfl ?_
      refine a_iconst C0 (1 : Int32) dX6_bomb_77 (by decide) ?_
      refine a_isub C0 dX6_bomb_78 ?_
      obtain ⟨r_25, h_26, h⟩ := bd1_e h
      refine a_callSi C0 (wdX6_1 cA q0 q1 q2 q3 q5 q8 q11 q16 q17 q22 f1_22 f2_23) (As := [.int (v4 - (1 : Int32))]) (rest := [.ref q1]) (ctX6_bombLength l D cA (v4 - (1 : Int32)) h_26) (cwS 1 C0.1.2.2.2.2 gX6_bomb_X6_bombLength rfl rfl rfl hdX6_bombLength ⟨Nat.le_of_ble_eq_true rfl, Nat.le_of_ble_eq_true rfl⟩) [] [0, 1, 2] [0, 1, 2] rfl rfl rfl rfl (by decide) rfl rfl rfl rfl (Nat.le_of_ble_eq_true rfl) dX6_bomb_79 ⟨Nat.zero_le _, Nat.zero_le _⟩ ?_
      obtain ⟨f1_27, f2_28, h_29, h⟩ := bd2_e h
      refine a_callVv C0 (wdX6_1 cA q0 q1 q2 q3 q5 q8 q11 q16 q17 q22 f1_27 f2_28) (As := [.int r_25]) (rest := []) (ctX5_append l D cA q1 q2 r_25 f1_22 f2_23 h_29) (cwV 1 C0.1.2.2.2.2 gX6_bomb_X5_append rfl rfl rfl hdX5_append ⟨Nat.le_of_ble_eq_true rfl, Nat.le_of_ble_eq_true rfl⟩) [1, 2] [0] [0, 1, 2] rfl rfl rfl rfl (by decide) rfl rfl rfl rfl rfl rfl (Nat.le_of_ble_eq_true rfl) dX6_bomb_82 ⟨Nat.zero_le _, Nat.zero_le _⟩ ?_
      obtain ⟨x_30, ex_30, h⟩ := lt_e h
      refine a_iinc C0 x_30 [(4, .int x_30), (0, .ref q0), (1, .int a1), (2, .int a2), (3, .int a3)] dX6_bomb_85 4 rfl (by subst ex_30; rfl) (by decide) rfl ?_
      refine a_goto C0 42 dX6_bomb_88 (by decide) ?_
      refine a_lv [1, 2, 3, 4, 0] (lv' := [(0, .ref q0), (1, .int a1), (2, .int a2), (3, .int a3), (4, .int x_30)]) rfl ?_
      exact hrc42 x_30 f1_27 f2_28 h
set_option maxHeartbeats 4000000 in
set_option maxRecDepth 100000 in
theorem bwX6_bomb {p : Program} {l : Launch} {e : Env} {s : State} {m : MethodId} {args : Array Value} {below : List Frame} {meth : Method} {c : Code} {D : va_G} {A : Nat → Prop} {cA : ClassId} {q0 q1 q2 q3 q5 q8 q11 q16 q17 q22 : Nat} {res : Int32 × (Nat → Int32) × (Nat → Int32)} (C0 : cx p s m args meth c cX6_bomb 6 RX6 wsX6_bomb (some .int) D vwCl [(cA, .int)] A) (N : Nat) (a1 : Int32) (a2 : Int32) (a3 : Int32) (f1 : Nat → Int32) (f2 : Nat → Int32) (h : pX6_bomb N a1 a2 a3 f1 f2 = some res) : At_ p l e (rmX6_bomb) s m args below meth c D vwCl A 6 0 0 (Qi_ below args s D vwCl A (wdX6_1 cA q0 q1 q2 q3 q5 q8 q11 q16 q17 q22 res.2.1 res.2.2) res.1) 0 [(0, .ref q0), (1, .int a1), (2, .int a2), (3, .int a3)] [] (wdX6_1 cA q0 q1 q2 q3 q5 q8 q11 q16 q17 q22 f1 f2) := by
  unfold pX6_bomb at h
  refine a_iload_n C0 dX6_bomb_0 rfl 1 rfl ?_
  refine a_if_lt C0 28 dX6_bomb_1 (by decide) (fun c_31 => ?_) (fun c_31 => ?_)
  · have h := it_ c_31 h
    refine a_bipush C0 (-2 : Int32) dX6_bomb_28 (by decide) ?_
    obtain rfl := Option.some.inj h
    exact a_iret C0 dX6_bomb_30 rfl rfl
  · have h := ie_ c_31 h
    refine a_iload_n C0 dX6_bomb_4 rfl 1 rfl ?_
    refine a_bipush C0 (12 : Int32) dX6_bomb_5 (by decide) ?_
    refine a_icmp_gt C0 28 dX6_bomb_7 (by decide) (fun c_32 => ?_) (fun c_32 => ?_)
    · have h := it_ c_32 h
      refine a_bipush C0 (-2 : Int32) dX6_bomb_28 (by decide) ?_
      obtain rfl := Option.some.inj h
      exact a_iret C0 dX6_bomb_30 rfl rfl
    · have h := ie_ c_32 h
      refine a_iload_n C0 dX6_bomb_10 rfl 2 rfl ?_
      refine a_iconst C0 (2 : Int32) dX6_bomb_11 (by decide) ?_
      refine a_icmp_lt C0 28 dX6_bomb_12 (by decide) (fun c_33 => ?_) (fun c_33 => ?_)
      · have h := it_ c_33 h
        refine a_bipush C0 (-2 : Int32) dX6_bomb_28 (by decide) ?_
        obtain rfl := Option.some.inj h
        exact a_iret C0 dX6_bomb_30 rfl rfl
      · have h := ie_ c_33 h
        refine a_iload_n C0 dX6_bomb_15 rfl 2 rfl ?_
        refine a_bipush C0 (65 : Int32) dX6_bomb_16 (by decide) ?_
        refine a_icmp_gt C0 28 dX6_bomb_18 (by decide) (fun c_34 => ?_) (fun c_34 => ?_)
        · have h := it_ c_34 h
          refine a_bipush C0 (-2 : Int32) dX6_bomb_28 (by decide) ?_
          obtain rfl := Option.some.inj h
          exact a_iret C0 dX6_bomb_30 rfl rfl
        · have h := ie_ c_34 h
          refine a_iload_n C0 dX6_bomb_21 rfl 3 rfl ?_
          obtain ⟨r_35, h_36, h⟩ := bd1_e h
          refine a_callSi C0 (wdX6_1 cA q0 q1 q2 q3 q5 q8 q11 q16 q17 q22 f1 f2) (As := [.int a3]) (rest := []) (ctX6_isByte l D cA a3 h_36) (cwS 1 C0.1.2.2.2.2 gX6_bomb_X6_isByte rfl rfl rfl hdX6_isByte ⟨Nat.le_of_ble_eq_true rfl, Nat.le_of_ble_eq_true rfl⟩) [] [0, 1, 2] [0, 1, 2] rfl rfl rfl rfl (by decide) rfl rfl rfl rfl (Nat.le_of_ble_eq_true rfl) dX6_bomb_22 ⟨Nat.zero_le _, Nat.zero_le _⟩ ?_
          refine a_if_ne C0 31 dX6_bomb_25 (by decide) (fun c_37 => ?_) (fun c_37 => ?_)
          · have h := ie_ c_37 h
            refine a_aload_n C0 dX6_bomb_31 rfl 0 rfl ?_
            refine a_get C0 inX6_bomb_X6 0 rfl rfl 0 (by decide) lkX6_bomb_10 (fun _ h9 => h9) (.ref q1) rfl dX6_bomb_32 ?_
            refine a_iconst C0 (0 : Int32) dX6_bomb_35 (by decide) ?_
            obtain ⟨f1_38, h_39, h⟩ := bd1_e h
            refine a_callVv C0 (wdX6_1 cA q0 q1 q2 q3 q5 q8 q11 q16 q17 q22 f1_38 f2) (As := [.int (0 : Int32)]) (rest := []) (ctX5_keep l D cA q1 q2 (0 : Int32) f1 h_39) (cwV 1 C0.1.2.2.2.2 gX6_bomb_X5_keep rfl rfl rfl hdX5_keep ⟨Nat.le_of_ble_eq_true rfl, Nat.le_of_ble_eq_true rfl⟩) [1] [0, 2] [0, 2, 1] rfl rfl rfl rfl (by decide) rfl rfl rfl rfl rfl rfl (Nat.le_of_ble_eq_true rfl) dX6_bomb_36 ⟨Nat.zero_le _, Nat.zero_le _⟩ ?_
            refine a_iload_n C0 dX6_bomb_39 rfl 1 rfl ?_
            refine a_istore C0 [(4, .int a1), (0, .ref q0), (1, .int a1), (2, .int a2), (3, .int a3)] dX6_bomb_40 (by decide) rfl ?_
            refine a_lv [1, 2, 3, 4, 0] (lv' := [(0, .ref q0), (1, .int a1), (2, .int a2), (3, .int a3), (4, .int a1)]) rfl ?_
            exact bwX6_bomb_42 C0 N a1 a2 a3 N a1 f1_38 f2 h
          · have h := it_ c_37 h
            refine a_bipush C0 (-2 : Int32) dX6_bomb_28 (by decide) ?_
            obtain rfl := Option.some.inj h
            exact a_iret C0 dX6_bomb_30 rfl rfl
set_option maxRecDepth 100000 in
theorem ctX6_bomb (l : Launch) (D : va_G) (cA : ClassId) (q0 q1 q2 q3 q5 q8 q11 q16 q17 q22 : Nat) (N : Nat) (a1 : Int32) (a2 : Int32) (a3 : Int32) (f1 : Nat → Int32) (f2 : Nat → Int32) {res : Int32 × (Nat → Int32) × (Nat → Int32)} (h : pX6_bomb N a1 a2 a3 f1 f2 = some res) : Cti l yX6_bomb wsX6_bomb (rmX6_bomb) D vwCl [(cA, .int)] [.ref q0, .int a1, .int a2, .int a3] (wdX6_1 cA q0 q1 q2 q3 q5 q8 q11 q16 q17 q22 f1 f2) (wdX6_1 cA q0 q1 q2 q3 q5 q8 q11 q16 q17 q22 res.2.1 res.2.2) 0 0 res.1 :=
  ct_i (maxL := 6) (cc := cX6_bomb) (by decide) rfl (Nat.le_of_ble_eq_true rfl) (fun p e s m below meth c C0 => bwX6_bomb C0 N a1 a2 a3 f1 f2 h)
/-! PackDrawer.greatestVerdict -/
abbrev wdX6_4 (cA : ClassId) (q0 q1 q2 q3 q4 q5 q8 q9 q10 q11 q16 q17 q18 q19 q20 q21 q22 : Nat) (f1 : Nat → Int32) (f2 : Nat → Int32) (f3 : Nat → Int32) (f4 : Nat → Int32) (f8 : Nat → Int32) (f9 : Nat → Int32) (f10 : Nat → Int32) (f17 : Nat → Int32) (f18 : Nat → Int32) (f19 : Nat → Int32) (f20 : Nat → Int32) (f21 : Nat → Int32) : va_W := [(q0, .inr (6, [.ref q1, .ref q3, .ref q5, .ref q8, .ref q11, .ref q16, .ref q17, .ref q22])), (q1, .inr (5, [.ref q2, .int (f1 1)])), (q2, .inl (cA, 160, .inl f2)), (q3, .inr (5, [.ref q4, .int (f3 1)])), (q4, .inl (cA, 160, .inl f4)), (q8, .inr (0, [.ref q9, .int (f8 1), .int (f8 2), .int (f8 3), .int (f8 4), .int (f8 5), .int (f8 6), .int (f8 7), .int (f8 8), .int (f8 9), .int (f8 10), .int (f8 11)])), (q9, .inr (4, [.ref q10, .int (f9 1)])), (q10, .inl (cA, 800, .inl f10)), (q17, .inr (1, [.ref q3, .ref q8, .ref q9, .ref q18, .ref q19, .ref q20, .ref q21, .int (f17 7), .int (f17 8), .int (f17 9), .int (f17 10), .int (f17 11)])), (q18, .inl (cA, 7, .inl f18)), (q19, .inl (cA, 7, .inl f19)), (q20, .inl (cA, 7, .inl f20)), (q21, .inl (cA, 7, .inl f21))]
theorem hdX5_become : yX5_become.cls = RX5 ∧ yX5_become.cls ≠ "java/lang/invoke/MethodHandle" ∧ yX5_become.cls ≠ "java/lang/invoke/VarHandle" ∧ (parseMethodDescriptor yX5_become.desc).map (fun d => d.parameters.length) = some 1 := by decide +kernel
theorem hdX1_read : yX1_read.cls = RX1 ∧ yX1_read.cls ≠ "java/lang/invoke/MethodHandle" ∧ yX1_read.cls ≠ "java/lang/invoke/VarHandle" ∧ (parseMethodDescriptor yX1_read.desc).map (fun d => d.parameters.length) = some 3 := by decide +kernel
abbrev rmX6_greatestVerdict : Room := { frames := 6, cells := 0, slots := 0, locals := 137 }
theorem lkX6_greatestVerdict_16 : Cond.fieldLink RX6 16 RX6 (TX6 1).2.1 (TX6 1).2.2.1 ∈ wsX6_greatestVerdict := by decide +kernel
theorem inX6_greatestVerdict_X6 : ∀ w ∈ u_ws RX6 TX6 8, w ∈ wsX6_greatestVerdict := by decide +kernel
theorem lkX6_greatestVerdict_10 : Cond.fieldLink RX6 10 RX6 (TX6 0).2.1 (TX6 0).2.2.1 ∈ wsX6_greatestVerdict := by decide +kernel
theorem lkX6_greatestVerdict_45 : Cond.fieldLink RX6 45 RX6 (TX6 6).2.1 (TX6 6).2.2.1 ∈ wsX6_greatestVerdict := by decide +kernel
def pX6_greatestVerdict (N : Nat) (f1 : Nat → Int32) (f2 : Nat → Int32) (f3 : Nat → Int32) (f4 : Nat → Int32) (f8 : Nat → Int32) (f9 : Nat → Int32) (f10 : Nat → Int32) (f17 : Nat → Int32) (f18 : Nat → Int32) (f19 : Nat → Int32) (f20 : Nat → Int32) (f21 : Nat → Int32) : Option (Int32 × (Nat → Int32) × (Nat → Int32) × (Nat → Int32) × (Nat → Int32) × (Nat → Int32) × (Nat → Int32) × (Nat → Int32) × (Nat → Int32) × (Nat → Int32) × (Nat → Int32)) := bd2 (pX5_become f3 f4 f1 f2) (fun f3_1 f4_2 => bd9 (pX1_read N (400 : Int32) (800 : Int32) (1500 : Int32) f17 f3_1 f4_2 f8 f9 f10 f18 f19 f20 f21) (fun r_4 f17_5 f8_6 f9_7 f10_8 f18_9 f19_10 f20_11 f21_12 => some (r_4, f3_1, f4_2, f8_6, f9_7, f10_8, f17_5, f18_9, f19_10, f20_11, f21_12)))
set_option maxHeartbeats 4000000 in
set_option maxRecDepth 100000 in
theorem bwX6_greatestVerdict {p : Program} {l : Launch} {e : Env} {s : State} {m : MethodId} {args : Array Value} {below : List Frame} {meth : Method} {c : Code} {D : va_G} {A : Nat → Prop} {cA : ClassId} {q0 q1 q2 q3 q4 q5 q8 q9 q10 q11 q16 q17 q18 q19 q20 q21 q22 : Nat} {res : Int32 × (Nat → Int32) × (Nat → Int32) × (Nat → Int32) × (Nat → Int32) × (Nat → Int32) × (Nat → Int32) × (Nat → Int32) × (Nat → Int32) × (Nat → Int32) × (Nat → Int32)} (C0 : cx p s m args meth c cX6_greatestVerdict 1 RX6 wsX6_greatestVerdict (some .int) D vwCl [(cA, .int)] A) (N : Nat) (f1 : Nat → Int32) (f2 : Nat → Int32) (f3 : Nat → Int32) (f4 : Nat → Int32) (f8 : Nat → Int32) (f9 : Nat → Int32) (f10 : Nat → Int32) (f17 : Nat → Int32) (f18 : Nat → Int32) (f19 : Nat → Int32) (f20 : Nat → Int32) (f21 : Nat → Int32) (h : pX6_greatestVerdict N f1 f2 f3 f4 f8 f9 f10 f17 f18 f19 f20 f21 = some res) : At_ p l e (rmX6_greatestVerdict) s m args below meth c D vwCl A 1 0 0 (Qi_ below args s D vwCl A (wdX6_4 cA q0 q1 q2 q3 q4 q5 q8 q9 q10 q11 q16 q17 q18 q19 q20 q21 q22 f1 f2 res.2.1 res.2.2.1 res.2.2.2.1 res.2.2.2.2.1 res.2.2.2.2.2.1 res.2.2.2.2.2.2.1 res.2.2.2.2.2.2.2.1 res.2.2.2.2.2.2.2.2.1 res.2.2.2.2.2.2.2.2.2.1 res.2.2.2.2.2.2.2.2.2.2) res.1) 0 [(0, .ref q0)] [] (wdX6_4 cA q0 q1 q2 q3 q4 q5 q8 q9 q10 q11 q16 q17 q18 q19 q20 q21 q22 f1 f2 f3 f4 f8 f9 f10 f17 f18 f19 f20 f21) := by
  unfold pX6_greatestVerdict at h
  refine a_aload_n C0 dX6_greatestVerdict_0 rfl 0 rfl ?_
  refine a_get C0 inX6_greatestVerdict_X6 0 rfl rfl 1 (by decide) lkX6_greatestVerdict_16 (fun _ h9 => h9) (.ref q3) rfl dX6_greatestVerdict_1 ?_
  refine a_aload_n C0 dX6_greatestVerdict_4 rfl 0 rfl ?_
  refine a_get C0 inX6_greatestVerdict_X6 0 rfl rfl 0 (by decide) lkX6_greatestVerdict_10 (fun _ h9 => h9) (.ref q1) rfl dX6_greatestVerdict_5 ?_
  obtain ⟨f3_1, f4_2, h_3, h⟩ := bd2_e h
  refine a_callVv C0 (wdX6_4 cA q0 q1 q2 q3 q4 q5 q8 q9 q10 q11 q16 q17 q18 q19 q20 q21 q22 f1 f2 f3_1 f4_2 f8 f9 f10 f17 f18 f19 f20 f21) (As := [.ref q1]) (rest := []) (ctX5_become l D cA q3 q4 q1 q2 f3 f4 f1 f2 h_3) (cwV 1 C0.1.2.2.2.2 gX6_greatestVerdict_X5_become rfl rfl rfl hdX5_become ⟨Nat.le_of_ble_eq_true rfl, Nat.le_of_ble_eq_true rfl⟩) [3, 4, 1, 2] [0, 5, 6, 7, 8, 9, 10, 11, 12] [0, 11, 12, 9, 10, 1, 2, 3, 4, 5, 6, 7, 8] rfl rfl rfl rfl (by decide) rfl rfl rfl rfl rfl rfl (Nat.le_of_ble_eq_true rfl) dX6_greatestVerdict_8 ⟨Nat.zero_le _, Nat.zero_le _⟩ ?_
  refine a_aload_n C0 dX6_greatestVerdict_11 rfl 0 rfl ?_
  refine a_get C0 inX6_greatestVerdict_X6 0 rfl rfl 6 (by decide) lkX6_greatestVerdict_45 (fun _ h9 => h9) (.ref q17) rfl dX6_greatestVerdict_12 ?_
  refine a_sipush C0 (400 : Int32) dX6_greatestVerdict_15 (by decide) ?_
  refine a_sipush C0 (800 : Int32) dX6_greatestVerdict_18 (by decide) ?_
  refine a_sipush C0 (1500 : Int32) dX6_greatestVerdict_21 (by decide) ?_
  obtain ⟨r_4, f17_5, f8_6, f9_7, f10_8, f18_9, f19_10, f20_11, f21_12, h_13, h⟩ := bd9_e h
  refine a_callVi C0 (wdX6_4 cA q0 q1 q2 q3 q4 q5 q8 q9 q10 q11 q16 q17 q18 q19 q20 q21 q22 f1 f2 f3_1 f4_2 f8_6 f9_7 f10_8 f17_5 f18_9 f19_10 f20_11 f21_12) (As := [.int (400 : Int32), .int (800 : Int32), .int (1500 : Int32)]) (rest := []) (ctX1_read l D cA q17 q3 q4 q8 q9 q10 q18 q19 q20 q21 N (400 : Int32) (800 : Int32) (1500 : Int32) f17 f3_1 f4_2 f8 f9 f10 f18 f19 f20 f21 h_13) (cwV 3 C0.1.2.2.2.2 gX6_greatestVerdict_X1_read rfl rfl rfl hdX1_read ⟨Nat.le_of_ble_eq_true rfl, Nat.le_of_ble_eq_true rfl⟩) [8, 3, 4, 5, 6, 7, 9, 10, 11, 12] [0, 1, 2] [0, 1, 2, 4, 5, 6, 7, 8, 3, 9, 10, 11, 12] rfl rfl rfl rfl (by decide) rfl rfl rfl rfl rfl rfl (Nat.le_of_ble_eq_true rfl) dX6_greatestVerdict_24 ⟨Nat.zero_le _, Nat.zero_le _⟩ ?_
  obtain rfl := Option.some.inj h
  exact a_iret C0 dX6_greatestVerdict_27 rfl rfl
set_option maxRecDepth 100000 in
theorem ctX6_greatestVerdict (l : Launch) (D : va_G) (cA : ClassId) (q0 q1 q2 q3 q4 q5 q8 q9 q10 q11 q16 q17 q18 q19 q20 q21 q22 : Nat) (N : Nat) (f1 : Nat → Int32) (f2 : Nat → Int32) (f3 : Nat → Int32) (f4 : Nat → Int32) (f8 : Nat → Int32) (f9 : Nat → Int32) (f10 : Nat → Int32) (f17 : Nat → Int32) (f18 : Nat → Int32) (f19 : Nat → Int32) (f20 : Nat → Int32) (f21 : Nat → Int32) {res : Int32 × (Nat → Int32) × (Nat → Int32) × (Nat → Int32) × (Nat → Int32) × (Nat → Int32) × (Nat → Int32) × (Nat → Int32) × (Nat → Int32) × (Nat → Int32) × (Nat → Int32)} (h : pX6_greatestVerdict N f1 f2 f3 f4 f8 f9 f10 f17 f18 f19 f20 f21 = some res) : Cti l yX6_greatestVerdict wsX6_greatestVerdict (rmX6_greatestVerdict) D vwCl [(cA, .int)] [.ref q0] (wdX6_4 cA q0 q1 q2 q3 q4 q5 q8 q9 q10 q11 q16 q17 q18 q19 q20 q21 q22 f1 f2 f3 f4 f8 f9 f10 f17 f18 f19 f20 f21) (wdX6_4 cA q0 q1 q2 q3 q4 q5 q8 q9 q10 q11 q16 q17 q18 q19 q20 q21 q22 f1 f2 res.2.1 res.2.2.1 res.2.2.2.1 res.2.2.2.2.1 res.2.2.2.2.2.1 res.2.2.2.2.2.2.1 res.2.2.2.2.2.2.2.1 res.2.2.2.2.2.2.2.2.1 res.2.2.2.2.2.2.2.2.2.1 res.2.2.2.2.2.2.2.2.2.2) 0 0 res.1 :=
  ct_i (maxL := 1) (cc := cX6_greatestVerdict) (by decide) rfl (Nat.le_of_ble_eq_true rfl) (fun p e s m below meth c C0 => bwX6_greatestVerdict C0 N f1 f2 f3 f4 f8 f9 f10 f17 f18 f19 f20 f21 h)
/-! PackDrawer.span -/
abbrev rmX6_span : Room := { frames := 2, cells := 0, slots := 0, locals := 42 }
theorem lkX6_span_10 : Cond.fieldLink RX6 10 RX6 (TX6 0).2.1 (TX6 0).2.2.1 ∈ wsX6_span := by decide +kernel
theorem inX6_span_X6 : ∀ w ∈ u_ws RX6 TX6 8, w ∈ wsX6_span := by decide +kernel
def pX6_span (a1 : Int32) (f1 : Nat → Int32) (f2 : Nat → Int32) : Option (Int32) := bd1 (pX5_byteAt a1 f1 f2) (fun r_1 => bd1 (pX6_sortOf r_1) (fun r_3 => if r_3 = (1 : Int32) then some ((1 : Int32) + r_1) else if r_3 = (3 : Int32) then some (1 : Int32) else if r_3 = (5 : Int32) then bd1 (pX5_byteAt (a1 + (1 : Int32)) f1 f2) (fun r_8 => bd1 (pX5_byteAt (a1 + (2 : Int32)) f1 f2) (fun r_10 => some (((3 : Int32) + (r_8 * (256 : Int32))) + r_10))) else some (2 : Int32)))
set_option maxHeartbeats 4000000 in
set_option maxRecDepth 100000 in
theorem bwX6_span {p : Program} {l : Launch} {e : Env} {s : State} {m : MethodId} {args : Array Value} {below : List Frame} {meth : Method} {c : Code} {D : va_G} {A : Nat → Prop} {cA : ClassId} {q0 q1 q2 q3 q5 q8 q11 q16 q17 q22 : Nat} {res : Int32} (C0 : cx p s m args meth c cX6_span 3 RX6 wsX6_span (some .int) D vwCl [(cA, .int)] A) (a1 : Int32) (f1 : Nat → Int32) (f2 : Nat → Int32) (h : pX6_span a1 f1 f2 = some res) : At_ p l e (rmX6_span) s m args below meth c D vwCl A 3 0 0 (Qi_ below args s D vwCl A (wdX6_1 cA q0 q1 q2 q3 q5 q8 q11 q16 q17 q22 f1 f2) res) 0 [(0, .ref q0), (1, .int a1)] [] (wdX6_1 cA q0 q1 q2 q3 q5 q8 q11 q16 q17 q22 f1 f2) := by
  unfold pX6_span at h
  refine a_aload_n C0 dX6_span_0 rfl 0 rfl ?_
  refine a_get C0 inX6_span_X6 0 rfl rfl 0 (by decide) lkX6_span_10 (fun _ h9 => h9) (.ref q1) rfl dX6_span_1 ?_
  refine a_iload_n C0 dX6_span_4 rfl 1 rfl ?_
  obtain ⟨r_1, h_2, h⟩ := bd1_e h
  refine a_callVi C0 (wdX6_1 cA q0 q1 q2 q3 q5 q8 q11 q16 q17 q22 f1 f2) (As := [.int a1]) (rest := []) (ctX5_byteAt l D cA q1 q2 a1 f1 f2 h_2) (cwV 1 C0.1.2.2.2.2 gX6_span_X5_byteAt rfl rfl rfl hdX5_byteAt ⟨Nat.le_of_ble_eq_true rfl, Nat.le_of_ble_eq_true rfl⟩) [1, 2] [0] [0, 1, 2] rfl rfl rfl rfl (by decide) rfl rfl rfl rfl rfl rfl (Nat.le_of_ble_eq_true rfl) dX6_span_5 ⟨Nat.zero_le _, Nat.zero_le _⟩ ?_
  refine a_istore_n C0 [(2, .int r_1), (0, .ref q0), (1, .int a1)] dX6_span_8 rfl (by decide) rfl ?_
  refine a_iload_n C0 dX6_span_9 rfl 0 rfl ?_
  obtain ⟨r_3, h_4, h⟩ := bd1_e h
  refine a_callSi C0 (wdX6_1 cA q0 q1 q2 q3 q5 q8 q11 q16 q17 q22 f1 f2) (As := [.int r_1]) (rest := []) (ctX6_sortOf l D cA r_1 h_4) (cwS 1 C0.1.2.2.2.2 gX6_span_X6_sortOf rfl rfl rfl hdX6_sortOf ⟨Nat.le_of_ble_eq_true rfl, Nat.le_of_ble_eq_true rfl⟩) [] [0, 1, 2] [0, 1, 2] rfl rfl rfl rfl (by decide) rfl rfl rfl rfl (Nat.le_of_ble_eq_true rfl) dX6_span_10 ⟨Nat.zero_le _, Nat.zero_le _⟩ ?_
  by_cases c_5 : r_3 = (1 : Int32)
  · have h := it_ c_5 h
    refine a_tableIn C0 48 dX6_span_13 (by rw [c_5]; decide) (by rw [c_5]; decide) (by rw [c_5]; rfl) (by decide) ?_
    refine a_iconst C0 (1 : Int32) dX6_span_48 (by decide) ?_
    refine a_iload_n C0 dX6_span_49 rfl 0 rfl ?_
    refine a_iadd C0 dX6_span_50 ?_
    obtain rfl := Option.some.inj h
    exact a_iret C0 dX6_span_51 rfl rfl
  · have h := ie_ c_5 h
    by_cases c_6 : r_3 = (3 : Int32)
    · have h := it_ c_6 h
      refine a_tableIn C0 80 dX6_span_13 (by rw [c_6]; decide) (by rw [c_6]; decide) (by rw [c_6]; rfl) (by decide) ?_
      refine a_iconst C0 (1 : Int32) dX6_span_80 (by decide) ?_
      obtain rfl := Option.some.inj h
      exact a_iret C0 dX6_span_81 rfl rfl
    · have h := ie_ c_6 h
      by_cases c_7 : r_3 = (5 : Int32)
      · have h := it_ c_7 h
        refine a_tableIn C0 52 dX6_span_13 (by rw [c_7]; decide) (by rw [c_7]; decide) (by rw [c_7]; rfl) (by decide) ?_
        refine a_iconst C0 (3 : Int32) dX6_span_52 (by decide) ?_
        refine a_aload_n C0 dX6_span_53 rfl 1 rfl ?_
        refine a_get C0 inX6_span_X6 0 rfl rfl 0 (by decide) lkX6_span_10 (fun _ h9 => h9) (.ref q1) rfl dX6_span_54 ?_
        refine a_iload_n C0 dX6_span_57 rfl 2 rfl ?_
        refine a_iconst C0 (1 : Int32) dX6_span_58 (by decide) ?_
        refine a_iadd C0 dX6_span_59 ?_
        obtain ⟨r_8, h_9, h⟩ := bd1_e h
        refine a_callVi C0 (wdX6_1 cA q0 q1 q2 q3 q5 q8 q11 q16 q17 q22 f1 f2) (As := [.int (a1 + (1 : Int32))]) (rest := [.int (3 : Int32)]) (ctX5_byteAt l D cA q1 q2 (a1 + (1 : Int32)) f1 f2 h_9) (cwV 1 C0.1.2.2.2.2 gX6_span_X5_byteAt rfl rfl rfl hdX5_byteAt ⟨Nat.le_of_ble_eq_true rfl, Nat.le_of_ble_eq_true rfl⟩) [1, 2] [0] [0, 1, 2] rfl rfl rfl rfl (by decide) rfl rfl rfl rfl rfl rfl (Nat.le_of_ble_eq_true rfl) dX6_span_60 ⟨Nat.zero_le _, Nat.zero_le _⟩ ?_
        refine a_sipush C0 (256 : Int32) dX6_span_63 (by decide) ?_
        refine a_imul C0 dX6_span_66 ?_
        refine a_iadd C0 dX6_span_67 ?_
        refine a_aload_n C0 dX6_span_68 rfl 1 rfl ?_
        refine a_get C0 inX6_span_X6 0 rfl rfl 0 (by decide) lkX6_span_10 (fun _ h9 => h9) (.ref q1) rfl dX6_span_69 ?_
        refine a_iload_n C0 dX6_span_72 rfl 2 rfl ?_
        refine a_iconst C0 (2 : Int32) dX6_span_73 (by decide) ?_
        refine a_iadd C0 dX6_span_74 ?_
        obtain ⟨r_10, h_11, h⟩ := bd1_e h
        refine a_callVi C0 (wdX6_1 cA q0 q1 q2 q3 q5 q8 q11 q16 q17 q22 f1 f2) (As := [.int (a1 + (2 : Int32))]) (rest := [.int ((3 : Int32) + (r_8 * (256 : Int32)))]) (ctX5_byteAt l D cA q1 q2 (a1 + (2 : Int32)) f1 f2 h_11) (cwV 1 C0.1.2.2.2.2 gX6_span_X5_byteAt rfl rfl rfl hdX5_byteAt ⟨Nat.le_of_ble_eq_true rfl, Nat.le_of_ble_eq_true rfl⟩) [1, 2] [0] [0, 1, 2] rfl rfl rfl rfl (by decide) rfl rfl rfl rfl rfl rfl (Nat.le_of_ble_eq_true rfl) dX6_span_75 ⟨Nat.zero_le _, Nat.zero_le _⟩ ?_
        refine a_iadd C0 dX6_span_78 ?_
        obtain rfl := Option.some.inj h
        exact a_iret C0 dX6_span_79 rfl rfl
      · have h := ie_ c_7 h
        by_cases c_12 : r_3 = (2 : Int32)
        · refine a_tableIn C0 82 dX6_span_13 (by rw [c_12]; decide) (by rw [c_12]; decide) (by rw [c_12]; rfl) (by decide) ?_
          refine a_iconst C0 (2 : Int32) dX6_span_82 (by decide) ?_
          obtain rfl := Option.some.inj h
          exact a_iret C0 dX6_span_83 rfl rfl
        by_cases c_13 : r_3 = (4 : Int32)
        · refine a_tableIn C0 82 dX6_span_13 (by rw [c_13]; decide) (by rw [c_13]; decide) (by rw [c_13]; rfl) (by decide) ?_
          refine a_iconst C0 (2 : Int32) dX6_span_82 (by decide) ?_
          obtain rfl := Option.some.inj h
          exact a_iret C0 dX6_span_83 rfl rfl
        have hsw : r_3.toInt < 1 ∨ 5 < r_3.toInt := by
          have := sw_ne c_5 (k := 1) (by decide)
          have := sw_ne c_12 (k := 2) (by decide)
          have := sw_ne c_6 (k := 3) (by decide)
          have := sw_ne c_13 (k := 4) (by decide)
          have := sw_ne c_7 (k := 5) (by decide)
          omega
        refine a_tableOut C0 82 dX6_span_13 hsw (by decide) ?_
        refine a_iconst C0 (2 : Int32) dX6_span_82 (by decide) ?_
        obtain rfl := Option.some.inj h
        exact a_iret C0 dX6_span_83 rfl rfl
set_option maxRecDepth 100000 in
theorem ctX6_span (l : Launch) (D : va_G) (cA : ClassId) (q0 q1 q2 q3 q5 q8 q11 q16 q17 q22 : Nat) (a1 : Int32) (f1 : Nat → Int32) (f2 : Nat → Int32) {res : Int32} (h : pX6_span a1 f1 f2 = some res) : Cti l yX6_span wsX6_span (rmX6_span) D vwCl [(cA, .int)] [.ref q0, .int a1] (wdX6_1 cA q0 q1 q2 q3 q5 q8 q11 q16 q17 q22 f1 f2) (wdX6_1 cA q0 q1 q2 q3 q5 q8 q11 q16 q17 q22 f1 f2) 0 0 res :=
  ct_i (maxL := 3) (cc := cX6_span) (by decide) rfl (Nat.le_of_ble_eq_true rfl) (fun p e s m below meth c C0 => bwX6_span C0 a1 f1 f2 h)
/-! PackDrawer.leastPlace -/
theorem hdX6_span : yX6_span.cls = RX6 ∧ yX6_span.cls ≠ "java/lang/invoke/MethodHandle" ∧ yX6_span.cls ≠ "java/lang/invoke/VarHandle" ∧ (parseMethodDescriptor yX6_span.desc).map (fun d => d.parameters.length) = some 1 := by decide +kernel
abbrev rmX6_leastPlace : Room := { frames := 3, cells := 0, slots := 0, locals := 64 }
theorem lkX6_leastPlace_10 : Cond.fieldLink RX6 10 RX6 (TX6 0).2.1 (TX6 0).2.2.1 ∈ wsX6_leastPlace := by decide +kernel
theorem inX6_leastPlace_X6 : ∀ w ∈ u_ws RX6 TX6 8, w ∈ wsX6_leastPlace := by decide +kernel
def bFX6_leastPlace_4 (N : Nat) (a1 : Int32) (f1 : Nat → Int32) (f2 : Nat → Int32) (rc4 : Int32 → Int32 → Option (Int32)) (v2 : Int32) (v3 : Int32) : Option (Int32) := if (160 : Int32) ≤ v3 then some (-1 : Int32) else bd1 (pX5_has v2 f1) (fun r_2 => if r_2 = 0 then some (-1 : Int32) else bd1 (pX5_byteAt v2 f1 f2) (fun r_5 => bd1 (pX6_sortOf r_5) (fun r_7 => if r_7 = a1 then some v2 else bd1 (pX6_span v2 f1 f2) (fun r_10 => lt_ ((v2 + r_10)) (fun x_12 => lt_ ((v3 + (1 : Int32))) (fun x_13 => rc4 x_12 x_13))))))
def bfX6_leastPlace_4 (N : Nat) (a1 : Int32) (f1 : Nat → Int32) (f2 : Nat → Int32) : Nat → Int32 → Int32 → Option (Int32)
  | 0 => fun _ _ => none
  | n + 1 => bFX6_leastPlace_4 N a1 f1 f2  (bfX6_leastPlace_4 N a1 f1 f2  n)
def pX6_leastPlace (N : Nat) (a1 : Int32) (f1 : Nat → Int32) (f2 : Nat → Int32) : Option (Int32) := bfX6_leastPlace_4 N a1 f1 f2 N (0 : Int32) (0 : Int32)
set_option maxHeartbeats 4000000 in
set_option maxRecDepth 100000 in
theorem bwX6_leastPlace_4 {p : Program} {l : Launch} {e : Env} {s : State} {m : MethodId} {args : Array Value} {below : List Frame} {meth : Method} {c : Code} {D : va_G} {A : Nat → Prop} {cA : ClassId} {q0 q1 q2 q3 q5 q8 q11 q16 q17 q22 : Nat} {res : Int32} (C0 : cx p s m args meth c cX6_leastPlace 4 RX6 wsX6_leastPlace (some .int) D vwCl [(cA, .int)] A) (N : Nat) (a1 : Int32) (f1 : Nat → Int32) (f2 : Nat → Int32) : ∀ (n : Nat) (v2 : Int32) (v3 : Int32), bfX6_leastPlace_4 N a1 f1 f2  n v2 v3 = some res → At_ p l e (rmX6_leastPlace) s m args below meth c D vwCl A 4 0 0 (Qi_ below args s D vwCl A (wdX6_1 cA q0 q1 q2 q3 q5 q8 q11 q16 q17 q22 f1 f2) res) 4 [(0, .ref q0), (1, .int a1), (2, .int v2), (3, .int v3)] [] (wdX6_1 cA q0 q1 q2 q3 q5 q8 q11 q16 q17 q22 f1 f2) := by
  intro n
  induction n with
  | zero => intro v2 v3 h; cases h
  | succ n hrc4 =>
    intro v2 v3 h
    replace h : bFX6_leastPlace_4 N a1 f1 f2  (bfX6_leastPlace_4 N a1 f1 f2  n) v2 v3 = some res := h
    generalize bfX6_leastPlace_4 N a1 f1 f2  n = rc4 at h hrc4
    unfold bFX6_leastPlace_4 at h
    refine a_iload_n C0 dX6_leastPlace_4 rfl 3 rfl ?_
    refine a_sipush C0 (160 : Int32) dX6_leastPlace_5 (by decide) ?_
    refine a_icmp_ge C0 53 dX6_leastPlace_8 (by decide) (fun c_1 => ?_) (fun c_1 => ?_)
    · have h := it_ c_1 h
      refine a_iconst C0 (-1 : Int32) dX6_leastPlace_53 (by decide) ?_
      obtain rfl := Option.some.inj h
      exact a_iret C0 dX6_leastPlace_54 rfl rfl
    · have h := ie_ c_1 h
      refine a_aload_n C0 dX6_leastPlace_11 rfl 0 rfl ?_
      refine a_get C0 inX6_leastPlace_X6 0 rfl rfl 0 (by decide) lkX6_leastPlace_10 (fun _ h9 => h9) (.ref q1) rfl dX6_leastPlace_12 ?_
      refine a_iload_n C0 dX6_leastPlace_15 rfl 2 rfl ?_
      obtain ⟨r_2, h_3, h⟩ := bd1_e h
      refine a_callVi C0 (wdX6_1 cA q0 q1 q2 q3 q5 q8 q11 q16 q17 q22 f1 f2) (As := [.int v2]) (rest := []) (ctX5_has l D cA q1 q2 v2 f1 h_3) (cwV 1 C0.1.2.2.2.2 gX6_leastPlace_X5_has rfl rfl rfl hdX5_has ⟨Nat.le_of_ble_eq_true rfl, Nat.le_of_ble_eq_true rfl⟩) [1] [0, 2] [0, 2, 1] rfl rfl rfl rfl (by decide) rfl rfl rfl rfl rfl rfl (Nat.le_of_ble_eq_true rfl) dX6_leastPlace_16 ⟨Nat.zero_le _, Nat.zero_le _⟩ ?_
      refine a_if_eq C0 53 dX6_leastPlace_19 (by decide) (fun c_4 => ?_) (fun c_4 => ?_)
      · have h := it_ c_4 h
        refine a_iconst C0 (-1 : Int32) dX6_leastPlace_53 (by decide) ?_
        obtain rfl := Option.some.inj h
        exact a_iret C0 dX6_leastPlace_54 rfl rfl
      · have h := ie_ c_4 h
        refine a_aload_n C0 dX6_leastPlace_22 rfl 0 rfl ?_
        refine a_get C0 inX6_leastPlace_X6 0 rfl rfl 0 (by decide) lkX6_leastPlace_10 (fun _ h9 => h9) (.ref q1) rfl dX6_leastPlace_23 ?_
        refine a_iload_n C0 dX6_leastPlace_26 rfl 2 rfl ?_
        obtain ⟨r_5, h_6, h⟩ := bd1_e h
        refine a_callVi C0 (wdX6_1 cA q0 q1 q2 q3 q5 q8 q11 q16 q17 q22 f1 f2) (As := [.int v2]) (rest := []) (ctX5_byteAt l D cA q1 q2 v2 f1 f2 h_6) (cwV 1 C0.1.2.2.2.2 gX6_leastPlace_X5_byteAt rfl rfl rfl hdX5_byteAt ⟨Nat.le_of_ble_eq_true rfl, Nat.le_of_ble_eq_true rfl⟩) [1, 2] [0] [0, 1, 2] rfl rfl rfl rfl (by decide) rfl rfl rfl rfl rfl rfl (Nat.le_of_ble_eq_true rfl) dX6_leastPlace_27 ⟨Nat.zero_le _, Nat.zero_le _⟩ ?_
        obtain ⟨r_7, h_8, h⟩ := bd1_e h
        refine a_callSi C0 (wdX6_1 cA q0 q1 q2 q3 q5 q8 q11 q16 q17 q22 f1 f2) (As := [.int r_5]) (rest := []) (ctX6_sortOf l D cA r_5 h_8) (cwS 1 C0.1.2.2.2.2 gX6_leastPlace_X6_sortOf rfl rfl rfl hdX6_sortOf ⟨Nat.le_of_ble_eq_true rfl, Nat.le_of_ble_eq_true rfl⟩) [] [0, 1, 2] [0, 1, 2] rfl rfl rfl rfl (by decide) rfl rfl rfl rfl (Nat.le_of_ble_eq_true rfl) dX6_leastPlace_30 ⟨Nat.zero_le _, Nat.zero_le _⟩ ?_
        refine a_iload_n C0 dX6_leastPlace_33 rfl 1 rfl ?_
        refine a_icmp_ne C0 39 dX6_leastPlace_34 (by decide) (fun c_9 => ?_) (fun c_9 => ?_)
        · have h := ie_ c_9 h
          refine a_iload_n C0 dX6_leastPlace_39 rfl 2 rfl ?_
          refine a_aload_n C0 dX6_leastPlace_40 rfl 0 rfl ?_
          refine a_iload_n C0 dX6_leastPlace_41 rfl 2 rfl ?_
          obtain ⟨r_10, h_11, h⟩ := bd1_e h
          refine a_callVi C0 (wdX6_1 cA q0 q1 q2 q3 q5 q8 q11 q16 q17 q22 f1 f2) (As := [.int v2]) (rest := [.int v2]) (ctX6_span l D cA q0 q1 q2 q3 q5 q8 q11 q16 q17 q22 v2 f1 f2 h_11) (cwV 1 C0.1.2.2.2.2 gX6_leastPlace_X6_span rfl rfl rfl hdX6_span ⟨Nat.le_of_ble_eq_true rfl, Nat.le_of_ble_eq_true rfl⟩) [0, 1, 2] [] [0, 1, 2] rfl rfl rfl rfl (by decide) rfl rfl rfl rfl rfl rfl (Nat.le_of_ble_eq_true rfl) dX6_leastPlace_42 ⟨Nat.zero_le _, Nat.zero_le _⟩ ?_
          refine a_iadd C0 dX6_leastPlace_45 ?_
          obtain ⟨x_12, ex_12, h⟩ := lt_e h
          refine a_topi ex_12 ?_
          refine a_istore_n C0 [(2, .int x_12), (0, .ref q0), (1, .int a1), (3, .int v3)] dX6_leastPlace_46 rfl (by decide) rfl ?_
          obtain ⟨x_13, ex_13, h⟩ := lt_e h
          refine a_iinc C0 x_13 [(3, .int x_13), (2, .int x_12), (0, .ref q0), (1, .int a1)] dX6_leastPlace_47 3 rfl (by subst ex_13; rfl) (by decide) rfl ?_
          refine a_goto C0 4 dX6_leastPlace_50 (by decide) ?_
          refine a_lv [2, 3, 1, 0] (lv' := [(0, .ref q0), (1, .int a1), (2, .int x_12), (3, .int x_13)]) rfl ?_
          exact hrc4 x_12 x_13 h
        · have h := it_ c_9 h
          refine a_iload_n C0 dX6_leastPlace_37 rfl 2 rfl ?_
          obtain rfl := Option.some.inj h
          exact a_iret C0 dX6_leastPlace_38 rfl rfl
set_option maxHeartbeats 4000000 in
set_option maxRecDepth 100000 in
theorem bwX6_leastPlace {p : Program} {l : Launch} {e : Env} {s : State} {m : MethodId} {args : Array Value} {below : List Frame} {meth : Method} {c : Code} {D : va_G} {A : Nat → Prop} {cA : ClassId} {q0 q1 q2 q3 q5 q8 q11 q16 q17 q22 : Nat} {res : Int32} (C0 : cx p s m args meth c cX6_leastPlace 4 RX6 wsX6_leastPlace (some .int) D vwCl [(cA, .int)] A) (N : Nat) (a1 : Int32) (f1 : Nat → Int32) (f2 : Nat → Int32) (h : pX6_leastPlace N a1 f1 f2 = some res) : At_ p l e (rmX6_leastPlace) s m args below meth c D vwCl A 4 0 0 (Qi_ below args s D vwCl A (wdX6_1 cA q0 q1 q2 q3 q5 q8 q11 q16 q17 q22 f1 f2) res) 0 [(0, .ref q0), (1, .int a1)] [] (wdX6_1 cA q0 q1 q2 q3 q5 q8 q11 q16 q17 q22 f1 f2) := by
  unfold pX6_leastPlace at h
  refine a_iconst C0 (0 : Int32) dX6_leastPlace_0 (by decide) ?_
  refine a_istore_n C0 [(2, .int (0 : Int32)), (0, .ref q0), (1, .int a1)] dX6_leastPlace_1 rfl (by decide) rfl ?_
  refine a_iconst C0 (0 : Int32) dX6_leastPlace_2 (by decide) ?_
  refine a_istore_n C0 [(3, .int (0 : Int32)), (2, .int (0 : Int32)), (0, .ref q0), (1, .int a1)] dX6_leastPlace_3 rfl (by decide) rfl ?_
  refine a_lv [2, 3, 1, 0] (lv' := [(0, .ref q0), (1, .int a1), (2, .int (0 : Int32)), (3, .int (0 : Int32))]) rfl ?_
  exact bwX6_leastPlace_4 C0 N a1 f1 f2 N (0 : Int32) (0 : Int32) h
set_option maxRecDepth 100000 in
theorem ctX6_leastPlace (l : Launch) (D : va_G) (cA : ClassId) (q0 q1 q2 q3 q5 q8 q11 q16 q17 q22 : Nat) (N : Nat) (a1 : Int32) (f1 : Nat → Int32) (f2 : Nat → Int32) {res : Int32} (h : pX6_leastPlace N a1 f1 f2 = some res) : Cti l yX6_leastPlace wsX6_leastPlace (rmX6_leastPlace) D vwCl [(cA, .int)] [.ref q0, .int a1] (wdX6_1 cA q0 q1 q2 q3 q5 q8 q11 q16 q17 q22 f1 f2) (wdX6_1 cA q0 q1 q2 q3 q5 q8 q11 q16 q17 q22 f1 f2) 0 0 res :=
  ct_i (maxL := 4) (cc := cX6_leastPlace) (by decide) rfl (Nat.le_of_ble_eq_true rfl) (fun p e s m below meth c C0 => bwX6_leastPlace C0 N a1 f1 f2 h)
/-! PackDrawer.plantInItem -/
theorem hdX6_leastPlace : yX6_leastPlace.cls = RX6 ∧ yX6_leastPlace.cls ≠ "java/lang/invoke/MethodHandle" ∧ yX6_leastPlace.cls ≠ "java/lang/invoke/VarHandle" ∧ (parseMethodDescriptor yX6_leastPlace.desc).map (fun d => d.parameters.length) = some 1 := by decide +kernel
abbrev rmX6_plantInItem : Room := { frames := 4, cells := 0, slots := 0, locals := 87 }
theorem lkX6_plantInItem_10 : Cond.fieldLink RX6 10 RX6 (TX6 0).2.1 (TX6 0).2.2.1 ∈ wsX6_plantInItem := by decide +kernel
theorem inX6_plantInItem_X6 : ∀ w ∈ u_ws RX6 TX6 8, w ∈ wsX6_plantInItem := by decide +kernel
def bfX6_plantInItem_68 (N : Nat) (a1 : Int32) (a2 : Int32) (f1 : Nat → Int32) (s1 : Int32) (s2 : Int32) (f2 : Nat → Int32) : Option (Int32 × (Nat → Int32)) := bd1 (pX5_change s1 s2 f1 f2) (fun f2_1 => some ((1 : Int32), f2_1))
def pX6_plantInItem (N : Nat) (a1 : Int32) (a2 : Int32) (f1 : Nat → Int32) (f2 : Nat → Int32) : Option (Int32 × (Nat → Int32)) := bd1 (pX6_leastPlace N a1 f1 f2) (fun r_3 => if r_3 = (-1 : Int32) then some ((0 : Int32), f2) else lt_ ((r_3 + (1 : Int32))) (fun x_6 => if a2 = (2 : Int32) then bd1 (pX5_byteAt x_6 f1 f2) (fun r_9 => bd1 (pX5_change x_6 ((r_9 + (1 : Int32)) &&& (255 : Int32)) f1 f2) (fun f2_11 => some ((1 : Int32), f2_11))) else if a2 = (3 : Int32) then bfX6_plantInItem_68 N a1 a2 f1 x_6 (255 : Int32) f2 else bfX6_plantInItem_68 N a1 a2 f1 x_6 (0 : Int32) f2))
set_option maxHeartbeats 4000000 in
set_option maxRecDepth 100000 in
theorem bwX6_plantInItem_68 {p : Program} {l : Launch} {e : Env} {s : State} {m : MethodId} {args : Array Value} {below : List Frame} {meth : Method} {c : Code} {D : va_G} {A : Nat → Prop} {cA : ClassId} {q0 q1 q2 q3 q5 q8 q11 q16 q17 q22 : Nat} {res : Int32 × (Nat → Int32)} (C0 : cx p s m args meth c cX6_plantInItem 5 RX6 wsX6_plantInItem (some .boolean) D vwCl [(cA, .int)] A) (N : Nat) (a1 : Int32) (a2 : Int32) (f1 : Nat → Int32) (s1 : Int32) (s2 : Int32) (f2 : Nat → Int32) (h : bfX6_plantInItem_68 N a1 a2 f1  s1 s2 f2 = some res) : At_ p l e (rmX6_plantInItem) s m args below meth c D vwCl A 5 0 0 (Qi_ below args s D vwCl A (wdX6_1 cA q0 q1 q2 q3 q5 q8 q11 q16 q17 q22 f1 res.2) res.1) 68 [(0, .ref q0), (1, .int a1), (2, .int a2)] [.int s2, .int s1, .ref q1] (wdX6_1 cA q0 q1 q2 q3 q5 q8 q11 q16 q17 q22 f1 f2) := by
  unfold bfX6_plantInItem_68 at h
  obtain ⟨f2_1, h_2, h⟩ := bd1_e h
  refine a_callVv C0 (wdX6_1 cA q0 q1 q2 q3 q5 q8 q11 q16 q17 q22 f1 f2_1) (As := [.int s1, .int s2]) (rest := []) (ctX5_change l D cA q1 q2 s1 s2 f1 f2 h_2) (cwV 2 C0.1.2.2.2.2 gX6_plantInItem_X5_change rfl rfl rfl hdX5_change ⟨Nat.le_of_ble_eq_true rfl, Nat.le_of_ble_eq_true rfl⟩) [1, 2] [0] [0, 1, 2] rfl rfl rfl rfl (by decide) rfl rfl rfl rfl rfl rfl (Nat.le_of_ble_eq_true rfl) dX6_plantInItem_68 ⟨Nat.zero_le _, Nat.zero_le _⟩ ?_
  refine a_iconst C0 (1 : Int32) dX6_plantInItem_71 (by decide) ?_
  obtain rfl := Option.some.inj h
  exact a_zret C0 dX6_plantInItem_72 rfl rfl rfl
set_option maxHeartbeats 4000000 in
set_option maxRecDepth 100000 in
theorem bwX6_plantInItem {p : Program} {l : Launch} {e : Env} {s : State} {m : MethodId} {args : Array Value} {below : List Frame} {meth : Method} {c : Code} {D : va_G} {A : Nat → Prop} {cA : ClassId} {q0 q1 q2 q3 q5 q8 q11 q16 q17 q22 : Nat} {res : Int32 × (Nat → Int32)} (C0 : cx p s m args meth c cX6_plantInItem 5 RX6 wsX6_plantInItem (some .boolean) D vwCl [(cA, .int)] A) (N : Nat) (a1 : Int32) (a2 : Int32) (f1 : Nat → Int32) (f2 : Nat → Int32) (h : pX6_plantInItem N a1 a2 f1 f2 = some res) : At_ p l e (rmX6_plantInItem) s m args below meth c D vwCl A 5 0 0 (Qi_ below args s D vwCl A (wdX6_1 cA q0 q1 q2 q3 q5 q8 q11 q16 q17 q22 f1 res.2) res.1) 0 [(0, .ref q0), (1, .int a1), (2, .int a2)] [] (wdX6_1 cA q0 q1 q2 q3 q5 q8 q11 q16 q17 q22 f1 f2) := by
  unfold pX6_plantInItem at h
  refine a_aload_n C0 dX6_plantInItem_0 rfl 0 rfl ?_
  refine a_iload_n C0 dX6_plantInItem_1 rfl 1 rfl ?_
  obtain ⟨r_3, h_4, h⟩ := bd1_e h
  refine a_callVi C0 (wdX6_1 cA q0 q1 q2 q3 q5 q8 q11 q16 q17 q22 f1 f2) (As := [.int a1]) (rest := []) (ctX6_leastPlace l D cA q0 q1 q2 q3 q5 q8 q11 q16 q17 q22 N a1 f1 f2 h_4) (cwV 1 C0.1.2.2.2.2 gX6_plantInItem_X6_leastPlace rfl rfl rfl hdX6_leastPlace ⟨Nat.le_of_ble_eq_true rfl, Nat.le_of_ble_eq_true rfl⟩) [0, 1, 2] [] [0, 1, 2] rfl rfl rfl rfl (by decide) rfl rfl rfl rfl rfl rfl (Nat.le_of_ble_eq_true rfl) dX6_plantInItem_2 ⟨Nat.zero_le _, Nat.zero_le _⟩ ?_
  refine a_istore_n C0 [(3, .int r_3), (0, .ref q0), (1, .int a1), (2, .int a2)] dX6_plantInItem_5 rfl (by decide) rfl ?_
  refine a_iload_n C0 dX6_plantInItem_6 rfl 0 rfl ?_
  refine a_iconst C0 (-1 : Int32) dX6_plantInItem_7 (by decide) ?_
  refine a_icmp_ne C0 13 dX6_plantInItem_8 (by decide) (fun c_5 => ?_) (fun c_5 => ?_)
  · have h := ie_ c_5 h
    refine a_iload_n C0 dX6_plantInItem_13 rfl 0 rfl ?_
    refine a_iconst C0 (1 : Int32) dX6_plantInItem_14 (by decide) ?_
    refine a_iadd C0 dX6_plantInItem_15 ?_
    obtain ⟨x_6, ex_6, h⟩ := lt_e h
    refine a_topi ex_6 ?_
    refine a_istore C0 [(4, .int x_6), (3, .int r_3), (0, .ref q0), (1, .int a1), (2, .int a2)] dX6_plantInItem_16 (by decide) rfl ?_
    refine a_iload_n C0 dX6_plantInItem_18 rfl 4 rfl ?_
    refine a_iconst C0 (2 : Int32) dX6_plantInItem_19 (by decide) ?_
    refine a_icmp_ne C0 50 dX6_plantInItem_20 (by decide) (fun c_7 => ?_) (fun c_7 => ?_)
    · have h := ie_ c_7 h
      refine a_aload_n C0 dX6_plantInItem_50 rfl 2 rfl ?_
      refine a_get C0 inX6_plantInItem_X6 0 rfl rfl 0 (by decide) lkX6_plantInItem_10 (fun _ h9 => h9) (.ref q1) rfl dX6_plantInItem_51 ?_
      refine a_iload C0 dX6_plantInItem_54 0 rfl ?_
      refine a_iload_n C0 dX6_plantInItem_56 rfl 4 rfl ?_
      refine a_iconst C0 (3 : Int32) dX6_plantInItem_57 (by decide) ?_
      refine a_icmp_ne C0 67 dX6_plantInItem_58 (by decide) (fun c_8 => ?_) (fun c_8 => ?_)
      · have h := ie_ c_8 h
        refine a_iconst C0 (0 : Int32) dX6_plantInItem_67 (by decide) ?_
        refine a_lv [2, 3, 4] (lv' := [(0, .ref q0), (1, .int a1), (2, .int a2)]) rfl ?_
        exact bwX6_plantInItem_68 C0 N a1 a2 f1 x_6 (0 : Int32) f2 h
      · have h := it_ c_8 h
        refine a_sipush C0 (255 : Int32) dX6_plantInItem_61 (by decide) ?_
        refine a_goto C0 68 dX6_plantInItem_64 (by decide) ?_
        refine a_lv [2, 3, 4] (lv' := [(0, .ref q0), (1, .int a1), (2, .int a2)]) rfl ?_
        exact bwX6_plantInItem_68 C0 N a1 a2 f1 x_6 (255 : Int32) f2 h
    · have h := it_ c_7 h
      refine a_aload_n C0 dX6_plantInItem_23 rfl 2 rfl ?_
      refine a_get C0 inX6_plantInItem_X6 0 rfl rfl 0 (by decide) lkX6_plantInItem_10 (fun _ h9 => h9) (.ref q1) rfl dX6_plantInItem_24 ?_
      refine a_iload C0 dX6_plantInItem_27 0 rfl ?_
      refine a_aload_n C0 dX6_plantInItem_29 rfl 2 rfl ?_
      refine a_get C0 inX6_plantInItem_X6 0 rfl rfl 0 (by decide) lkX6_plantInItem_10 (fun _ h9 => h9) (.ref q1) rfl dX6_plantInItem_30 ?_
      refine a_iload C0 dX6_plantInItem_33 0 rfl ?_
      obtain ⟨r_9, h_10, h⟩ := bd1_e h
      refine a_callVi C0 (wdX6_1 cA q0 q1 q2 q3 q5 q8 q11 q16 q17 q22 f1 f2) (As := [.int x_6]) (rest := [.int x_6, .ref q1]) (ctX5_byteAt l D cA q1 q2 x_6 f1 f2 h_10) (cwV 1 C0.1.2.2.2.2 gX6_plantInItem_X5_byteAt rfl rfl rfl hdX5_byteAt ⟨Nat.le_of_ble_eq_true rfl, Nat.le_of_ble_eq_true rfl⟩) [1, 2] [0] [0, 1, 2] rfl rfl rfl rfl (by decide) rfl rfl rfl rfl rfl rfl (Nat.le_of_ble_eq_true rfl) dX6_plantInItem_35 ⟨Nat.zero_le _, Nat.zero_le _⟩ ?_
      refine a_iconst C0 (1 : Int32) dX6_plantInItem_38 (by decide) ?_
      refine a_iadd C0 dX6_plantInItem_39 ?_
      refine a_sipush C0 (255 : Int32) dX6_plantInItem_40 (by decide) ?_
      refine a_iand C0 dX6_plantInItem_43 ?_
      obtain ⟨f2_11, h_12, h⟩ := bd1_e h
      refine a_callVv C0 (wdX6_1 cA q0 q1 q2 q3 q5 q8 q11 q16 q17 q22 f1 f2_11) (As := [.int x_6, .int ((r_9 + (1 : Int32)) &&& (255 : Int32))]) (rest := []) (ctX5_change l D cA q1 q2 x_6 ((r_9 + (1 : Int32)) &&& (255 : Int32)) f1 f2 h_12) (cwV 2 C0.1.2.2.2.2 gX6_plantInItem_X5_change rfl rfl rfl hdX5_change ⟨Nat.le_of_ble_eq_true rfl, Nat.le_of_ble_eq_true rfl⟩) [1, 2] [0] [0, 1, 2] rfl rfl rfl rfl (by decide) rfl rfl rfl rfl rfl rfl (Nat.le_of_ble_eq_true rfl) dX6_plantInItem_44 ⟨Nat.zero_le _, Nat.zero_le _⟩ ?_
      refine a_goto C0 71 dX6_plantInItem_47 (by decide) ?_
      refine a_iconst C0 (1 : Int32) dX6_plantInItem_71 (by decide) ?_
      obtain rfl := Option.some.inj h
      exact a_zret C0 dX6_plantInItem_72 rfl rfl rfl
  · have h := it_ c_5 h
    refine a_iconst C0 (0 : Int32) dX6_plantInItem_11 (by decide) ?_
    obtain rfl := Option.some.inj h
    exact a_zret C0 dX6_plantInItem_12 rfl rfl rfl
set_option maxRecDepth 100000 in
theorem ctX6_plantInItem (l : Launch) (D : va_G) (cA : ClassId) (q0 q1 q2 q3 q5 q8 q11 q16 q17 q22 : Nat) (N : Nat) (a1 : Int32) (a2 : Int32) (f1 : Nat → Int32) (f2 : Nat → Int32) {res : Int32 × (Nat → Int32)} (h : pX6_plantInItem N a1 a2 f1 f2 = some res) : Cti l yX6_plantInItem wsX6_plantInItem (rmX6_plantInItem) D vwCl [(cA, .int)] [.ref q0, .int a1, .int a2] (wdX6_1 cA q0 q1 q2 q3 q5 q8 q11 q16 q17 q22 f1 f2) (wdX6_1 cA q0 q1 q2 q3 q5 q8 q11 q16 q17 q22 f1 res.2) 0 0 res.1 :=
  ct_i (maxL := 5) (cc := cX6_plantInItem) (by decide) rfl (Nat.le_of_ble_eq_true rfl) (fun p e s m below meth c C0 => bwX6_plantInItem C0 N a1 a2 f1 f2 h)
/-! PackDrawer.plantInSound -/
theorem hdX6_plantInItem : yX6_plantInItem.cls = RX6 ∧ yX6_plantInItem.cls ≠ "java/lang/invoke/MethodHandle" ∧ yX6_plantInItem.cls ≠ "java/lang/invoke/VarHandle" ∧ (parseMethodDescriptor yX6_plantInItem.desc).map (fun d => d.parameters.length) = some 2 := by decide +kernel
abbrev rmX6_plantInSound : Room := { frames := 5, cells := 0, slots := 0, locals := 111 }
theorem lkX6_plantInSound_10 : Cond.fieldLink RX6 10 RX6 (TX6 0).2.1 (TX6 0).2.2.1 ∈ wsX6_plantInSound := by decide +kernel
theorem inX6_plantInSound_X6 : ∀ w ∈ u_ws RX6 TX6 8, w ∈ wsX6_plantInSound := by decide +kernel
def pX6_plantInSound (N : Nat) (a1 : Int32) (f1 : Nat → Int32) (f2 : Nat → Int32) : Option (Int32 × (Nat → Int32) × (Nat → Int32)) := bd1 (pX5_count f1) (fun r_1 => lt_ ((r_1 - (1 : Int32))) (fun x_3 => if a1 = (1 : Int32) then bd1 (pX5_keep x_3 f1) (fun f1_5 => some ((1 : Int32), f1_5, f2)) else if a1 = (2 : Int32) then bd2 (pX6_plantInItem N (4 : Int32) a1 f1 f2) (fun r_8 f2_9 => gz_ (zb_ r_8) (some (r_8, f1, f2_9))) else if a1 = (3 : Int32) then bd2 (pX6_plantInItem N (2 : Int32) a1 f1 f2) (fun r_13 f2_14 => gz_ (zb_ r_13) (some (r_13, f1, f2_14))) else if a1 = (4 : Int32) then bd1 (pX5_byteAt x_3 f1 f2) (fun r_18 => bd1 (pX5_change x_3 (r_18 ^^^ (1 : Int32)) f1 f2) (fun f2_20 => some ((1 : Int32), f1, f2_20))) else if a1 = (5 : Int32) then bd2 (pX5_append (7 : Int32) f1 f2) (fun f1_23 f2_24 => some ((1 : Int32), f1_23, f2_24)) else bd2 (pX6_plantInItem N (3 : Int32) a1 f1 f2) (fun r_26 f2_27 => gz_ (zb_ r_26) (some (r_26, f1, f2_27)))))
set_option maxHeartbeats 4000000 in
set_option maxRecDepth 100000 in
theorem bwX6_plantInSound {p : Program} {l : Launch} {e : Env} {s : State} {m : MethodId} {args : Array Value} {below : List Frame} {meth : Method} {c : Code} {D : va_G} {A : Nat → Prop} {cA : ClassId} {q0 q1 q2 q3 q5 q8 q11 q16 q17 q22 : Nat} {res : Int32 × (Nat → Int32) × (Nat → Int32)} (C0 : cx p s m args meth c cX6_plantInSound 3 RX6 wsX6_plantInSound (some .boolean) D vwCl [(cA, .int)] A) (N : Nat) (a1 : Int32) (f1 : Nat → Int32) (f2 : Nat → Int32) (h : pX6_plantInSound N a1 f1 f2 = some res) : At_ p l e (rmX6_plantInSound) s m args below meth c D vwCl A 3 0 0 (Qi_ below args s D vwCl A (wdX6_1 cA q0 q1 q2 q3 q5 q8 q11 q16 q17 q22 res.2.1 res.2.2) res.1) 0 [(0, .ref q0), (1, .int a1)] [] (wdX6_1 cA q0 q1 q2 q3 q5 q8 q11 q16 q17 q22 f1 f2) := by
  unfold pX6_plantInSound at h
  refine a_aload_n C0 dX6_plantInSound_0 rfl 0 rfl ?_
  refine a_get C0 inX6_plantInSound_X6 0 rfl rfl 0 (by decide) lkX6_plantInSound_10 (fun _ h9 => h9) (.ref q1) rfl dX6_plantInSound_1 ?_
  obtain ⟨r_1, h_2, h⟩ := bd1_e h
  refine a_callVi C0 (wdX6_1 cA q0 q1 q2 q3 q5 q8 q11 q16 q17 q22 f1 f2) (As := []) (rest := []) (ctX5_count l D cA q1 q2 f1 h_2) (cwV 0 C0.1.2.2.2.2 gX6_plantInSound_X5_count rfl rfl rfl hdX5_count ⟨Nat.le_of_ble_eq_true rfl, Nat.le_of_ble_eq_true rfl⟩) [1] [0, 2] [0, 2, 1] rfl rfl rfl rfl (by decide) rfl rfl rfl rfl rfl rfl (Nat.le_of_ble_eq_true rfl) dX6_plantInSound_4 ⟨Nat.zero_le _, Nat.zero_le _⟩ ?_
  refine a_iconst C0 (1 : Int32) dX6_plantInSound_7 (by decide) ?_
  refine a_isub C0 dX6_plantInSound_8 ?_
  obtain ⟨x_3, ex_3, h⟩ := lt_e h
  refine a_topi ex_3 ?_
  refine a_istore_n C0 [(2, .int x_3), (0, .ref q0), (1, .int a1)] dX6_plantInSound_9 rfl (by decide) rfl ?_
  refine a_iload_n C0 dX6_plantInSound_10 rfl 2 rfl ?_
  by_cases c_4 : a1 = (1 : Int32)
  · have h := it_ c_4 h
    refine a_tableIn C0 44 dX6_plantInSound_11 (by rw [c_4]; decide) (by rw [c_4]; decide) (by rw [c_4]; rfl) (by decide) ?_
    refine a_aload_n C0 dX6_plantInSound_44 rfl 1 rfl ?_
    refine a_get C0 inX6_plantInSound_X6 0 rfl rfl 0 (by decide) lkX6_plantInSound_10 (fun _ h9 => h9) (.ref q1) rfl dX6_plantInSound_45 ?_
    refine a_iload_n C0 dX6_plantInSound_48 rfl 0 rfl ?_
    obtain ⟨f1_5, h_6, h⟩ := bd1_e h
    refine a_callVv C0 (wdX6_1 cA q0 q1 q2 q3 q5 q8 q11 q16 q17 q22 f1_5 f2) (As := [.int x_3]) (rest := []) (ctX5_keep l D cA q1 q2 x_3 f1 h_6) (cwV 1 C0.1.2.2.2.2 gX6_plantInSound_X5_keep rfl rfl rfl hdX5_keep ⟨Nat.le_of_ble_eq_true rfl, Nat.le_of_ble_eq_true rfl⟩) [1] [0, 2] [0, 2, 1] rfl rfl rfl rfl (by decide) rfl rfl rfl rfl rfl rfl (Nat.le_of_ble_eq_true rfl) dX6_plantInSound_49 ⟨Nat.zero_le _, Nat.zero_le _⟩ ?_
    refine a_iconst C0 (1 : Int32) dX6_plantInSound_52 (by decide) ?_
    obtain rfl := Option.some.inj h
    exact a_zret C0 dX6_plantInSound_53 rfl rfl rfl
  · have h := ie_ c_4 h
    by_cases c_7 : a1 = (2 : Int32)
    · have h := it_ c_7 h
      refine a_tableIn C0 54 dX6_plantInSound_11 (by rw [c_7]; decide) (by rw [c_7]; decide) (by rw [c_7]; rfl) (by decide) ?_
      refine a_aload_n C0 dX6_plantInSound_54 rfl 1 rfl ?_
      refine a_iconst C0 (4 : Int32) dX6_plantInSound_55 (by decide) ?_
      refine a_iload_n C0 dX6_plantInSound_56 rfl 2 rfl ?_
      obtain ⟨r_8, f2_9, h_10, h⟩ := bd2_e h
      refine a_callVi C0 (wdX6_1 cA q0 q1 q2 q3 q5 q8 q11 q16 q17 q22 f1 f2_9) (As := [.int (4 : Int32), .int a1]) (rest := []) (ctX6_plantInItem l D cA q0 q1 q2 q3 q5 q8 q11 q16 q17 q22 N (4 : Int32) a1 f1 f2 h_10) (cwV 2 C0.1.2.2.2.2 gX6_plantInSound_X6_plantInItem rfl rfl rfl hdX6_plantInItem ⟨Nat.le_of_ble_eq_true rfl, Nat.le_of_ble_eq_true rfl⟩) [0, 1, 2] [] [0, 1, 2] rfl rfl rfl rfl (by decide) rfl rfl rfl rfl rfl rfl (Nat.le_of_ble_eq_true rfl) dX6_plantInSound_57 ⟨Nat.zero_le _, Nat.zero_le _⟩ ?_
      obtain ⟨g_11, h⟩ := gz_e h
      obtain rfl := Option.some.inj h
      exact a_zret C0 dX6_plantInSound_60 (zb_e g_11) rfl rfl
    · have h := ie_ c_7 h
      by_cases c_12 : a1 = (3 : Int32)
      · have h := it_ c_12 h
        refine a_tableIn C0 61 dX6_plantInSound_11 (by rw [c_12]; decide) (by rw [c_12]; decide) (by rw [c_12]; rfl) (by decide) ?_
        refine a_aload_n C0 dX6_plantInSound_61 rfl 1 rfl ?_
        refine a_iconst C0 (2 : Int32) dX6_plantInSound_62 (by decide) ?_
        refine a_iload_n C0 dX6_plantInSound_63 rfl 2 rfl ?_
        obtain ⟨r_13, f2_14, h_15, h⟩ := bd2_e h
        refine a_callVi C0 (wdX6_1 cA q0 q1 q2 q3 q5 q8 q11 q16 q17 q22 f1 f2_14) (As := [.int (2 : Int32), .int a1]) (rest := []) (ctX6_plantInItem l D cA q0 q1 q2 q3 q5 q8 q11 q16 q17 q22 N (2 : Int32) a1 f1 f2 h_15) (cwV 2 C0.1.2.2.2.2 gX6_plantInSound_X6_plantInItem rfl rfl rfl hdX6_plantInItem ⟨Nat.le_of_ble_eq_true rfl, Nat.le_of_ble_eq_true rfl⟩) [0, 1, 2] [] [0, 1, 2] rfl rfl rfl rfl (by decide) rfl rfl rfl rfl rfl rfl (Nat.le_of_ble_eq_true rfl) dX6_plantInSound_64 ⟨Nat.zero_le _, Nat.zero_le _⟩ ?_
        obtain ⟨g_16, h⟩ := gz_e h
        obtain rfl := Option.some.inj h
        exact a_zret C0 dX6_plantInSound_67 (zb_e g_16) rfl rfl
      · have h := ie_ c_12 h
        by_cases c_17 : a1 = (4 : Int32)
        · have h := it_ c_17 h
          refine a_tableIn C0 68 dX6_plantInSound_11 (by rw [c_17]; decide) (by rw [c_17]; decide) (by rw [c_17]; rfl) (by decide) ?_
          refine a_aload_n C0 dX6_plantInSound_68 rfl 1 rfl ?_
          refine a_get C0 inX6_plantInSound_X6 0 rfl rfl 0 (by decide) lkX6_plantInSound_10 (fun _ h9 => h9) (.ref q1) rfl dX6_plantInSound_69 ?_
          refine a_iload_n C0 dX6_plantInSound_72 rfl 0 rfl ?_
          refine a_aload_n C0 dX6_plantInSound_73 rfl 1 rfl ?_
          refine a_get C0 inX6_plantInSound_X6 0 rfl rfl 0 (by decide) lkX6_plantInSound_10 (fun _ h9 => h9) (.ref q1) rfl dX6_plantInSound_74 ?_
          refine a_iload_n C0 dX6_plantInSound_77 rfl 0 rfl ?_
          obtain ⟨r_18, h_19, h⟩ := bd1_e h
          refine a_callVi C0 (wdX6_1 cA q0 q1 q2 q3 q5 q8 q11 q16 q17 q22 f1 f2) (As := [.int x_3]) (rest := [.int x_3, .ref q1]) (ctX5_byteAt l D cA q1 q2 x_3 f1 f2 h_19) (cwV 1 C0.1.2.2.2.2 gX6_plantInSound_X5_byteAt rfl rfl rfl hdX5_byteAt ⟨Nat.le_of_ble_eq_true rfl, Nat.le_of_ble_eq_true rfl⟩) [1, 2] [0] [0, 1, 2] rfl rfl rfl rfl (by decide) rfl rfl rfl rfl rfl rfl (Nat.le_of_ble_eq_true rfl) dX6_plantInSound_78 ⟨Nat.zero_le _, Nat.zero_le _⟩ ?_
          refine a_iconst C0 (1 : Int32) dX6_plantInSound_81 (by decide) ?_
          refine a_ixor C0 dX6_plantInSound_82 ?_
          obtain ⟨f2_20, h_21, h⟩ := bd1_e h
          refine a_callVv C0 (wdX6_1 cA q0 q1 q2 q3 q5 q8 q11 q16 q17 q22 f1 f2_20) (As := [.int x_3, .int (r_18 ^^^ (1 : Int32))]) (rest := []) (ctX5_change l D cA q1 q2 x_3 (r_18 ^^^ (1 : Int32)) f1 f2 h_21) (cwV 2 C0.1.2.2.2.2 gX6_plantInSound_X5_change rfl rfl rfl hdX5_change ⟨Nat.le_of_ble_eq_true rfl, Nat.le_of_ble_eq_true rfl⟩) [1, 2] [0] [0, 1, 2] rfl rfl rfl rfl (by decide) rfl rfl rfl rfl rfl rfl (Nat.le_of_ble_eq_true rfl) dX6_plantInSound_83 ⟨Nat.zero_le _, Nat.zero_le _⟩ ?_
          refine a_iconst C0 (1 : Int32) dX6_plantInSound_86 (by decide) ?_
          obtain rfl := Option.some.inj h
          exact a_zret C0 dX6_plantInSound_87 rfl rfl rfl
        · have h := ie_ c_17 h
          by_cases c_22 : a1 = (5 : Int32)
          · have h := it_ c_22 h
            refine a_tableIn C0 88 dX6_plantInSound_11 (by rw [c_22]; decide) (by rw [c_22]; decide) (by rw [c_22]; rfl) (by decide) ?_
            refine a_aload_n C0 dX6_plantInSound_88 rfl 1 rfl ?_
            refine a_get C0 inX6_plantInSound_X6 0 rfl rfl 0 (by decide) lkX6_plantInSound_10 (fun _ h9 => h9) (.ref q1) rfl dX6_plantInSound_89 ?_
            refine a_bipush C0 (7 : Int32) dX6_plantInSound_92 (by decide) ?_
            obtain ⟨f1_23, f2_24, h_25, h⟩ := bd2_e h
            refine a_callVv C0 (wdX6_1 cA q0 q1 q2 q3 q5 q8 q11 q16 q17 q22 f1_23 f2_24) (As := [.int (7 : Int32)]) (rest := []) (ctX5_append l D cA q1 q2 (7 : Int32) f1 f2 h_25) (cwV 1 C0.1.2.2.2.2 gX6_plantInSound_X5_append rfl rfl rfl hdX5_append ⟨Nat.le_of_ble_eq_true rfl, Nat.le_of_ble_eq_true rfl⟩) [1, 2] [0] [0, 1, 2] rfl rfl rfl rfl (by decide) rfl rfl rfl rfl rfl rfl (Nat.le_of_ble_eq_true rfl) dX6_plantInSound_94 ⟨Nat.zero_le _, Nat.zero_le _⟩ ?_
            refine a_iconst C0 (1 : Int32) dX6_plantInSound_97 (by decide) ?_
            obtain rfl := Option.some.inj h
            exact a_zret C0 dX6_plantInSound_98 rfl rfl rfl
          · have h := ie_ c_22 h
            have hsw : a1.toInt < 1 ∨ 5 < a1.toInt := by
              have := sw_ne c_4 (k := 1) (by decide)
              have := sw_ne c_7 (k := 2) (by decide)
              have := sw_ne c_12 (k := 3) (by decide)
              have := sw_ne c_17 (k := 4) (by decide)
              have := sw_ne c_22 (k := 5) (by decide)
              omega
            refine a_tableOut C0 99 dX6_plantInSound_11 hsw (by decide) ?_
            refine a_aload_n C0 dX6_plantInSound_99 rfl 1 rfl ?_
            refine a_iconst C0 (3 : Int32) dX6_plantInSound_100 (by decide) ?_
            refine a_iload_n C0 dX6_plantInSound_101 rfl 2 rfl ?_
            obtain ⟨r_26, f2_27, h_28, h⟩ := bd2_e h
            refine a_callVi C0 (wdX6_1 cA q0 q1 q2 q3 q5 q8 q11 q16 q17 q22 f1 f2_27) (As := [.int (3 : Int32), .int a1]) (rest := []) (ctX6_plantInItem l D cA q0 q1 q2 q3 q5 q8 q11 q16 q17 q22 N (3 : Int32) a1 f1 f2 h_28) (cwV 2 C0.1.2.2.2.2 gX6_plantInSound_X6_plantInItem rfl rfl rfl hdX6_plantInItem ⟨Nat.le_of_ble_eq_true rfl, Nat.le_of_ble_eq_true rfl⟩) [0, 1, 2] [] [0, 1, 2] rfl rfl rfl rfl (by decide) rfl rfl rfl rfl rfl rfl (Nat.le_of_ble_eq_true rfl) dX6_plantInSound_102 ⟨Nat.zero_le _, Nat.zero_le _⟩ ?_
            obtain ⟨g_29, h⟩ := gz_e h
            obtain rfl := Option.some.inj h
            exact a_zret C0 dX6_plantInSound_105 (zb_e g_29) rfl rfl
set_option maxRecDepth 100000 in
theorem ctX6_plantInSound (l : Launch) (D : va_G) (cA : ClassId) (q0 q1 q2 q3 q5 q8 q11 q16 q17 q22 : Nat) (N : Nat) (a1 : Int32) (f1 : Nat → Int32) (f2 : Nat → Int32) {res : Int32 × (Nat → Int32) × (Nat → Int32)} (h : pX6_plantInSound N a1 f1 f2 = some res) : Cti l yX6_plantInSound wsX6_plantInSound (rmX6_plantInSound) D vwCl [(cA, .int)] [.ref q0, .int a1] (wdX6_1 cA q0 q1 q2 q3 q5 q8 q11 q16 q17 q22 f1 f2) (wdX6_1 cA q0 q1 q2 q3 q5 q8 q11 q16 q17 q22 res.2.1 res.2.2) 0 0 res.1 :=
  ct_i (maxL := 3) (cc := cX6_plantInSound) (by decide) rfl (Nat.le_of_ble_eq_true rfl) (fun p e s m below meth c C0 => bwX6_plantInSound C0 N a1 f1 f2 h)
/-! PackDrawer.plant -/
theorem hdX6_greatestVerdict : yX6_greatestVerdict.cls = RX6 ∧ yX6_greatestVerdict.cls ≠ "java/lang/invoke/MethodHandle" ∧ yX6_greatestVerdict.cls ≠ "java/lang/invoke/VarHandle" ∧ (parseMethodDescriptor yX6_greatestVerdict.desc).map (fun d => d.parameters.length) = some 0 := by decide +kernel
theorem hdX6_plantInSound : yX6_plantInSound.cls = RX6 ∧ yX6_plantInSound.cls ≠ "java/lang/invoke/MethodHandle" ∧ yX6_plantInSound.cls ≠ "java/lang/invoke/VarHandle" ∧ (parseMethodDescriptor yX6_plantInSound.desc).map (fun d => d.parameters.length) = some 1 := by decide +kernel
abbrev rmX6_plant : Room := { frames := 7, cells := 0, slots := 0, locals := 157 }
theorem lkX6_plant_10 : Cond.fieldLink RX6 10 RX6 (TX6 0).2.1 (TX6 0).2.2.1 ∈ wsX6_plant := by decide +kernel
theorem inX6_plant_X6 : ∀ w ∈ u_ws RX6 TX6 8, w ∈ wsX6_plant := by decide +kernel
def bfX6_plant_38 (N : Nat) (a1 : Int32) (f1 : Nat → Int32) (f2 : Nat → Int32) (f3 : Nat → Int32) (f4 : Nat → Int32) (f8 : Nat → Int32) (f9 : Nat → Int32) (f10 : Nat → Int32) (f17 : Nat → Int32) (f18 : Nat → Int32) (f19 : Nat → Int32) (f20 : Nat → Int32) (f21 : Nat → Int32) : Option (Int32 × (Nat → Int32) × (Nat → Int32) × (Nat → Int32) × (Nat → Int32) × (Nat → Int32) × (Nat → Int32) × (Nat → Int32) × (Nat → Int32) × (Nat → Int32) × (Nat → Int32) × (Nat → Int32) × (Nat → Int32)) := bd11 (pX6_greatestVerdict N f1 f2 f3 f4 f8 f9 f10 f17 f18 f19 f20 f21) (fun r_1 f3_2 f4_3 f8_4 f9_5 f10_6 f17_7 f18_8 f19_9 f20_10 f21_11 => if r_1 = 0 then bd3 (pX6_plantInSound N a1 f1 f2) (fun r_14 f1_15 f2_16 => if r_14 = 0 then some ((-4 : Int32), f1_15, f2_16, f3_2, f4_3, f8_4, f9_5, f10_6, f17_7, f18_8, f19_9, f20_10, f21_11) else bd11 (pX6_greatestVerdict N f1_15 f2_16 f3_2 f4_3 f8_4 f9_5 f10_6 f17_7 f18_8 f19_9 f20_10 f21_11) (fun r_19 f3_20 f4_21 f8_22 f9_23 f10_24 f17_25 f18_26 f19_27 f20_28 f21_29 => some (r_19, f1_15, f2_16, f3_20, f4_21, f8_22, f9_23, f10_24, f17_25, f18_26, f19_27, f20_28, f21_29))) else some ((-4 : Int32), f1, f2, f3_2, f4_3, f8_4, f9_5, f10_6, f17_7, f18_8, f19_9, f20_10, f21_11))
def pX6_plant (N : Nat) (a1 : Int32) (f1 : Nat → Int32) (f2 : Nat → Int32) (f3 : Nat → Int32) (f4 : Nat → Int32) (f8 : Nat → Int32) (f9 : Nat → Int32) (f10 : Nat → Int32) (f17 : Nat → Int32) (f18 : Nat → Int32) (f19 : Nat → Int32) (f20 : Nat → Int32) (f21 : Nat → Int32) : Option (Int32 × (Nat → Int32) × (Nat → Int32) × (Nat → Int32) × (Nat → Int32) × (Nat → Int32) × (Nat → Int32) × (Nat → Int32) × (Nat → Int32) × (Nat → Int32) × (Nat → Int32) × (Nat → Int32) × (Nat → Int32)) := if a1 < (1 : Int32) then some ((-2 : Int32), f1, f2, f3, f4, f8, f9, f10, f17, f18, f19, f20, f21) else if (7 : Int32) < a1 then some ((-2 : Int32), f1, f2, f3, f4, f8, f9, f10, f17, f18, f19, f20, f21) else if a1 = (6 : Int32) then some ((-2 : Int32), f1, f2, f3, f4, f8, f9, f10, f17, f18, f19, f20, f21) else if a1 = (5 : Int32) then bd1 (pX5_isFull f1 f2) (fun r_35 => if r_35 = 0 then bfX6_plant_38 N a1 f1 f2 f3 f4 f8 f9 f10 f17 f18 f19 f20 f21 else some ((-3 : Int32), f1, f2, f3, f4, f8, f9, f10, f17, f18, f19, f20, f21)) else bfX6_plant_38 N a1 f1 f2 f3 f4 f8 f9 f10 f17 f18 f19 f20 f21
set_option maxHeartbeats 4000000 in
set_option maxRecDepth 100000 in
theorem bwX6_plant_38 {p : Program} {l : Launch} {e : Env} {s : State} {m : MethodId} {args : Array Value} {below : List Frame} {meth : Method} {c : Code} {D : va_G} {A : Nat → Prop} {cA : ClassId} {q0 q1 q2 q3 q4 q5 q8 q9 q10 q11 q16 q17 q18 q19 q20 q21 q22 : Nat} {res : Int32 × (Nat → Int32) × (Nat → Int32) × (Nat → Int32) × (Nat → Int32) × (Nat → Int32) × (Nat → Int32) × (Nat → Int32) × (Nat → Int32) × (Nat → Int32) × (Nat → Int32) × (Nat → Int32) × (Nat → Int32)} (C0 : cx p s m args meth c cX6_plant 2 RX6 wsX6_plant (some .int) D vwCl [(cA, .int)] A) (N : Nat) (a1 : Int32) (f1 : Nat → Int32) (f2 : Nat → Int32) (f3 : Nat → Int32) (f4 : Nat → Int32) (f8 : Nat → Int32) (f9 : Nat → Int32) (f10 : Nat → Int32) (f17 : Nat → Int32) (f18 : Nat → Int32) (f19 : Nat → Int32) (f20 : Nat → Int32) (f21 : Nat → Int32) (h : bfX6_plant_38 N a1  f1 f2 f3 f4 f8 f9 f10 f17 f18 f19 f20 f21 = some res) : At_ p l e (rmX6_plant) s m args below meth c D vwCl A 2 0 0 (Qi_ below args s D vwCl A (wdX6_4 cA q0 q1 q2 q3 q4 q5 q8 q9 q10 q11 q16 q17 q18 q19 q20 q21 q22 res.2.1 res.2.2.1 res.2.2.2.1 res.2.2.2.2.1 res.2.2.2.2.2.1 res.2.2.2.2.2.2.1 res.2.2.2.2.2.2.2.1 res.2.2.2.2.2.2.2.2.1 res.2.2.2.2.2.2.2.2.2.1 res.2.2.2.2.2.2.2.2.2.2.1 res.2.2.2.2.2.2.2.2.2.2.2.1 res.2.2.2.2.2.2.2.2.2.2.2.2) res.1) 38 [(0, .ref q0), (1, .int a1)] [] (wdX6_4 cA q0 q1 q2 q3 q4 q5 q8 q9 q10 q11 q16 q17 q18 q19 q20 q21 q22 f1 f2 f3 f4 f8 f9 f10 f17 f18 f19 f20 f21) := by
  unfold bfX6_plant_38 at h
  refine a_aload_n C0 dX6_plant_38 rfl 0 rfl ?_
  obtain ⟨r_1, f3_2, f4_3, f8_4, f9_5, f10_6, f17_7, f18_8, f19_9, f20_10, f21_11, h_12, h⟩ := bd11_e h
  refine a_callVi C0 (wdX6_4 cA q0 q1 q2 q3 q4 q5 q8 q9 q10 q11 q16 q17 q18 q19 q20 q21 q22 f1 f2 f3_2 f4_3 f8_4 f9_5 f10_6 f17_7 f18_8 f19_9 f20_10 f21_11) (As := []) (rest := []) (ctX6_greatestVerdict l D cA q0 q1 q2 q3 q4 q5 q8 q9 q10 q11 q16 q17 q18 q19 q20 q21 q22 N f1 f2 f3 f4 f8 f9 f10 f17 f18 f19 f20 f21 h_12) (cwV 0 C0.1.2.2.2.2 gX6_plant_X6_greatestVerdict rfl rfl rfl hdX6_greatestVerdict ⟨Nat.le_of_ble_eq_true rfl, Nat.le_of_ble_eq_true rfl⟩) [0, 1, 2, 3, 4, 5, 6, 7, 8, 9, 10, 11, 12] [] [0, 1, 2, 3, 4, 5, 6, 7, 8, 9, 10, 11, 12] rfl rfl rfl rfl (by decide) rfl rfl rfl rfl rfl rfl (Nat.le_of_ble_eq_true rfl) dX6_plant_39 ⟨Nat.zero_le _, Nat.zero_le _⟩ ?_
  refine a_if_ne C0 53 dX6_plant_42 (by decide) (fun c_13 => ?_) (fun c_13 => ?_)
  · have h := ie_ c_13 h
    refine a_bipush C0 (-4 : Int32) dX6_plant_53 (by decide) ?_
    obtain rfl := Option.some.inj h
    exact a_iret C0 dX6_plant_55 rfl rfl
  · have h := it_ c_13 h
    refine a_aload_n C0 dX6_plant_45 rfl 0 rfl ?_
    refine a_iload_n C0 dX6_plant_46 rfl 1 rfl ?_
    obtain ⟨r_14, f1_15, f2_16, h_17, h⟩ := bd3_e h
    refine a_callVi C0 (wdX6_4 cA q0 q1 q2 q3 q4 q5 q8 q9 q10 q11 q16 q17 q18 q19 q20 q21 q22 f1_15 f2_16 f3_2 f4_3 f8_4 f9_5 f10_6 f17_7 f18_8 f19_9 f20_10 f21_11) (As := [.int a1]) (rest := []) (ctX6_plantInSound l D cA q0 q1 q2 q3 q5 q8 q11 q16 q17 q22 N a1 f1 f2 h_17) (cwV 1 C0.1.2.2.2.2 gX6_plant_X6_plantInSound rfl rfl rfl hdX6_plantInSound ⟨Nat.le_of_ble_eq_true rfl, Nat.le_of_ble_eq_true rfl⟩) [0, 1, 2] [3, 4, 5, 6, 7, 8, 9, 10, 11, 12] [10, 11, 12, 0, 1, 2, 3, 4, 5, 6, 7, 8, 9] rfl rfl rfl rfl (by decide) rfl rfl rfl rfl rfl rfl (Nat.le_of_ble_eq_true rfl) dX6_plant_47 ⟨Nat.zero_le _, Nat.zero_le _⟩ ?_
    refine a_if_ne C0 56 dX6_plant_50 (by decide) (fun c_18 => ?_) (fun c_18 => ?_)
    · have h := ie_ c_18 h
      refine a_aload_n C0 dX6_plant_56 rfl 0 rfl ?_
      obtain ⟨r_19, f3_20, f4_21, f8_22, f9_23, f10_24, f17_25, f18_26, f19_27, f20_28, f21_29, h_30, h⟩ := bd11_e h
      refine a_callVi C0 (wdX6_4 cA q0 q1 q2 q3 q4 q5 q8 q9 q10 q11 q16 q17 q18 q19 q20 q21 q22 f1_15 f2_16 f3_20 f4_21 f8_22 f9_23 f10_24 f17_25 f18_26 f19_27 f20_28 f21_29) (As := []) (rest := []) (ctX6_greatestVerdict l D cA q0 q1 q2 q3 q4 q5 q8 q9 q10 q11 q16 q17 q18 q19 q20 q21 q22 N f1_15 f2_16 f3_2 f4_3 f8_4 f9_5 f10_6 f17_7 f18_8 f19_9 f20_10 f21_11 h_30) (cwV 0 C0.1.2.2.2.2 gX6_plant_X6_greatestVerdict rfl rfl rfl hdX6_greatestVerdict ⟨Nat.le_of_ble_eq_true rfl, Nat.le_of_ble_eq_true rfl⟩) [0, 1, 2, 3, 4, 5, 6, 7, 8, 9, 10, 11, 12] [] [0, 1, 2, 3, 4, 5, 6, 7, 8, 9, 10, 11, 12] rfl rfl rfl rfl (by decide) rfl rfl rfl rfl rfl rfl (Nat.le_of_ble_eq_true rfl) dX6_plant_57 ⟨Nat.zero_le _, Nat.zero_le _⟩ ?_
      obtain rfl := Option.some.inj h
      exact a_iret C0 dX6_plant_60 rfl rfl
    · have h := it_ c_18 h
      refine a_bipush C0 (-4 : Int32) dX6_plant_53 (by decide) ?_
      obtain rfl := Option.some.inj h
      exact a_iret C0 dX6_plant_55 rfl rfl
set_option maxHeartbeats 4000000 in
set_option maxRecDepth 100000 in
theorem bwX6_plant {p : Program} {l : Launch} {e : Env} {s : State} {m : MethodId} {args : Array Value} {below : List Frame} {meth : Method} {c : Code} {D : va_G} {A : Nat → Prop} {cA : ClassId} {q0 q1 q2 q3 q4 q5 q8 q9 q10 q11 q16 q17 q18 q19 q20 q21 q22 : Nat} {res : Int32 × (Nat → Int32) × (Nat → Int32) × (Nat → Int32) × (Nat → Int32) × (Nat → Int32) × (Nat → Int32) × (Nat → Int32) × (Nat → Int32) × (Nat → Int32) × (Nat → Int32) × (Nat → Int32) × (Nat → Int32)} (C0 : cx p s m args meth c cX6_plant 2 RX6 wsX6_plant (some .int) D vwCl [(cA, .int)] A) (N : Nat) (a1 : Int32) (f1 : Nat → Int32) (f2 : Nat → Int32) (f3 : Nat → Int32) (f4 : Nat → Int32) (f8 : Nat → Int32) (f9 : Nat → Int32) (f10 : Nat → Int32) (f17 : Nat → Int32) (f18 : Nat → Int32) (f19 : Nat → Int32) (f20 : Nat → Int32) (f21 : Nat → Int32) (h : pX6_plant N a1 f1 f2 f3 f4 f8 f9 f10 f17 f18 f19 f20 f21 = some res) : At_ p l e (rmX6_plant) s m args below meth c D vwCl A 2 0 0 (Qi_ below args s D vwCl A (wdX6_4 cA q0 q1 q2 q3 q4 q5 q8 q9 q10 q11 q16 q17 q18 q19 q20 q21 q22 res.2.1 res.2.2.1 res.2.2.2.1 res.2.2.2.2.1 res.2.2.2.2.2.1 res.2.2.2.2.2.2.1 res.2.2.2.2.2.2.2.1 res.2.2.2.2.2.2.2.2.1 res.2.2.2.2.2.2.2.2.2.1 res.2.2.2.2.2.2.2.2.2.2.1 res.2.2.2.2.2.2.2.2.2.2.2.1 res.2.2.2.2.2.2.2.2.2.2.2.2) res.1) 0 [(0, .ref q0), (1, .int a1)] [] (wdX6_4 cA q0 q1 q2 q3 q4 q5 q8 q9 q10 q11 q16 q17 q18 q19 q20 q21 q22 f1 f2 f3 f4 f8 f9 f10 f17 f18 f19 f20 f21) := by
  unfold pX6_plant at h
  refine a_iload_n C0 dX6_plant_0 rfl 1 rfl ?_
  refine a_iconst C0 (1 : Int32) dX6_plant_1 (by decide) ?_
  refine a_icmp_lt C0 17 dX6_plant_2 (by decide) (fun c_31 => ?_) (fun c_31 => ?_)
  · have h := it_ c_31 h
    refine a_bipush C0 (-2 : Int32) dX6_plant_17 (by decide) ?_
    obtain rfl := Option.some.inj h
    exact a_iret C0 dX6_plant_19 rfl rfl
  · have h := ie_ c_31 h
    refine a_iload_n C0 dX6_plant_5 rfl 1 rfl ?_
    refine a_bipush C0 (7 : Int32) dX6_plant_6 (by decide) ?_
    refine a_icmp_gt C0 17 dX6_plant_8 (by decide) (fun c_32 => ?_) (fun c_32 => ?_)
    · have h := it_ c_32 h
      refine a_bipush C0 (-2 : Int32) dX6_plant_17 (by decide) ?_
      obtain rfl := Option.some.inj h
      exact a_iret C0 dX6_plant_19 rfl rfl
    · have h := ie_ c_32 h
      refine a_iload_n C0 dX6_plant_11 rfl 1 rfl ?_
      refine a_bipush C0 (6 : Int32) dX6_plant_12 (by decide) ?_
      refine a_icmp_ne C0 20 dX6_plant_14 (by decide) (fun c_33 => ?_) (fun c_33 => ?_)
      · have h := ie_ c_33 h
        refine a_iload_n C0 dX6_plant_20 rfl 1 rfl ?_
        refine a_iconst C0 (5 : Int32) dX6_plant_21 (by decide) ?_
        refine a_icmp_ne C0 38 dX6_plant_22 (by decide) (fun c_34 => ?_) (fun c_34 => ?_)
        · have h := ie_ c_34 h
          exact bwX6_plant_38 C0 N a1 f1 f2 f3 f4 f8 f9 f10 f17 f18 f19 f20 f21 h
        · have h := it_ c_34 h
          refine a_aload_n C0 dX6_plant_25 rfl 0 rfl ?_
          refine a_get C0 inX6_plant_X6 0 rfl rfl 0 (by decide) lkX6_plant_10 (fun _ h9 => h9) (.ref q1) rfl dX6_plant_26 ?_
          obtain ⟨r_35, h_36, h⟩ := bd1_e h
          refine a_callVi C0 (wdX6_4 cA q0 q1 q2 q3 q4 q5 q8 q9 q10 q11 q16 q17 q18 q19 q20 q21 q22 f1 f2 f3 f4 f8 f9 f10 f17 f18 f19 f20 f21) (As := []) (rest := []) (ctX5_isFull l D cA q1 q2 f1 f2 h_36) (cwV 0 C0.1.2.2.2.2 gX6_plant_X5_isFull rfl rfl rfl hdX5_isFull ⟨Nat.le_of_ble_eq_true rfl, Nat.le_of_ble_eq_true rfl⟩) [1, 2] [0, 3, 4, 5, 6, 7, 8, 9, 10, 11, 12] [0, 11, 12, 1, 2, 3, 4, 5, 6, 7, 8, 9, 10] rfl rfl rfl rfl (by decide) rfl rfl rfl rfl rfl rfl (Nat.le_of_ble_eq_true rfl) dX6_plant_29 ⟨Nat.zero_le _, Nat.zero_le _⟩ ?_
          refine a_if_eq C0 38 dX6_plant_32 (by decide) (fun c_37 => ?_) (fun c_37 => ?_)
          · have h := it_ c_37 h
            exact bwX6_plant_38 C0 N a1 f1 f2 f3 f4 f8 f9 f10 f17 f18 f19 f20 f21 h
          · have h := ie_ c_37 h
            refine a_bipush C0 (-3 : Int32) dX6_plant_35 (by decide) ?_
            obtain rfl := Option.some.inj h
            exact a_iret C0 dX6_plant_37 rfl rfl
      · have h := it_ c_33 h
        refine a_bipush C0 (-2 : Int32) dX6_plant_17 (by decide) ?_
        obtain rfl := Option.some.inj h
        exact a_iret C0 dX6_plant_19 rfl rfl
set_option maxRecDepth 100000 in
theorem ctX6_plant (l : Launch) (D : va_G) (cA : ClassId) (q0 q1 q2 q3 q4 q5 q8 q9 q10 q11 q16 q17 q18 q19 q20 q21 q22 : Nat) (N : Nat) (a1 : Int32) (f1 : Nat → Int32) (f2 : Nat → Int32) (f3 : Nat → Int32) (f4 : Nat → Int32) (f8 : Nat → Int32) (f9 : Nat → Int32) (f10 : Nat → Int32) (f17 : Nat → Int32) (f18 : Nat → Int32) (f19 : Nat → Int32) (f20 : Nat → Int32) (f21 : Nat → Int32) {res : Int32 × (Nat → Int32) × (Nat → Int32) × (Nat → Int32) × (Nat → Int32) × (Nat → Int32) × (Nat → Int32) × (Nat → Int32) × (Nat → Int32) × (Nat → Int32) × (Nat → Int32) × (Nat → Int32) × (Nat → Int32)} (h : pX6_plant N a1 f1 f2 f3 f4 f8 f9 f10 f17 f18 f19 f20 f21 = some res) : Cti l yX6_plant wsX6_plant (rmX6_plant) D vwCl [(cA, .int)] [.ref q0, .int a1] (wdX6_4 cA q0 q1 q2 q3 q4 q5 q8 q9 q10 q11 q16 q17 q18 q19 q20 q21 q22 f1 f2 f3 f4 f8 f9 f10 f17 f18 f19 f20 f21) (wdX6_4 cA q0 q1 q2 q3 q4 q5 q8 q9 q10 q11 q16 q17 q18 q19 q20 q21 q22 res.2.1 res.2.2.1 res.2.2.2.1 res.2.2.2.2.1 res.2.2.2.2.2.1 res.2.2.2.2.2.2.1 res.2.2.2.2.2.2.2.1 res.2.2.2.2.2.2.2.2.1 res.2.2.2.2.2.2.2.2.2.1 res.2.2.2.2.2.2.2.2.2.2.1 res.2.2.2.2.2.2.2.2.2.2.2.1 res.2.2.2.2.2.2.2.2.2.2.2.2) 0 0 res.1 :=
  ct_i (maxL := 2) (cc := cX6_plant) (by decide) rfl (Nat.le_of_ble_eq_true rfl) (fun p e s m below meth c C0 => bwX6_plant C0 N a1 f1 f2 f3 f4 f8 f9 f10 f17 f18 f19 f20 f21 h)
/-! PackDrawer.open -/
abbrev wdX6_5 (cA : ClassId) (q0 q1 q2 q3 q5 q6 q7 q8 q11 q12 q13 q14 q15 q16 q17 q22 : Nat) (f1 : Nat → Int32) (f2 : Nat → Int32) (f5 : Nat → Int32) (f6 : Nat → Int32) (f7 : Nat → Int32) (f11 : Nat → Int32) (f12 : Nat → Int32) (f13 : Nat → Int32) (f14 : Nat → Int32) (f15 : Nat → Int32) : va_W := [(q0, .inr (6, [.ref q1, .ref q3, .ref q5, .ref q8, .ref q11, .ref q16, .ref q17, .ref q22])), (q1, .inr (5, [.ref q2, .int (f1 1)])), (q2, .inl (cA, 160, .inl f2)), (q5, .inr (0, [.ref q6, .int (f5 1), .int (f5 2), .int (f5 3), .int (f5 4), .int (f5 5), .int (f5 6), .int (f5 7), .int (f5 8), .int (f5 9), .int (f5 10), .int (f5 11)])), (q6, .inr (4, [.ref q7, .int (f6 1)])), (q7, .inl (cA, 800, .inl f7)), (q11, .inr (1, [.ref q1, .ref q5, .ref q6, .ref q12, .ref q13, .ref q14, .ref q15, .int (f11 7), .int (f11 8), .int (f11 9), .int (f11 10), .int (f11 11)])), (q12, .inl (cA, 7, .inl f12)), (q13, .inl (cA, 7, .inl f13)), (q14, .inl (cA, 7, .inl f14)), (q15, .inl (cA, 7, .inl f15))]
theorem hdX6_areBounds : yX6_areBounds.cls = RX6 ∧ yX6_areBounds.cls ≠ "java/lang/invoke/MethodHandle" ∧ yX6_areBounds.cls ≠ "java/lang/invoke/VarHandle" ∧ (parseMethodDescriptor yX6_areBounds.desc).map (fun d => d.parameters.length) = some 3 := by decide +kernel
theorem hdX0_answer : yX0_answer.cls = RX0 ∧ yX0_answer.cls ≠ "java/lang/invoke/MethodHandle" ∧ yX0_answer.cls ≠ "java/lang/invoke/VarHandle" ∧ (parseMethodDescriptor yX0_answer.desc).map (fun d => d.parameters.length) = some 0 := by decide +kernel
abbrev rmX6_open : Room := { frames := 6, cells := 0, slots := 0, locals := 137 }
theorem lkX6_open_34 : Cond.fieldLink RX6 34 RX6 (TX6 4).2.1 (TX6 4).2.2.1 ∈ wsX6_open := by decide +kernel
theorem inX6_open_X6 : ∀ w ∈ u_ws RX6 TX6 8, w ∈ wsX6_open := by decide +kernel
theorem lkX6_open_22 : Cond.fieldLink RX6 22 RX6 (TX6 2).2.1 (TX6 2).2.2.1 ∈ wsX6_open := by decide +kernel
def pX6_open (N : Nat) (a1 : Int32) (a2 : Int32) (a3 : Int32) (f1 : Nat → Int32) (f2 : Nat → Int32) (f5 : Nat → Int32) (f6 : Nat → Int32) (f7 : Nat → Int32) (f11 : Nat → Int32) (f12 : Nat → Int32) (f13 : Nat → Int32) (f14 : Nat → Int32) (f15 : Nat → Int32) : Option (Int32 × (Nat → Int32) × (Nat → Int32) × (Nat → Int32) × (Nat → Int32) × (Nat → Int32) × (Nat → Int32) × (Nat → Int32) × (Nat → Int32)) := bd1 (pX6_areBounds a1 a2 a3) (fun r_1 => if r_1 = 0 then some ((-2 : Int32), f5, f6, f7, f11, f12, f13, f14, f15) else bd9 (pX1_read N a1 a2 a3 f11 f1 f2 f5 f6 f7 f12 f13 f14 f15) (fun r_4 f11_5 f5_6 f6_7 f7_8 f12_9 f13_10 f14_11 f15_12 => bd1 (pX0_answer f5_6) (fun r_14 => some (r_14, f5_6, f6_7, f7_8, f11_5, f12_9, f13_10, f14_11, f15_12))))
set_option maxHeartbeats 4000000 in
set_option maxRecDepth 100000 in
theorem bwX6_open {p : Program} {l : Launch} {e : Env} {s : State} {m : MethodId} {args : Array Value} {below : List Frame} {meth : Method} {c : Code} {D : va_G} {A : Nat → Prop} {cA : ClassId} {q0 q1 q2 q3 q5 q6 q7 q8 q11 q12 q13 q14 q15 q16 q17 q22 : Nat} {res : Int32 × (Nat → Int32) × (Nat → Int32) × (Nat → Int32) × (Nat → Int32) × (Nat → Int32) × (Nat → Int32) × (Nat → Int32) × (Nat → Int32)} (C0 : cx p s m args meth c cX6_open 4 RX6 wsX6_open (some .int) D vwCl [(cA, .int)] A) (N : Nat) (a1 : Int32) (a2 : Int32) (a3 : Int32) (f1 : Nat → Int32) (f2 : Nat → Int32) (f5 : Nat → Int32) (f6 : Nat → Int32) (f7 : Nat → Int32) (f11 : Nat → Int32) (f12 : Nat → Int32) (f13 : Nat → Int32) (f14 : Nat → Int32) (f15 : Nat → Int32) (h : pX6_open N a1 a2 a3 f1 f2 f5 f6 f7 f11 f12 f13 f14 f15 = some res) : At_ p l e (rmX6_open) s m args below meth c D vwCl A 4 0 0 (Qi_ below args s D vwCl A (wdX6_5 cA q0 q1 q2 q3 q5 q6 q7 q8 q11 q12 q13 q14 q15 q16 q17 q22 f1 f2 res.2.1 res.2.2.1 res.2.2.2.1 res.2.2.2.2.1 res.2.2.2.2.2.1 res.2.2.2.2.2.2.1 res.2.2.2.2.2.2.2.1 res.2.2.2.2.2.2.2.2) res.1) 0 [(0, .ref q0), (1, .int a1), (2, .int a2), (3, .int a3)] [] (wdX6_5 cA q0 q1 q2 q3 q5 q6 q7 q8 q11 q12 q13 q14 q15 q16 q17 q22 f1 f2 f5 f6 f7 f11 f12 f13 f14 f15) := by
  unfold pX6_open at h
  refine a_iload_n C0 dX6_open_0 rfl 1 rfl ?_
  refine a_iload_n C0 dX6_open_1 rfl 2 rfl ?_
  refine a_iload_n C0 dX6_open_2 rfl 3 rfl ?_
  obtain ⟨r_1, h_2, h⟩ := bd1_e h
  refine a_callSi C0 (wdX6_5 cA q0 q1 q2 q3 q5 q6 q7 q8 q11 q12 q13 q14 q15 q16 q17 q22 f1 f2 f5 f6 f7 f11 f12 f13 f14 f15) (As := [.int a1, .int a2, .int a3]) (rest := []) (ctX6_areBounds l D cA a1 a2 a3 h_2) (cwS 3 C0.1.2.2.2.2 gX6_open_X6_areBounds rfl rfl rfl hdX6_areBounds ⟨Nat.le_of_ble_eq_true rfl, Nat.le_of_ble_eq_true rfl⟩) [] [0, 1, 2, 3, 4, 5, 6, 7, 8, 9, 10] [0, 1, 2, 3, 4, 5, 6, 7, 8, 9, 10] rfl rfl rfl rfl (by decide) rfl rfl rfl rfl (Nat.le_of_ble_eq_true rfl) dX6_open_3 ⟨Nat.zero_le _, Nat.zero_le _⟩ ?_
  refine a_if_ne C0 12 dX6_open_6 (by decide) (fun c_3 => ?_) (fun c_3 => ?_)
  · have h := ie_ c_3 h
    refine a_aload_n C0 dX6_open_12 rfl 0 rfl ?_
    refine a_get C0 inX6_open_X6 0 rfl rfl 4 (by decide) lkX6_open_34 (fun _ h9 => h9) (.ref q11) rfl dX6_open_13 ?_
    refine a_iload_n C0 dX6_open_16 rfl 1 rfl ?_
    refine a_iload_n C0 dX6_open_17 rfl 2 rfl ?_
    refine a_iload_n C0 dX6_open_18 rfl 3 rfl ?_
    obtain ⟨r_4, f11_5, f5_6, f6_7, f7_8, f12_9, f13_10, f14_11, f15_12, h_13, h⟩ := bd9_e h
    refine a_callVi C0 (wdX6_5 cA q0 q1 q2 q3 q5 q6 q7 q8 q11 q12 q13 q14 q15 q16 q17 q22 f1 f2 f5_6 f6_7 f7_8 f11_5 f12_9 f13_10 f14_11 f15_12) (As := [.int a1, .int a2, .int a3]) (rest := []) (ctX1_read l D cA q11 q1 q2 q5 q6 q7 q12 q13 q14 q15 N a1 a2 a3 f11 f1 f2 f5 f6 f7 f12 f13 f14 f15 h_13) (cwV 3 C0.1.2.2.2.2 gX6_open_X1_read rfl rfl rfl hdX1_read ⟨Nat.le_of_ble_eq_true rfl, Nat.le_of_ble_eq_true rfl⟩) [6, 1, 2, 3, 4, 5, 7, 8, 9, 10] [0] [0, 2, 3, 4, 5, 6, 1, 7, 8, 9, 10] rfl rfl rfl rfl (by decide) rfl rfl rfl rfl rfl rfl (Nat.le_of_ble_eq_true rfl) dX6_open_19 ⟨Nat.zero_le _, Nat.zero_le _⟩ ?_
    refine a_pop C0 dX6_open_22 rfl ?_
    refine a_aload_n C0 dX6_open_23 rfl 0 rfl ?_
    refine a_get C0 inX6_open_X6 0 rfl rfl 2 (by decide) lkX6_open_22 (fun _ h9 => h9) (.ref q5) rfl dX6_open_24 ?_
    obtain ⟨r_14, h_15, h⟩ := bd1_e h
    refine a_callVi C0 (wdX6_5 cA q0 q1 q2 q3 q5 q6 q7 q8 q11 q12 q13 q14 q15 q16 q17 q22 f1 f2 f5_6 f6_7 f7_8 f11_5 f12_9 f13_10 f14_11 f15_12) (As := []) (rest := []) (ctX0_answer l D cA q5 q6 f5_6 h_15) (cwV 0 C0.1.2.2.2.2 gX6_open_X0_answer rfl rfl rfl hdX0_answer ⟨Nat.le_of_ble_eq_true rfl, Nat.le_of_ble_eq_true rfl⟩) [3] [0, 1, 2, 4, 5, 6, 7, 8, 9, 10] [0, 1, 2, 10, 3, 4, 5, 6, 7, 8, 9] rfl rfl rfl rfl (by decide) rfl rfl rfl rfl rfl rfl (Nat.le_of_ble_eq_true rfl) dX6_open_27 ⟨Nat.zero_le _, Nat.zero_le _⟩ ?_
    obtain rfl := Option.some.inj h
    exact a_iret C0 dX6_open_30 rfl rfl
  · have h := it_ c_3 h
    refine a_bipush C0 (-2 : Int32) dX6_open_9 (by decide) ?_
    obtain rfl := Option.some.inj h
    exact a_iret C0 dX6_open_11 rfl rfl
set_option maxRecDepth 100000 in
theorem ctX6_open (l : Launch) (D : va_G) (cA : ClassId) (q0 q1 q2 q3 q5 q6 q7 q8 q11 q12 q13 q14 q15 q16 q17 q22 : Nat) (N : Nat) (a1 : Int32) (a2 : Int32) (a3 : Int32) (f1 : Nat → Int32) (f2 : Nat → Int32) (f5 : Nat → Int32) (f6 : Nat → Int32) (f7 : Nat → Int32) (f11 : Nat → Int32) (f12 : Nat → Int32) (f13 : Nat → Int32) (f14 : Nat → Int32) (f15 : Nat → Int32) {res : Int32 × (Nat → Int32) × (Nat → Int32) × (Nat → Int32) × (Nat → Int32) × (Nat → Int32) × (Nat → Int32) × (Nat → Int32) × (Nat → Int32)} (h : pX6_open N a1 a2 a3 f1 f2 f5 f6 f7 f11 f12 f13 f14 f15 = some res) : Cti l yX6_open wsX6_open (rmX6_open) D vwCl [(cA, .int)] [.ref q0, .int a1, .int a2, .int a3] (wdX6_5 cA q0 q1 q2 q3 q5 q6 q7 q8 q11 q12 q13 q14 q15 q16 q17 q22 f1 f2 f5 f6 f7 f11 f12 f13 f14 f15) (wdX6_5 cA q0 q1 q2 q3 q5 q6 q7 q8 q11 q12 q13 q14 q15 q16 q17 q22 f1 f2 res.2.1 res.2.2.1 res.2.2.2.1 res.2.2.2.2.1 res.2.2.2.2.2.1 res.2.2.2.2.2.2.1 res.2.2.2.2.2.2.2.1 res.2.2.2.2.2.2.2.2) 0 0 res.1 :=
  ct_i (maxL := 4) (cc := cX6_open) (by decide) rfl (Nat.le_of_ble_eq_true rfl) (fun p e s m below meth c C0 => bwX6_open C0 N a1 a2 a3 f1 f2 f5 f6 f7 f11 f12 f13 f14 f15 h)
/-! PackDrawer.plain -/
abbrev wdX6_6 (cA : ClassId) (q0 q1 q2 q3 q5 q6 q7 q8 q11 q16 q17 q22 : Nat) (f1 : Nat → Int32) (f2 : Nat → Int32) (f5 : Nat → Int32) (f6 : Nat → Int32) (f7 : Nat → Int32) (f16 : Nat → Int32) : va_W := [(q0, .inr (6, [.ref q1, .ref q3, .ref q5, .ref q8, .ref q11, .ref q16, .ref q17, .ref q22])), (q1, .inr (5, [.ref q2, .int (f1 1)])), (q2, .inl (cA, 160, .inl f2)), (q5, .inr (0, [.ref q6, .int (f5 1), .int (f5 2), .int (f5 3), .int (f5 4), .int (f5 5), .int (f5 6), .int (f5 7), .int (f5 8), .int (f5 9), .int (f5 10), .int (f5 11)])), (q6, .inr (4, [.ref q7, .int (f6 1)])), (q7, .inl (cA, 800, .inl f7)), (q16, .inr (3, [.ref q1, .ref q5, .ref q6, .int (f16 3), .int (f16 4), .int (f16 5)]))]
theorem hdX3_read : yX3_read.cls = RX3 ∧ yX3_read.cls ≠ "java/lang/invoke/MethodHandle" ∧ yX3_read.cls ≠ "java/lang/invoke/VarHandle" ∧ (parseMethodDescriptor yX3_read.desc).map (fun d => d.parameters.length) = some 3 := by decide +kernel
abbrev rmX6_plain : Room := { frames := 31, cells := 0, slots := 0, locals := 775 }
theorem lkX6_plain_41 : Cond.fieldLink RX6 41 RX6 (TX6 5).2.1 (TX6 5).2.2.1 ∈ wsX6_plain := by decide +kernel
theorem inX6_plain_X6 : ∀ w ∈ u_ws RX6 TX6 8, w ∈ wsX6_plain := by decide +kernel
theorem lkX6_plain_22 : Cond.fieldLink RX6 22 RX6 (TX6 2).2.1 (TX6 2).2.2.1 ∈ wsX6_plain := by decide +kernel
def pX6_plain (N : Nat) (a1 : Int32) (a2 : Int32) (a3 : Int32) (f1 : Nat → Int32) (f2 : Nat → Int32) (f5 : Nat → Int32) (f6 : Nat → Int32) (f7 : Nat → Int32) (f16 : Nat → Int32) : Option (Int32 × (Nat → Int32) × (Nat → Int32) × (Nat → Int32) × (Nat → Int32)) := bd1 (pX6_areBounds a1 a2 a3) (fun r_1 => if r_1 = 0 then some ((-2 : Int32), f5, f6, f7, f16) else bd4 (pX3_read N a1 a2 a3 f16 f1 f2 f5 f6 f7) (fun f16_4 f5_5 f6_6 f7_7 => bd1 (pX0_answer f5_5) (fun r_9 => some (r_9, f5_5, f6_6, f7_7, f16_4))))
set_option maxHeartbeats 4000000 in
set_option maxRecDepth 100000 in
theorem bwX6_plain {p : Program} {l : Launch} {e : Env} {s : State} {m : MethodId} {args : Array Value} {below : List Frame} {meth : Method} {c : Code} {D : va_G} {A : Nat → Prop} {cA : ClassId} {q0 q1 q2 q3 q5 q6 q7 q8 q11 q16 q17 q22 : Nat} {res : Int32 × (Nat → Int32) × (Nat → Int32) × (Nat → Int32) × (Nat → Int32)} (C0 : cx p s m args meth c cX6_plain 4 RX6 wsX6_plain (some .int) D vwCl [(cA, .int)] A) (N : Nat) (a1 : Int32) (a2 : Int32) (a3 : Int32) (f1 : Nat → Int32) (f2 : Nat → Int32) (f5 : Nat → Int32) (f6 : Nat → Int32) (f7 : Nat → Int32) (f16 : Nat → Int32) (h : pX6_plain N a1 a2 a3 f1 f2 f5 f6 f7 f16 = some res) : At_ p l e (rmX6_plain) s m args below meth c D vwCl A 4 0 0 (Qi_ below args s D vwCl A (wdX6_6 cA q0 q1 q2 q3 q5 q6 q7 q8 q11 q16 q17 q22 f1 f2 res.2.1 res.2.2.1 res.2.2.2.1 res.2.2.2.2) res.1) 0 [(0, .ref q0), (1, .int a1), (2, .int a2), (3, .int a3)] [] (wdX6_6 cA q0 q1 q2 q3 q5 q6 q7 q8 q11 q16 q17 q22 f1 f2 f5 f6 f7 f16) := by
  unfold pX6_plain at h
  refine a_iload_n C0 dX6_plain_0 rfl 1 rfl ?_
  refine a_iload_n C0 dX6_plain_1 rfl 2 rfl ?_
  refine a_iload_n C0 dX6_plain_2 rfl 3 rfl ?_
  obtain ⟨r_1, h_2, h⟩ := bd1_e h
  refine a_callSi C0 (wdX6_6 cA q0 q1 q2 q3 q5 q6 q7 q8 q11 q16 q17 q22 f1 f2 f5 f6 f7 f16) (As := [.int a1, .int a2, .int a3]) (rest := []) (ctX6_areBounds l D cA a1 a2 a3 h_2) (cwS 3 C0.1.2.2.2.2 gX6_plain_X6_areBounds rfl rfl rfl hdX6_areBounds ⟨Nat.le_of_ble_eq_true rfl, Nat.le_of_ble_eq_true rfl⟩) [] [0, 1, 2, 3, 4, 5, 6] [0, 1, 2, 3, 4, 5, 6] rfl rfl rfl rfl (by decide) rfl rfl rfl rfl (Nat.le_of_ble_eq_true rfl) dX6_plain_3 ⟨Nat.zero_le _, Nat.zero_le _⟩ ?_
  refine a_if_ne C0 12 dX6_plain_6 (by decide) (fun c_3 => ?_) (fun c_3 => ?_)
  · have h := ie_ c_3 h
    refine a_aload_n C0 dX6_plain_12 rfl 0 rfl ?_
    refine a_get C0 inX6_plain_X6 0 rfl rfl 5 (by decide) lkX6_plain_41 (fun _ h9 => h9) (.ref q16) rfl dX6_plain_13 ?_
    refine a_iload_n C0 dX6_plain_16 rfl 1 rfl ?_
    refine a_iload_n C0 dX6_plain_17 rfl 2 rfl ?_
    refine a_iload_n C0 dX6_plain_18 rfl 3 rfl ?_
    obtain ⟨f16_4, f5_5, f6_6, f7_7, h_8, h⟩ := bd4_e h
    refine a_callVv C0 (wdX6_6 cA q0 q1 q2 q3 q5 q6 q7 q8 q11 q16 q17 q22 f1 f2 f5_5 f6_6 f7_7 f16_4) (As := [.int a1, .int a2, .int a3]) (rest := []) (ctX3_read l D cA q16 q1 q2 q5 q6 q7 N a1 a2 a3 f16 f1 f2 f5 f6 f7 h_8) (cwV 3 C0.1.2.2.2.2 gX6_plain_X3_read rfl rfl rfl hdX3_read ⟨Nat.le_of_ble_eq_true rfl, Nat.le_of_ble_eq_true rfl⟩) [6, 1, 2, 3, 4, 5] [0] [0, 2, 3, 4, 5, 6, 1] rfl rfl rfl rfl (by decide) rfl rfl rfl rfl rfl rfl (Nat.le_of_ble_eq_true rfl) dX6_plain_19 ⟨Nat.zero_le _, Nat.zero_le _⟩ ?_
    refine a_aload_n C0 dX6_plain_22 rfl 0 rfl ?_
    refine a_get C0 inX6_plain_X6 0 rfl rfl 2 (by decide) lkX6_plain_22 (fun _ h9 => h9) (.ref q5) rfl dX6_plain_23 ?_
    obtain ⟨r_9, h_10, h⟩ := bd1_e h
    refine a_callVi C0 (wdX6_6 cA q0 q1 q2 q3 q5 q6 q7 q8 q11 q16 q17 q22 f1 f2 f5_5 f6_6 f7_7 f16_4) (As := []) (rest := []) (ctX0_answer l D cA q5 q6 f5_5 h_10) (cwV 0 C0.1.2.2.2.2 gX6_plain_X0_answer rfl rfl rfl hdX0_answer ⟨Nat.le_of_ble_eq_true rfl, Nat.le_of_ble_eq_true rfl⟩) [3] [0, 1, 2, 4, 5, 6] [0, 1, 2, 6, 3, 4, 5] rfl rfl rfl rfl (by decide) rfl rfl rfl rfl rfl rfl (Nat.le_of_ble_eq_true rfl) dX6_plain_26 ⟨Nat.zero_le _, Nat.zero_le _⟩ ?_
    obtain rfl := Option.some.inj h
    exact a_iret C0 dX6_plain_29 rfl rfl
  · have h := it_ c_3 h
    refine a_bipush C0 (-2 : Int32) dX6_plain_9 (by decide) ?_
    obtain rfl := Option.some.inj h
    exact a_iret C0 dX6_plain_11 rfl rfl
set_option maxRecDepth 100000 in
theorem ctX6_plain (l : Launch) (D : va_G) (cA : ClassId) (q0 q1 q2 q3 q5 q6 q7 q8 q11 q16 q17 q22 : Nat) (N : Nat) (a1 : Int32) (a2 : Int32) (a3 : Int32) (f1 : Nat → Int32) (f2 : Nat → Int32) (f5 : Nat → Int32) (f6 : Nat → Int32) (f7 : Nat → Int32) (f16 : Nat → Int32) {res : Int32 × (Nat → Int32) × (Nat → Int32) × (Nat → Int32) × (Nat → Int32)} (h : pX6_plain N a1 a2 a3 f1 f2 f5 f6 f7 f16 = some res) : Cti l yX6_plain wsX6_plain (rmX6_plain) D vwCl [(cA, .int)] [.ref q0, .int a1, .int a2, .int a3] (wdX6_6 cA q0 q1 q2 q3 q5 q6 q7 q8 q11 q16 q17 q22 f1 f2 f5 f6 f7 f16) (wdX6_6 cA q0 q1 q2 q3 q5 q6 q7 q8 q11 q16 q17 q22 f1 f2 res.2.1 res.2.2.1 res.2.2.2.1 res.2.2.2.2) 0 0 res.1 :=
  ct_i (maxL := 4) (cc := cX6_plain) (by decide) rfl (Nat.le_of_ble_eq_true rfl) (fun p e s m below meth c C0 => bwX6_plain C0 N a1 a2 a3 f1 f2 f5 f6 f7 f16 h)
/-! PackDrawer.told -/
abbrev wdX6_7 (cA : ClassId) (q0 q1 q3 q5 q6 q8 q11 q16 q17 q22 : Nat) (f5 : Nat → Int32) : va_W := [(q0, .inr (6, [.ref q1, .ref q3, .ref q5, .ref q8, .ref q11, .ref q16, .ref q17, .ref q22])), (q5, .inr (0, [.ref q6, .int (f5 1), .int (f5 2), .int (f5 3), .int (f5 4), .int (f5 5), .int (f5 6), .int (f5 7), .int (f5 8), .int (f5 9), .int (f5 10), .int (f5 11)]))]
abbrev rmX6_told : Room := { frames := 1, cells := 0, slots := 0, locals := 20 }
theorem lkX6_told_22 : Cond.fieldLink RX6 22 RX6 (TX6 2).2.1 (TX6 2).2.2.1 ∈ wsX6_told := by decide +kernel
theorem inX6_told_X6 : ∀ w ∈ u_ws RX6 TX6 8, w ∈ wsX6_told := by decide +kernel
theorem nfX6_told_117 : (RX6, 117, RX0, (TX0 4).2.1, (TX0 4).2.2.1, RX6) ∈ nest_F := by decide +kernel
theorem inX6_told_X0 : ∀ w ∈ u_ws RX0 TX0 12, w ∈ wsX6_told := by decide +kernel
theorem nfX6_told_121 : (RX6, 121, RX0, (TX0 5).2.1, (TX0 5).2.2.1, RX6) ∈ nest_F := by decide +kernel
theorem nfX6_told_124 : (RX6, 124, RX0, (TX0 6).2.1, (TX0 6).2.2.1, RX6) ∈ nest_F := by decide +kernel
theorem nfX6_told_127 : (RX6, 127, RX0, (TX0 8).2.1, (TX0 8).2.2.1, RX6) ∈ nest_F := by decide +kernel
theorem nfX6_told_130 : (RX6, 130, RX0, (TX0 9).2.1, (TX0 9).2.2.1, RX6) ∈ nest_F := by decide +kernel
theorem nfX6_told_133 : (RX6, 133, RX0, (TX0 10).2.1, (TX0 10).2.2.1, RX6) ∈ nest_F := by decide +kernel
theorem nfX6_told_136 : (RX6, 136, RX0, (TX0 11).2.1, (TX0 11).2.2.1, RX6) ∈ nest_F := by decide +kernel
def pX6_told (a1 : Int32) (f5 : Nat → Int32) : Option (Int32) := if a1 = (0 : Int32) then bd1 (pX0_failed f5) (fun r_2 => if r_2 = 0 then some (-1 : Int32) else some (f5 4)) else if a1 = (1 : Int32) then some (f5 5) else if a1 = (2 : Int32) then some (f5 6) else if a1 = (3 : Int32) then some (f5 8) else if a1 = (4 : Int32) then some (f5 9) else if a1 = (5 : Int32) then some (f5 10) else if a1 = (6 : Int32) then some (f5 11) else some (-2 : Int32)
set_option maxHeartbeats 4000000 in
set_option maxRecDepth 100000 in
theorem bwX6_told {p : Program} {l : Launch} {e : Env} {s : State} {m : MethodId} {args : Array Value} {below : List Frame} {meth : Method} {c : Code} {D : va_G} {A : Nat → Prop} {cA : ClassId} {q0 q1 q3 q5 q6 q8 q11 q16 q17 q22 : Nat} {res : Int32} (C0 : cx p s m args meth c cX6_told 2 RX6 wsX6_told (some .int) D vwCl [(cA, .int)] A) (a1 : Int32) (f5 : Nat → Int32) (h : pX6_told a1 f5 = some res) : At_ p l e (rmX6_told) s m args below meth c D vwCl A 2 0 0 (Qi_ below args s D vwCl A (wdX6_7 cA q0 q1 q3 q5 q6 q8 q11 q16 q17 q22 f5) res) 0 [(0, .ref q0), (1, .int a1)] [] (wdX6_7 cA q0 q1 q3 q5 q6 q8 q11 q16 q17 q22 f5) := by
  unfold pX6_told at h
  refine a_iload_n C0 dX6_told_0 rfl 1 rfl ?_
  by_cases c_1 : a1 = (0 : Int32)
  · have h := it_ c_1 h
    refine a_tableIn C0 44 dX6_told_1 (by rw [c_1]; decide) (by rw [c_1]; decide) (by rw [c_1]; rfl) (by decide) ?_
    refine a_aload_n C0 dX6_told_44 rfl 0 rfl ?_
    refine a_get C0 inX6_told_X6 0 rfl rfl 2 (by decide) lkX6_told_22 (fun _ h9 => h9) (.ref q5) rfl dX6_told_45 ?_
    obtain ⟨r_2, h_3, h⟩ := bd1_e h
    refine a_callVi C0 (wdX6_7 cA q0 q1 q3 q5 q6 q8 q11 q16 q17 q22 f5) (As := []) (rest := []) (ctX0_failed l D cA q5 q6 f5 h_3) (cwV 0 C0.1.2.2.2.2 gX6_told_X0_failed rfl rfl rfl hdX0_failed ⟨Nat.le_of_ble_eq_true rfl, Nat.le_of_ble_eq_true rfl⟩) [1] [0] [0, 1] rfl rfl rfl rfl (by decide) rfl rfl rfl rfl rfl rfl (Nat.le_of_ble_eq_true rfl) dX6_told_48 ⟨Nat.zero_le _, Nat.zero_le _⟩ ?_
    refine a_if_eq C0 64 dX6_told_51 (by decide) (fun c_4 => ?_) (fun c_4 => ?_)
    · have h := it_ c_4 h
      refine a_iconst C0 (-1 : Int32) dX6_told_64 (by decide) ?_
      obtain rfl := Option.some.inj h
      exact a_iret C0 dX6_told_65 rfl rfl
    · have h := ie_ c_4 h
      refine a_aload_n C0 dX6_told_54 rfl 0 rfl ?_
      refine a_get C0 inX6_told_X6 0 rfl rfl 2 (by decide) lkX6_told_22 (fun _ h9 => h9) (.ref q5) rfl dX6_told_55 ?_
      refine a_getN C0 inX6_told_X0 1 rfl rfl 4 (by decide) nfX6_told_117 (fun _ h9 => h9) (.int (f5 4)) rfl dX6_told_58 ?_
      refine a_goto C0 65 dX6_told_61 (by decide) ?_
      obtain rfl := Option.some.inj h
      exact a_iret C0 dX6_told_65 rfl rfl
  · have h := ie_ c_1 h
    by_cases c_5 : a1 = (1 : Int32)
    · have h := it_ c_5 h
      refine a_tableIn C0 66 dX6_told_1 (by rw [c_5]; decide) (by rw [c_5]; decide) (by rw [c_5]; rfl) (by decide) ?_
      refine a_aload_n C0 dX6_told_66 rfl 0 rfl ?_
      refine a_get C0 inX6_told_X6 0 rfl rfl 2 (by decide) lkX6_told_22 (fun _ h9 => h9) (.ref q5) rfl dX6_told_67 ?_
      refine a_getN C0 inX6_told_X0 1 rfl rfl 5 (by decide) nfX6_told_121 (fun _ h9 => h9) (.int (f5 5)) rfl dX6_told_70 ?_
      obtain rfl := Option.some.inj h
      exact a_iret C0 dX6_told_73 rfl rfl
    · have h := ie_ c_5 h
      by_cases c_6 : a1 = (2 : Int32)
      · have h := it_ c_6 h
        refine a_tableIn C0 74 dX6_told_1 (by rw [c_6]; decide) (by rw [c_6]; decide) (by rw [c_6]; rfl) (by decide) ?_
        refine a_aload_n C0 dX6_told_74 rfl 0 rfl ?_
        refine a_get C0 inX6_told_X6 0 rfl rfl 2 (by decide) lkX6_told_22 (fun _ h9 => h9) (.ref q5) rfl dX6_told_75 ?_
        refine a_getN C0 inX6_told_X0 1 rfl rfl 6 (by decide) nfX6_told_124 (fun _ h9 => h9) (.int (f5 6)) rfl dX6_told_78 ?_
        obtain rfl := Option.some.inj h
        exact a_iret C0 dX6_told_81 rfl rfl
      · have h := ie_ c_6 h
        by_cases c_7 : a1 = (3 : Int32)
        · have h := it_ c_7 h
          refine a_tableIn C0 82 dX6_told_1 (by rw [c_7]; decide) (by rw [c_7]; decide) (by rw [c_7]; rfl) (by decide) ?_
          refine a_aload_n C0 dX6_told_82 rfl 0 rfl ?_
          refine a_get C0 inX6_told_X6 0 rfl rfl 2 (by decide) lkX6_told_22 (fun _ h9 => h9) (.ref q5) rfl dX6_told_83 ?_
          refine a_getN C0 inX6_told_X0 1 rfl rfl 8 (by decide) nfX6_told_127 (fun _ h9 => h9) (.int (f5 8)) rfl dX6_told_86 ?_
          obtain rfl := Option.some.inj h
          exact a_iret C0 dX6_told_89 rfl rfl
        · have h := ie_ c_7 h
          by_cases c_8 : a1 = (4 : Int32)
          · have h := it_ c_8 h
            refine a_tableIn C0 90 dX6_told_1 (by rw [c_8]; decide) (by rw [c_8]; decide) (by rw [c_8]; rfl) (by decide) ?_
            refine a_aload_n C0 dX6_told_90 rfl 0 rfl ?_
            refine a_get C0 inX6_told_X6 0 rfl rfl 2 (by decide) lkX6_told_22 (fun _ h9 => h9) (.ref q5) rfl dX6_told_91 ?_
            refine a_getN C0 inX6_told_X0 1 rfl rfl 9 (by decide) nfX6_told_130 (fun _ h9 => h9) (.int (f5 9)) rfl dX6_told_94 ?_
            obtain rfl := Option.some.inj h
            exact a_iret C0 dX6_told_97 rfl rfl
          · have h := ie_ c_8 h
            by_cases c_9 : a1 = (5 : Int32)
            · have h := it_ c_9 h
              refine a_tableIn C0 98 dX6_told_1 (by rw [c_9]; decide) (by rw [c_9]; decide) (by rw [c_9]; rfl) (by decide) ?_
              refine a_aload_n C0 dX6_told_98 rfl 0 rfl ?_
              refine a_get C0 inX6_told_X6 0 rfl rfl 2 (by decide) lkX6_told_22 (fun _ h9 => h9) (.ref q5) rfl dX6_told_99 ?_
              refine a_getN C0 inX6_told_X0 1 rfl rfl 10 (by decide) nfX6_told_133 (fun _ h9 => h9) (.int (f5 10)) rfl dX6_told_102 ?_
              obtain rfl := Option.some.inj h
              exact a_iret C0 dX6_told_105 rfl rfl
            · have h := ie_ c_9 h
              by_cases c_10 : a1 = (6 : Int32)
              · have h := it_ c_10 h
                refine a_tableIn C0 106 dX6_told_1 (by rw [c_10]; decide) (by rw [c_10]; decide) (by rw [c_10]; rfl) (by decide) ?_
                refine a_aload_n C0 dX6_told_106 rfl 0 rfl ?_
                refine a_get C0 inX6_told_X6 0 rfl rfl 2 (by decide) lkX6_told_22 (fun _ h9 => h9) (.ref q5) rfl dX6_told_107 ?_
                refine a_getN C0 inX6_told_X0 1 rfl rfl 11 (by decide) nfX6_told_136 (fun _ h9 => h9) (.int (f5 11)) rfl dX6_told_110 ?_
                obtain rfl := Option.some.inj h
                exact a_iret C0 dX6_told_113 rfl rfl
              · have h := ie_ c_10 h
                have hsw : a1.toInt < 0 ∨ 6 < a1.toInt := by
                  have := sw_ne c_1 (k := 0) (by decide)
                  have := sw_ne c_5 (k := 1) (by decide)
                  have := sw_ne c_6 (k := 2) (by decide)
                  have := sw_ne c_7 (k := 3) (by decide)
                  have := sw_ne c_8 (k := 4) (by decide)
                  have := sw_ne c_9 (k := 5) (by decide)
                  have := sw_ne c_10 (k := 6) (by decide)
                  omega
                refine a_tableOut C0 114 dX6_told_1 hsw (by decide) ?_
                refine a_bipush C0 (-2 : Int32) dX6_told_114 (by decide) ?_
                obtain rfl := Option.some.inj h
                exact a_iret C0 dX6_told_116 rfl rfl
set_option maxRecDepth 100000 in
theorem ctX6_told (l : Launch) (D : va_G) (cA : ClassId) (q0 q1 q3 q5 q6 q8 q11 q16 q17 q22 : Nat) (a1 : Int32) (f5 : Nat → Int32) {res : Int32} (h : pX6_told a1 f5 = some res) : Cti l yX6_told wsX6_told (rmX6_told) D vwCl [(cA, .int)] [.ref q0, .int a1] (wdX6_7 cA q0 q1 q3 q5 q6 q8 q11 q16 q17 q22 f5) (wdX6_7 cA q0 q1 q3 q5 q6 q8 q11 q16 q17 q22 f5) 0 0 res :=
  ct_i (maxL := 2) (cc := cX6_told) (by decide) rfl (Nat.le_of_ble_eq_true rfl) (fun p e s m below meth c C0 => bwX6_told C0 a1 f5 h)
/-! PackDrawer.given -/
abbrev wdX6_8 (cA : ClassId) (q0 q1 q3 q5 q6 q7 q8 q11 q16 q17 q22 : Nat) (f5 : Nat → Int32) (f6 : Nat → Int32) (f7 : Nat → Int32) : va_W := [(q0, .inr (6, [.ref q1, .ref q3, .ref q5, .ref q8, .ref q11, .ref q16, .ref q17, .ref q22])), (q5, .inr (0, [.ref q6, .int (f5 1), .int (f5 2), .int (f5 3), .int (f5 4), .int (f5 5), .int (f5 6), .int (f5 7), .int (f5 8), .int (f5 9), .int (f5 10), .int (f5 11)])), (q6, .inr (4, [.ref q7, .int (f6 1)])), (q7, .inl (cA, 800, .inl f7))]
abbrev rmX6_given : Room := { frames := 1, cells := 0, slots := 0, locals := 21 }
theorem lkX6_given_22 : Cond.fieldLink RX6 22 RX6 (TX6 2).2.1 (TX6 2).2.2.1 ∈ wsX6_given := by decide +kernel
theorem inX6_given_X6 : ∀ w ∈ u_ws RX6 TX6 8, w ∈ wsX6_given := by decide +kernel
theorem nfX6_given_130 : (RX6, 130, RX0, (TX0 9).2.1, (TX0 9).2.2.1, RX6) ∈ nest_F := by decide +kernel
theorem inX6_given_X0 : ∀ w ∈ u_ws RX0 TX0 12, w ∈ wsX6_given := by decide +kernel
theorem nfX6_given_139 : (RX6, 139, RX0, (TX0 0).2.1, (TX0 0).2.2.1, RX6) ∈ nest_F := by decide +kernel
def pX6_given (a1 : Int32) (f5 : Nat → Int32) (f6 : Nat → Int32) (f7 : Nat → Int32) : Option (Int32) := if a1 < 0 then some (-1 : Int32) else if (f5 9) ≤ a1 then some (-1 : Int32) else bd1 (pX4_byteAt a1 f6 f7) (fun r_3 => some r_3)
set_option maxHeartbeats 4000000 in
set_option maxRecDepth 100000 in
theorem bwX6_given {p : Program} {l : Launch} {e : Env} {s : State} {m : MethodId} {args : Array Value} {below : List Frame} {meth : Method} {c : Code} {D : va_G} {A : Nat → Prop} {cA : ClassId} {q0 q1 q3 q5 q6 q7 q8 q11 q16 q17 q22 : Nat} {res : Int32} (C0 : cx p s m args meth c cX6_given 2 RX6 wsX6_given (some .int) D vwCl [(cA, .int)] A) (a1 : Int32) (f5 : Nat → Int32) (f6 : Nat → Int32) (f7 : Nat → Int32) (h : pX6_given a1 f5 f6 f7 = some res) : At_ p l e (rmX6_given) s m args below meth c D vwCl A 2 0 0 (Qi_ below args s D vwCl A (wdX6_8 cA q0 q1 q3 q5 q6 q7 q8 q11 q16 q17 q22 f5 f6 f7) res) 0 [(0, .ref q0), (1, .int a1)] [] (wdX6_8 cA q0 q1 q3 q5 q6 q7 q8 q11 q16 q17 q22 f5 f6 f7) := by
  unfold pX6_given at h
  refine a_iload_n C0 dX6_given_0 rfl 1 rfl ?_
  refine a_if_lt C0 29 dX6_given_1 (by decide) (fun c_1 => ?_) (fun c_1 => ?_)
  · have h := it_ c_1 h
    refine a_iconst C0 (-1 : Int32) dX6_given_29 (by decide) ?_
    obtain rfl := Option.some.inj h
    exact a_iret C0 dX6_given_30 rfl rfl
  · have h := ie_ c_1 h
    refine a_iload_n C0 dX6_given_4 rfl 1 rfl ?_
    refine a_aload_n C0 dX6_given_5 rfl 0 rfl ?_
    refine a_get C0 inX6_given_X6 0 rfl rfl 2 (by decide) lkX6_given_22 (fun _ h9 => h9) (.ref q5) rfl dX6_given_6 ?_
    refine a_getN C0 inX6_given_X0 1 rfl rfl 9 (by decide) nfX6_given_130 (fun _ h9 => h9) (.int (f5 9)) rfl dX6_given_9 ?_
    refine a_icmp_ge C0 29 dX6_given_12 (by decide) (fun c_2 => ?_) (fun c_2 => ?_)
    · have h := it_ c_2 h
      refine a_iconst C0 (-1 : Int32) dX6_given_29 (by decide) ?_
      obtain rfl := Option.some.inj h
      exact a_iret C0 dX6_given_30 rfl rfl
    · have h := ie_ c_2 h
      refine a_aload_n C0 dX6_given_15 rfl 0 rfl ?_
      refine a_get C0 inX6_given_X6 0 rfl rfl 2 (by decide) lkX6_given_22 (fun _ h9 => h9) (.ref q5) rfl dX6_given_16 ?_
      refine a_getN C0 inX6_given_X0 1 rfl rfl 0 (by decide) nfX6_given_139 (fun _ h9 => h9) (.ref q6) rfl dX6_given_19 ?_
      refine a_iload_n C0 dX6_given_22 rfl 1 rfl ?_
      obtain ⟨r_3, h_4, h⟩ := bd1_e h
      refine a_callVi C0 (wdX6_8 cA q0 q1 q3 q5 q6 q7 q8 q11 q16 q17 q22 f5 f6 f7) (As := [.int a1]) (rest := []) (ctX4_byteAt l D cA q6 q7 a1 f6 f7 h_4) (cwV 1 C0.1.2.2.2.2 gX6_given_X4_byteAt rfl rfl rfl hdX4_byteAt ⟨Nat.le_of_ble_eq_true rfl, Nat.le_of_ble_eq_true rfl⟩) [2, 3] [0, 1] [0, 1, 2, 3] rfl rfl rfl rfl (by decide) rfl rfl rfl rfl rfl rfl (Nat.le_of_ble_eq_true rfl) dX6_given_23 ⟨Nat.zero_le _, Nat.zero_le _⟩ ?_
      refine a_goto C0 30 dX6_given_26 (by decide) ?_
      obtain rfl := Option.some.inj h
      exact a_iret C0 dX6_given_30 rfl rfl
set_option maxRecDepth 100000 in
theorem ctX6_given (l : Launch) (D : va_G) (cA : ClassId) (q0 q1 q3 q5 q6 q7 q8 q11 q16 q17 q22 : Nat) (a1 : Int32) (f5 : Nat → Int32) (f6 : Nat → Int32) (f7 : Nat → Int32) {res : Int32} (h : pX6_given a1 f5 f6 f7 = some res) : Cti l yX6_given wsX6_given (rmX6_given) D vwCl [(cA, .int)] [.ref q0, .int a1] (wdX6_8 cA q0 q1 q3 q5 q6 q7 q8 q11 q16 q17 q22 f5 f6 f7) (wdX6_8 cA q0 q1 q3 q5 q6 q7 q8 q11 q16 q17 q22 f5 f6 f7) 0 0 res :=
  ct_i (maxL := 2) (cc := cX6_given) (by decide) rfl (Nat.le_of_ble_eq_true rfl) (fun p e s m below meth c C0 => bwX6_given C0 a1 f5 f6 f7 h)
/-! PackDrawer.shorter -/
theorem hdX5_leaveOut : yX5_leaveOut.cls = RX5 ∧ yX5_leaveOut.cls ≠ "java/lang/invoke/MethodHandle" ∧ yX5_leaveOut.cls ≠ "java/lang/invoke/VarHandle" ∧ (parseMethodDescriptor yX5_leaveOut.desc).map (fun d => d.parameters.length) = some 1 := by decide +kernel
abbrev rmX6_shorter : Room := { frames := 6, cells := 0, slots := 0, locals := 137 }
theorem lkX6_shorter_10 : Cond.fieldLink RX6 10 RX6 (TX6 0).2.1 (TX6 0).2.2.1 ∈ wsX6_shorter := by decide +kernel
theorem inX6_shorter_X6 : ∀ w ∈ u_ws RX6 TX6 8, w ∈ wsX6_shorter := by decide +kernel
theorem lkX6_shorter_16 : Cond.fieldLink RX6 16 RX6 (TX6 1).2.1 (TX6 1).2.2.1 ∈ wsX6_shorter := by decide +kernel
theorem lkX6_shorter_45 : Cond.fieldLink RX6 45 RX6 (TX6 6).2.1 (TX6 6).2.2.1 ∈ wsX6_shorter := by decide +kernel
def bfX6_shorter_107 (N : Nat) (a1 : Int32) (a2 : Int32) (a3 : Int32) (rc50 : Int32 → Int32 → Int32 → Int32 → (Nat → Int32) → (Nat → Int32) → (Nat → Int32) → (Nat → Int32) → (Nat → Int32) → (Nat → Int32) → (Nat → Int32) → (Nat → Int32) → (Nat → Int32) → (Nat → Int32) → (Nat → Int32) → (Nat → Int32) → Option (Int32 × (Nat → Int32) × (Nat → Int32) × (Nat → Int32) × (Nat → Int32) × (Nat → Int32) × (Nat → Int32) × (Nat → Int32) × (Nat → Int32) × (Nat → Int32) × (Nat → Int32) × (Nat → Int32) × (Nat → Int32))) (v4 : Int32) (v5 : Int32) (v6 : Int32) (v7 : Int32) (f1 : Nat → Int32) (f2 : Nat → Int32) (f3 : Nat → Int32) (f4 : Nat → Int32) (f8 : Nat → Int32) (f9 : Nat → Int32) (f10 : Nat → Int32) (f17 : Nat → Int32) (f18 : Nat → Int32) (f19 : Nat → Int32) (f20 : Nat → Int32) (f21 : Nat → Int32) : Option (Int32 × (Nat → Int32) × (Nat → Int32) × (Nat → Int32) × (Nat → Int32) × (Nat → Int32) × (Nat → Int32) × (Nat → Int32) × (Nat → Int32) × (Nat → Int32) × (Nat → Int32) × (Nat → Int32) × (Nat → Int32)) := lt_ ((v7 + (1 : Int32))) (fun x_1 => rc50 v4 v5 v6 x_1 f1 f2 f3 f4 f8 f9 f10 f17 f18 f19 f20 f21)
def bFX6_shorter_50 (N : Nat) (a1 : Int32) (a2 : Int32) (a3 : Int32) (rc50 : Int32 → Int32 → Int32 → Int32 → (Nat → Int32) → (Nat → Int32) → (Nat → Int32) → (Nat → Int32) → (Nat → Int32) → (Nat → Int32) → (Nat → Int32) → (Nat → Int32) → (Nat → Int32) → (Nat → Int32) → (Nat → Int32) → (Nat → Int32) → Option (Int32 × (Nat → Int32) × (Nat → Int32) × (Nat → Int32) × (Nat → Int32) × (Nat → Int32) × (Nat → Int32) × (Nat → Int32) × (Nat → Int32) × (Nat → Int32) × (Nat → Int32) × (Nat → Int32) × (Nat → Int32))) (v4 : Int32) (v5 : Int32) (v6 : Int32) (v7 : Int32) (f1 : Nat → Int32) (f2 : Nat → Int32) (f3 : Nat → Int32) (f4 : Nat → Int32) (f8 : Nat → Int32) (f9 : Nat → Int32) (f10 : Nat → Int32) (f17 : Nat → Int32) (f18 : Nat → Int32) (f19 : Nat → Int32) (f20 : Nat → Int32) (f21 : Nat → Int32) : Option (Int32 × (Nat → Int32) × (Nat → Int32) × (Nat → Int32) × (Nat → Int32) × (Nat → Int32) × (Nat → Int32) × (Nat → Int32) × (Nat → Int32) × (Nat → Int32) × (Nat → Int32) × (Nat → Int32) × (Nat → Int32)) := if v4 ≤ v7 then bd1 (pX5_count f1) (fun r_3 => some ((v4 - r_3), f1, f2, f3, f4, f8, f9, f10, f17, f18, f19, f20, f21)) else bd2 (pX5_become f3 f4 f1 f2) (fun f3_5 f4_6 => bd2 (pX5_leaveOut v6 f3_5 f4_6) (fun f3_8 f4_9 => bd9 (pX1_read N a1 a2 a3 f17 f3_8 f4_9 f8 f9 f10 f18 f19 f20 f21) (fun r_11 f17_12 f8_13 f9_14 f10_15 f18_16 f19_17 f20_18 f21_19 => if r_11 = v5 then bd2 (pX5_leaveOut v6 f1 f2) (fun f1_23 f2_24 => bfX6_shorter_107 N a1 a2 a3 rc50 v4 v5 v6 v7 f1_23 f2_24 f3_8 f4_9 f8_13 f9_14 f10_15 f17_12 f18_16 f19_17 f20_18 f21_19) else lt_ ((v6 + (1 : Int32))) (fun x_22 => bfX6_shorter_107 N a1 a2 a3 rc50 v4 v5 x_22 v7 f1 f2 f3_8 f4_9 f8_13 f9_14 f10_15 f17_12 f18_16 f19_17 f20_18 f21_19))))
def bfX6_shorter_50 (N : Nat) (a1 : Int32) (a2 : Int32) (a3 : Int32) : Nat → Int32 → Int32 → Int32 → Int32 → (Nat → Int32) → (Nat → Int32) → (Nat → Int32) → (Nat → Int32) → (Nat → Int32) → (Nat → Int32) → (Nat → Int32) → (Nat → Int32) → (Nat → Int32) → (Nat → Int32) → (Nat → Int32) → (Nat → Int32) → Option (Int32 × (Nat → Int32) × (Nat → Int32) × (Nat → Int32) × (Nat → Int32) × (Nat → Int32) × (Nat → Int32) × (Nat → Int32) × (Nat → Int32) × (Nat → Int32) × (Nat → Int32) × (Nat → Int32) × (Nat → Int32))
  | 0 => fun _ _ _ _ _ _ _ _ _ _ _ _ _ _ _ _ => none
  | n + 1 => bFX6_shorter_50 N a1 a2 a3  (bfX6_shorter_50 N a1 a2 a3  n)
def pX6_shorter (N : Nat) (a1 : Int32) (a2 : Int32) (a3 : Int32) (f1 : Nat → Int32) (f2 : Nat → Int32) (f3 : Nat → Int32) (f4 : Nat → Int32) (f8 : Nat → Int32) (f9 : Nat → Int32) (f10 : Nat → Int32) (f17 : Nat → Int32) (f18 : Nat → Int32) (f19 : Nat → Int32) (f20 : Nat → Int32) (f21 : Nat → Int32) : Option (Int32 × (Nat → Int32) × (Nat → Int32) × (Nat → Int32) × (Nat → Int32) × (Nat → Int32) × (Nat → Int32) × (Nat → Int32) × (Nat → Int32) × (Nat → Int32) × (Nat → Int32) × (Nat → Int32) × (Nat → Int32)) := bd1 (pX6_areBounds a1 a2 a3) (fun r_26 => if r_26 = 0 then some ((-2 : Int32), f1, f2, f3, f4, f8, f9, f10, f17, f18, f19, f20, f21) else bd1 (pX5_count f1) (fun r_29 => bd2 (pX5_become f3 f4 f1 f2) (fun f3_31 f4_32 => bd9 (pX1_read N a1 a2 a3 f17 f3_31 f4_32 f8 f9 f10 f18 f19 f20 f21) (fun r_34 f17_35 f8_36 f9_37 f10_38 f18_39 f19_40 f20_41 f21_42 => bfX6_shorter_50 N a1 a2 a3 N r_29 r_34 (0 : Int32) (0 : Int32) f1 f2 f3_31 f4_32 f8_36 f9_37 f10_38 f17_35 f18_39 f19_40 f20_41 f21_42))))
set_option maxHeartbeats 4000000 in
set_option maxRecDepth 100000 in
theorem bwX6_shorter_107 {p : Program} {l : Launch} {e : Env} {s : State} {m : MethodId} {args : Array Value} {below : List Frame} {meth : Method} {c : Code} {D : va_G} {A : Nat → Prop} {cA : ClassId} {q0 q1 q2 q3 q4 q5 q8 q9 q10 q11 q16 q17 q18 q19 q20 q21 q22 : Nat} {res : Int32 × (Nat → Int32) × (Nat → Int32) × (Nat → Int32) × (Nat → Int32) × (Nat → Int32) × (Nat → Int32) × (Nat → Int32) × (Nat → Int32) × (Nat → Int32) × (Nat → Int32) × (Nat → Int32) × (Nat → Int32)} (C0 : cx p s m args meth c cX6_shorter 8 RX6 wsX6_shorter (some .int) D vwCl [(cA, .int)] A) (N : Nat) (a1 : Int32) (a2 : Int32) (a3 : Int32) (rc50 : Int32 → Int32 → Int32 → Int32 → (Nat → Int32) → (Nat → Int32) → (Nat → Int32) → (Nat → Int32) → (Nat → Int32) → (Nat → Int32) → (Nat → Int32) → (Nat → Int32) → (Nat → Int32) → (Nat → Int32) → (Nat → Int32) → (Nat → Int32) → Option (Int32 × (Nat → Int32) × (Nat → Int32) × (Nat → Int32) × (Nat → Int32) × (Nat → Int32) × (Nat → Int32) × (Nat → Int32) × (Nat → Int32) × (Nat → Int32) × (Nat → Int32) × (Nat → Int32) × (Nat → Int32))) (hrc50 : ∀ (v4 : Int32) (v5 : Int32) (v6 : Int32) (v7 : Int32) (f1 : Nat → Int32) (f2 : Nat → Int32) (f3 : Nat → Int32) (f4 : Nat → Int32) (f8 : Nat → Int32) (f9 : Nat → Int32) (f10 : Nat → Int32) (f17 : Nat → Int32) (f18 : Nat → Int32) (f19 : Nat → Int32) (f20 : Nat → Int32) (f21 : Nat → Int32), rc50 v4 v5 v6 v7 f1 f2 f3 f4 f8 f9 f10 f17 f18 f19 f20 f21 = some res → At_ p l e (rmX6_shorter) s m args below meth c D vwCl A 8 0 0 (Qi_ below args s D vwCl A (wdX6_4 cA q0 q1 q2 q3 q4 q5 q8 q9 q10 q11 q16 q17 q18 q19 q20 q21 q22 res.2.1 res.2.2.1 res.2.2.2.1 res.2.2.2.2.1 res.2.2.2.2.2.1 res.2.2.2.2.2.2.1 res.2.2.2.2.2.2.2.1 res.2.2.2.2.2.2.2.2.1 res.2.2.2.2.2.2.2.2.2.1 res.2.2.2.2.2.2.2.2.2.2.1 res.2.2.2.2.2.2.2.2.2.2.2.1 res.2.2.2.2.2.2.2.2.2.2.2.2) res.1) 50 [(0, .ref q0), (1, .int a1), (2, .int a2), (3, .int a3), (4, .int v4), (5, .int v5), (6, .int v6), (7, .int v7)] [] (wdX6_4 cA q0 q1 q2 q3 q4 q5 q8 q9 q10 q11 q16 q17 q18 q19 q20 q21 q22 f1 f2 f3 f4 f8 f9 f10 f17 f18 f19 f20 f21)) (v4 : Int32) (v5 : Int32) (v6 : Int32) (v7 : Int32) (f1 : Nat → Int32) (f2 : Nat → Int32) (f3 : Nat → Int32) (f4 : Nat → Int32) (f8 : Nat → Int32) (f9 : Nat → Int32) (f10 : Nat → Int32) (f17 : Nat → Int32) (f18 : Nat → Int32) (f19 : Nat → Int32) (f20 : Nat → Int32) (f21 : Nat → Int32) (h : bfX6_shorter_107 N a1 a2 a3 rc50 v4 v5 v6 v7 f1 f2 f3 f4 f8 f9 f10 f17 f18 f19 f20 f21 = some res) : At_ p l e (rmX6_shorter) s m args below meth c D vwCl A 8 0 0 (Qi_ below args s D vwCl A (wdX6_4 cA q0 q1 q2 q3 q4 q5 q8 q9 q10 q11 q16 q17 q18 q19 q20 q21 q22 res.2.1 res.2.2.1 res.2.2.2.1 res.2.2.2.2.1 res.2.2.2.2.2.1 res.2.2.2.2.2.2.1 res.2.2.2.2.2.2.2.1 res.2.2.2.2.2.2.2.2.1 res.2.2.2.2.2.2.2.2.2.1 res.2.2.2.2.2.2.2.2.2.2.1 res.2.2.2.2.2.2.2.2.2.2.2.1 res.2.2.2.2.2.2.2.2.2.2.2.2) res.1) 107 [(0, .ref q0), (1, .int a1), (2, .int a2), (3, .int a3), (4, .int v4), (5, .int v5), (6, .int v6), (7, .int v7)] [] (wdX6_4 cA q0 q1 q2 q3 q4 q5 q8 q9 q10 q11 q16 q17 q18 q19 q20 q21 q22 f1 f2 f3 f4 f8 f9 f10 f17 f18 f19 f20 f21) := by
  unfold bfX6_shorter_107 at h
  obtain ⟨x_1, ex_1, h⟩ := lt_e h
  refine a_iinc C0 x_1 [(7, .int x_1), (0, .ref q0), (1, .int a1), (2, .int a2), (3, .int a3), (4, .int v4), (5, .int v5), (6, .int v6)] dX6_shorter_107 7 rfl (by subst ex_1; rfl) (by decide) rfl ?_
  refine a_goto C0 50 dX6_shorter_110 (by decide) ?_
  refine a_lv [1, 2, 3, 4, 5, 6, 7, 0] (lv' := [(0, .ref q0), (1, .int a1), (2, .int a2), (3, .int a3), (4, .int v4), (5, .int v5), (6, .int v6), (7, .int x_1)]) rfl ?_
  exact hrc50 v4 v5 v6 x_1 f1 f2 f3 f4 f8 f9 f10 f17 f18 f19 f20 f21 h
set_option maxHeartbeats 4000000 in
set_option maxRecDepth 100000 in
theorem bwX6_shorter_50 {p : Program} {l : Launch} {e : Env} {s : State} {m : MethodId} {args : Array Value} {below : List Frame} {meth : Method} {c : Code} {D : va_G} {A : Nat → Prop} {cA : ClassId} {q0 q1 q2 q3 q4 q5 q8 q9 q10 q11 q16 q17 q18 q19 q20 q21 q22 : Nat} {res : Int32 × (Nat → Int32) × (Nat → Int32) × (Nat → Int32) × (Nat → Int32) × (Nat → Int32) × (Nat → Int32) × (Nat → Int32) × (Nat → Int32) × (Nat → Int32) × (Nat → Int32) × (Nat → Int32) × (Nat → Int32)} (C0 : cx p s m args meth c cX6_shorter 8 RX6 wsX6_shorter (some .int) D vwCl [(cA, .int)] A) (N : Nat) (a1 : Int32) (a2 : Int32) (a3 : Int32) : ∀ (n : Nat) (v4 : Int32) (v5 : Int32) (v6 : Int32) (v7 : Int32) (f1 : Nat → Int32) (f2 : Nat → Int32) (f3 : Nat → Int32) (f4 : Nat → Int32) (f8 : Nat → Int32) (f9 : Nat → Int32) (f10 : Nat → Int32) (f17 : Nat → Int32) (f18 : Nat → Int32) (f19 : Nat → Int32) (f20 : Nat → Int32) (f21 : Nat → Int32), bfX6_shorter_50 N a1 a2 a3  n v4 v5 v6 v7 f1 f2 f3 f4 f8 f9 f10 f17 f18 f19 f20 f21 = some res → At_ p l e (rmX6_shorter) s m args below meth c D vwCl A 8 0 0 (Qi_ below args s D vwCl A (wdX6_4 cA q0 q1 q2 q3 q4 q5 q8 q9 q10 q11 q16 q17 q18 q19 q20 q21 q22 res.2.1 res.2.2.1 res.2.2.2.1 res.2.2.2.2.1 res.2.2.2.2.2.1 res.2.2.2.2.2.2.1 res.2.2.2.2.2.2.2.1 res.2.2.2.2.2.2.2.2.1 res.2.2.2.2.2.2.2.2.2.1 res.2.2.2.2.2.2.2.2.2.2.1 res.2.2.2.2.2.2.2.2.2.2.2.1 res.2.2.2.2.2.2.2.2.2.2.2.2) res.1) 50 [(0, .ref q0), (1, .int a1), (2, .int a2), (3, .int a3), (4, .int v4), (5, .int v5), (6, .int v6), (7, .int v7)] [] (wdX6_4 cA q0 q1 q2 q3 q4 q5 q8 q9 q10 q11 q16 q17 q18 q19 q20 q21 q22 f1 f2 f3 f4 f8 f9 f10 f17 f18 f19 f20 f21) := by
  intro n
  induction n with
  | zero => intro v4 v5 v6 v7 f1 f2 f3 f4 f8 f9 f10 f17 f18 f19 f20 f21 h; cases h
  | succ n hrc50 =>
    intro v4 v5 v6 v7 f1 f2 f3 f4 f8 f9 f10 f17 f18 f19 f20 f21 h
    replace h : bFX6_shorter_50 N a1 a2 a3  (bfX6_shorter_50 N a1 a2 a3  n) v4 v5 v6 v7 f1 f2 f3 f4 f8 f9 f10 f17 f18 f19 f20 f21 = some res := h
    generalize bfX6_shorter_50 N a1 a2 a3  n = rc50 at h hrc50
    unfold bFX6_shorter_50 at h
    refine a_iload C0 dX6_shorter_50 7 rfl ?_
    refine a_iload C0 dX6_shorter_52 4 rfl ?_
    refine a_icmp_ge C0 113 dX6_shorter_54 (by decide) (fun c_2 => ?_) (fun c_2 => ?_)
    · have h := it_ c_2 h
      refine a_iload C0 dX6_shorter_113 4 rfl ?_
      refine a_aload_n C0 dX6_shorter_115 rfl 0 rfl ?_
      refine a_get C0 inX6_shorter_X6 0 rfl rfl 0 (by decide) lkX6_shorter_10 (fun _ h9 => h9) (.ref q1) rfl dX6_shorter_116 ?_
      obtain ⟨r_3, h_4, h⟩ := bd1_e h
      refine a_callVi C0 (wdX6_4 cA q0 q1 q2 q3 q4 q5 q8 q9 q10 q11 q16 q17 q18 q19 q20 q21 q22 f1 f2 f3 f4 f8 f9 f10 f17 f18 f19 f20 f21) (As := []) (rest := [.int v4]) (ctX5_count l D cA q1 q2 f1 h_4) (cwV 0 C0.1.2.2.2.2 gX6_shorter_X5_count rfl rfl rfl hdX5_count ⟨Nat.le_of_ble_eq_true rfl, Nat.le_of_ble_eq_true rfl⟩) [1] [0, 2, 3, 4, 5, 6, 7, 8, 9, 10, 11, 12] [0, 12, 1, 2, 3, 4, 5, 6, 7, 8, 9, 10, 11] rfl rfl rfl rfl (by decide) rfl rfl rfl rfl rfl rfl (Nat.le_of_ble_eq_true rfl) dX6_shorter_119 ⟨Nat.zero_le _, Nat.zero_le _⟩ ?_
      refine a_isub C0 dX6_shorter_122 ?_
      obtain rfl := Option.some.inj h
      exact a_iret C0 dX6_shorter_123 rfl rfl
    · have h := ie_ c_2 h
      refine a_aload_n C0 dX6_shorter_57 rfl 0 rfl ?_
      refine a_get C0 inX6_shorter_X6 0 rfl rfl 1 (by decide) lkX6_shorter_16 (fun _ h9 => h9) (.ref q3) rfl dX6_shorter_58 ?_
      refine a_aload_n C0 dX6_shorter_61 rfl 0 rfl ?_
      refine a_get C0 inX6_shorter_X6 0 rfl rfl 0 (by decide) lkX6_shorter_10 (fun _ h9 => h9) (.ref q1) rfl dX6_shorter_62 ?_
      obtain ⟨f3_5, f4_6, h_7, h⟩ := bd2_e h
      refine a_callVv C0 (wdX6_4 cA q0 q1 q2 q3 q4 q5 q8 q9 q10 q11 q16 q17 q18 q19 q20 q21 q22 f1 f2 f3_5 f4_6 f8 f9 f10 f17 f18 f19 f20 f21) (As := [.ref q1]) (rest := []) (ctX5_become l D cA q3 q4 q1 q2 f3 f4 f1 f2 h_7) (cwV 1 C0.1.2.2.2.2 gX6_shorter_X5_become rfl rfl rfl hdX5_become ⟨Nat.le_of_ble_eq_true rfl, Nat.le_of_ble_eq_true rfl⟩) [3, 4, 1, 2] [0, 5, 6, 7, 8, 9, 10, 11, 12] [0, 11, 12, 9, 10, 1, 2, 3, 4, 5, 6, 7, 8] rfl rfl rfl rfl (by decide) rfl rfl rfl rfl rfl rfl (Nat.le_of_ble_eq_true rfl) dX6_shorter_65 ⟨Nat.zero_le _, Nat.zero_le _⟩ ?_
      refine a_aload_n C0 dX6_shorter_68 rfl 0 rfl ?_
      refine a_get C0 inX6_shorter_X6 0 rfl rfl 1 (by decide) lkX6_shorter_16 (fun _ h9 => h9) (.ref q3) rfl dX6_shorter_69 ?_
      refine a_iload C0 dX6_shorter_72 6 rfl ?_
      obtain ⟨f3_8, f4_9, h_10, h⟩ := bd2_e h
      refine a_callVv C0 (wdX6_4 cA q0 q1 q2 q3 q4 q5 q8 q9 q10 q11 q16 q17 q18 q19 q20 q21 q22 f1 f2 f3_8 f4_9 f8 f9 f10 f17 f18 f19 f20 f21) (As := [.int v6]) (rest := []) (ctX5_leaveOut l D cA q3 q4 v6 f3_5 f4_6 h_10) (cwV 1 C0.1.2.2.2.2 gX6_shorter_X5_leaveOut rfl rfl rfl hdX5_leaveOut ⟨Nat.le_of_ble_eq_true rfl, Nat.le_of_ble_eq_true rfl⟩) [3, 4] [0, 1, 2, 5, 6, 7, 8, 9, 10, 11, 12] [0, 1, 2, 11, 12, 3, 4, 5, 6, 7, 8, 9, 10] rfl rfl rfl rfl (by decide) rfl rfl rfl rfl rfl rfl (Nat.le_of_ble_eq_true rfl) dX6_shorter_74 ⟨Nat.zero_le _, Nat.zero_le _⟩ ?_
      refine a_aload_n C0 dX6_shorter_77 rfl 0 rfl ?_
      refine a_get C0 inX6_shorter_X6 0 rfl rfl 6 (by decide) lkX6_shorter_45 (fun _ h9 => h9) (.ref q17) rfl dX6_shorter_78 ?_
      refine a_iload_n C0 dX6_shorter_81 rfl 1 rfl ?_
      refine a_iload_n C0 dX6_shorter_82 rfl 2 rfl ?_
      refine a_iload_n C0 dX6_shorter_83 rfl 3 rfl ?_
      obtain ⟨r_11, f17_12, f8_13, f9_14, f10_15, f18_16, f19_17, f20_18, f21_19, h_20, h⟩ := bd9_e h
      refine a_callVi C0 (wdX6_4 cA q0 q1 q2 q3 q4 q5 q8 q9 q10 q11 q16 q17 q18 q19 q20 q21 q22 f1 f2 f3_8 f4_9 f8_13 f9_14 f10_15 f17_12 f18_16 f19_17 f20_18 f21_19) (As := [.int a1, .int a2, .int a3]) (rest := []) (ctX1_read l D cA q17 q3 q4 q8 q9 q10 q18 q19 q20 q21 N a1 a2 a3 f17 f3_8 f4_9 f8 f9 f10 f18 f19 f20 f21 h_20) (cwV 3 C0.1.2.2.2.2 gX6_shorter_X1_read rfl rfl rfl hdX1_read ⟨Nat.le_of_ble_eq_true rfl, Nat.le_of_ble_eq_true rfl⟩) [8, 3, 4, 5, 6, 7, 9, 10, 11, 12] [0, 1, 2] [0, 1, 2, 4, 5, 6, 7, 8, 3, 9, 10, 11, 12] rfl rfl rfl rfl (by decide) rfl rfl rfl rfl rfl rfl (Nat.le_of_ble_eq_true rfl) dX6_shorter_84 ⟨Nat.zero_le _, Nat.zero_le _⟩ ?_
      refine a_iload C0 dX6_shorter_87 5 rfl ?_
      refine a_icmp_ne C0 104 dX6_shorter_89 (by decide) (fun c_21 => ?_) (fun c_21 => ?_)
      · have h := ie_ c_21 h
        obtain ⟨x_22, ex_22, h⟩ := lt_e h
        refine a_iinc C0 x_22 [(6, .int x_22), (0, .ref q0), (1, .int a1), (2, .int a2), (3, .int a3), (4, .int v4), (5, .int v5), (7, .int v7)] dX6_shorter_104 6 rfl (by subst ex_22; rfl) (by decide) rfl ?_
        refine a_lv [1, 2, 3, 4, 5, 6, 0, 7] (lv' := [(0, .ref q0), (1, .int a1), (2, .int a2), (3, .int a3), (4, .int v4), (5, .int v5), (6, .int x_22), (7, .int v7)]) rfl ?_
        exact bwX6_shorter_107 C0 N a1 a2 a3 rc50 hrc50 v4 v5 x_22 v7 f1 f2 f3_8 f4_9 f8_13 f9_14 f10_15 f17_12 f18_16 f19_17 f20_18 f21_19 h
      · have h := it_ c_21 h
        refine a_aload_n C0 dX6_shorter_92 rfl 0 rfl ?_
        refine a_get C0 inX6_shorter_X6 0 rfl rfl 0 (by decide) lkX6_shorter_10 (fun _ h9 => h9) (.ref q1) rfl dX6_shorter_93 ?_
        refine a_iload C0 dX6_shorter_96 6 rfl ?_
        obtain ⟨f1_23, f2_24, h_25, h⟩ := bd2_e h
        refine a_callVv C0 (wdX6_4 cA q0 q1 q2 q3 q4 q5 q8 q9 q10 q11 q16 q17 q18 q19 q20 q21 q22 f1_23 f2_24 f3_8 f4_9 f8_13 f9_14 f10_15 f17_12 f18_16 f19_17 f20_18 f21_19) (As := [.int v6]) (rest := []) (ctX5_leaveOut l D cA q1 q2 v6 f1 f2 h_25) (cwV 1 C0.1.2.2.2.2 gX6_shorter_X5_leaveOut rfl rfl rfl hdX5_leaveOut ⟨Nat.le_of_ble_eq_true rfl, Nat.le_of_ble_eq_true rfl⟩) [1, 2] [0, 3, 4, 5, 6, 7, 8, 9, 10, 11, 12] [0, 11, 12, 1, 2, 3, 4, 5, 6, 7, 8, 9, 10] rfl rfl rfl rfl (by decide) rfl rfl rfl rfl rfl rfl (Nat.le_of_ble_eq_true rfl) dX6_shorter_98 ⟨Nat.zero_le _, Nat.zero_le _⟩ ?_
        refine a_goto C0 107 dX6_shorter_101 (by decide) ?_
        exact bwX6_shorter_107 C0 N a1 a2 a3 rc50 hrc50 v4 v5 v6 v7 f1_23 f2_24 f3_8 f4_9 f8_13 f9_14 f10_15 f17_12 f18_16 f19_17 f20_18 f21_19 h
set_option maxHeartbeats 4000000 in
set_option maxRecDepth 100000 in
theorem bwX6_shorter {p : Program} {l : Launch} {e : Env} {s : State} {m : MethodId} {args : Array Value} {below : List Frame} {meth : Method} {c : Code} {D : va_G} {A : Nat → Prop} {cA : ClassId} {q0 q1 q2 q3 q4 q5 q8 q9 q10 q11 q16 q17 q18 q19 q20 q21 q22 : Nat} {res : Int32 × (Nat → Int32) × (Nat → Int32) × (Nat → Int32) × (Nat → Int32) × (Nat → Int32) × (Nat → Int32) × (Nat → Int32) × (Nat → Int32) × (Nat → Int32) × (Nat → Int32) × (Nat → Int32) × (Nat → Int32)} (C0 : cx p s m args meth c cX6_shorter 8 RX6 wsX6_shorter (some .int) D vwCl [(cA, .int)] A) (N : Nat) (a1 : Int32) (a2 : Int32) (a3 : Int32) (f1 : Nat → Int32) (f2 : Nat → Int32) (f3 : Nat → Int32) (f4 : Nat → Int32) (f8 : Nat → Int32) (f9 : Nat → Int32) (f10 : Nat → Int32) (f17 : Nat → Int32) (f18 : Nat → Int32) (f19 : Nat → Int32) (f20 : Nat → Int32) (f21 : Nat → Int32) (h : pX6_shorter N a1 a2 a3 f1 f2 f3 f4 f8 f9 f10 f17 f18 f19 f20 f21 = some res) : At_ p l e (rmX6_shorter) s m args below meth c D vwCl A 8 0 0 (Qi_ below args s D vwCl A (wdX6_4 cA q0 q1 q2 q3 q4 q5 q8 q9 q10 q11 q16 q17 q18 q19 q20 q21 q22 res.2.1 res.2.2.1 res.2.2.2.1 res.2.2.2.2.1 res.2.2.2.2.2.1 res.2.2.2.2.2.2.1 res.2.2.2.2.2.2.2.1 res.2.2.2.2.2.2.2.2.1 res.2.2.2.2.2.2.2.2.2.1 res.2.2.2.2.2.2.2.2.2.2.1 res.2.2.2.2.2.2.2.2.2.2.2.1 res.2.2.2.2.2.2.2.2.2.2.2.2) res.1) 0 [(0, .ref q0), (1, .int a1), (2, .int a2), (3, .int a3)] [] (wdX6_4 cA q0 q1 q2 q3 q4 q5 q8 q9 q10 q11 q16 q17 q18 q19 q20 q21 q22 f1 f2 f3 f4 f8 f9 f10 f17 f18 f19 f20 f21) := by
  unfold pX6_shorter at h
  refine a_iload_n C0 dX6_shorter_0 rfl 1 rfl ?_
  refine a_iload_n C0 dX6_shorter_1 rfl 2 rfl ?_
  refine a_iload_n C0 dX6_shorter_2 rfl 3 rfl ?_
  obtain ⟨r_26, h_27, h⟩ := bd1_e h
  refine a_callSi C0 (wdX6_4 cA q0 q1 q2 q3 q4 q5 q8 q9 q10 q11 q16 q17 q18 q19 q20 q21 q22 f1 f2 f3 f4 f8 f9 f10 f17 f18 f19 f20 f21) (As := [.int a1, .int a2, .int a3]) (rest := []) (ctX6_areBounds l D cA a1 a2 a3 h_27) (cwS 3 C0.1.2.2.2.2 gX6_shorter_X6_areBounds rfl rfl rfl hdX6_areBounds ⟨Nat.le_of_ble_eq_true rfl, Nat.le_of_ble_eq_true rfl⟩) [] [0, 1, 2, 3, 4, 5, 6, 7, 8, 9, 10, 11, 12] [0, 1, 2, 3, 4, 5, 6, 7, 8, 9, 10, 11, 12] rfl rfl rfl rfl (by decide) rfl rfl rfl rfl (Nat.le_of_ble_eq_true rfl) dX6_shorter_3 ⟨Nat.zero_le _, Nat.zero_le _⟩ ?_
  refine a_if_ne C0 12 dX6_shorter_6 (by decide) (fun c_28 => ?_) (fun c_28 => ?_)
  · have h := ie_ c_28 h
    refine a_aload_n C0 dX6_shorter_12 rfl 0 rfl ?_
    refine a_get C0 inX6_shorter_X6 0 rfl rfl 0 (by decide) lkX6_shorter_10 (fun _ h9 => h9) (.ref q1) rfl dX6_shorter_13 ?_
    obtain ⟨r_29, h_30, h⟩ := bd1_e h
    refine a_callVi C0 (wdX6_4 cA q0 q1 q2 q3 q4 q5 q8 q9 q10 q11 q16 q17 q18 q19 q20 q21 q22 f1 f2 f3 f4 f8 f9 f10 f17 f18 f19 f20 f21) (As := []) (rest := []) (ctX5_count l D cA q1 q2 f1 h_30) (cwV 0 C0.1.2.2.2.2 gX6_shorter_X5_count rfl rfl rfl hdX5_count ⟨Nat.le_of_ble_eq_true rfl, Nat.le_of_ble_eq_true rfl⟩) [1] [0, 2, 3, 4, 5, 6, 7, 8, 9, 10, 11, 12] [0, 12, 1, 2, 3, 4, 5, 6, 7, 8, 9, 10, 11] rfl rfl rfl rfl (by decide) rfl rfl rfl rfl rfl rfl (Nat.le_of_ble_eq_true rfl) dX6_shorter_16 ⟨Nat.zero_le _, Nat.zero_le _⟩ ?_
    refine a_istore C0 [(4, .int r_29), (0, .ref q0), (1, .int a1), (2, .int a2), (3, .int a3)] dX6_shorter_19 (by decide) rfl ?_
    refine a_aload_n C0 dX6_shorter_21 rfl 1 rfl ?_
    refine a_get C0 inX6_shorter_X6 0 rfl rfl 1 (by decide) lkX6_shorter_16 (fun _ h9 => h9) (.ref q3) rfl dX6_shorter_22 ?_
    refine a_aload_n C0 dX6_shorter_25 rfl 1 rfl ?_
    refine a_get C0 inX6_shorter_X6 0 rfl rfl 0 (by decide) lkX6_shorter_10 (fun _ h9 => h9) (.ref q1) rfl dX6_shorter_26 ?_
    obtain ⟨f3_31, f4_32, h_33, h⟩ := bd2_e h
    refine a_callVv C0 (wdX6_4 cA q0 q1 q2 q3 q4 q5 q8 q9 q10 q11 q16 q17 q18 q19 q20 q21 q22 f1 f2 f3_31 f4_32 f8 f9 f10 f17 f18 f19 f20 f21) (As := [.ref q1]) (rest := []) (ctX5_become l D cA q3 q4 q1 q2 f3 f4 f1 f2 h_33) (cwV 1 C0.1.2.2.2.2 gX6_shorter_X5_become rfl rfl rfl hdX5_become ⟨Nat.le_of_ble_eq_true rfl, Nat.le_of_ble_eq_true rfl⟩) [3, 4, 1, 2] [0, 5, 6, 7, 8, 9, 10, 11, 12] [0, 11, 12, 9, 10, 1, 2, 3, 4, 5, 6, 7, 8] rfl rfl rfl rfl (by decide) rfl rfl rfl rfl rfl rfl (Nat.le_of_ble_eq_true rfl) dX6_shorter_29 ⟨Nat.zero_le _, Nat.zero_le _⟩ ?_
    refine a_aload_n C0 dX6_shorter_32 rfl 1 rfl ?_
    refine a_get C0 inX6_shorter_X6 0 rfl rfl 6 (by decide) lkX6_shorter_45 (fun _ h9 => h9) (.ref q17) rfl dX6_shorter_33 ?_
    refine a_iload_n C0 dX6_shorter_36 rfl 2 rfl ?_
    refine a_iload_n C0 dX6_shorter_37 rfl 3 rfl ?_
    refine a_iload_n C0 dX6_shorter_38 rfl 4 rfl ?_
    obtain ⟨r_34, f17_35, f8_36, f9_37, f10_38, f18_39, f19_40, f20_41, f21_42, h_43, h⟩ := bd9_e h
    refine a_callVi C0 (wdX6_4 cA q0 q1 q2 q3 q4 q5 q8 q9 q10 q11 q16 q17 q18 q19 q20 q21 q22 f1 f2 f3_31 f4_32 f8_36 f9_37 f10_38 f17_35 f18_39 f19_40 f20_41 f21_42) (As := [.int a1, .int a2, .int a3]) (rest := []) (ctX1_read l D cA q17 q3 q4 q8 q9 q10 q18 q19 q20 q21 N a1 a2 a3 f17 f3_31 f4_32 f8 f9 f10 f18 f19 f20 f21 h_43) (cwV 3 C0.1.2.2.2.2 gX6_shorter_X1_read rfl rfl rfl hdX1_read ⟨Nat.le_of_ble_eq_true rfl, Nat.le_of_ble_eq_true rfl⟩) [8, 3, 4, 5, 6, 7, 9, 10, 11, 12] [0, 1, 2] [0, 1, 2, 4, 5, 6, 7, 8, 3, 9, 10, 11, 12] rfl rfl rfl rfl (by decide) rfl rfl rfl rfl rfl rfl (Nat.le_of_ble_eq_true rfl) dX6_shorter_39 ⟨Nat.zero_le _, Nat.zero_le _⟩ ?_
    refine a_istore C0 [(5, .int r_34), (4, .int r_29), (0, .ref q0), (1, .int a1), (2, .int a2), (3, .int a3)] dX6_shorter_42 (by decide) rfl ?_
    refine a_iconst C0 (0 : Int32) dX6_shorter_44 (by decide) ?_
    refine a_istore C0 [(6, .int (0 : Int32)), (5, .int r_34), (4, .int r_29), (0, .ref q0), (1, .int a1), (2, .int a2), (3, .int a3)] dX6_shorter_45 (by decide) rfl ?_
    refine a_iconst C0 (0 : Int32) dX6_shorter_47 (by decide) ?_
    refine a_istore C0 [(7, .int (0 : Int32)), (6, .int (0 : Int32)), (5, .int r_34), (4, .int r_29), (0, .ref q0), (1, .int a1), (2, .int a2), (3, .int a3)] dX6_shorter_48 (by decide) rfl ?_
    refine a_lv [4, 5, 6, 7, 3, 2, 1, 0] (lv' := [(0, .ref q0), (1, .int a1), (2, .int a2), (3, .int a3), (4, .int r_29), (5, .int r_34), (6, .int (0 : Int32)), (7, .int (0 : Int32))]) rfl ?_
    exact bwX6_shorter_50 C0 N a1 a2 a3 N r_29 r_34 (0 : Int32) (0 : Int32) f1 f2 f3_31 f4_32 f8_36 f9_37 f10_38 f17_35 f18_39 f19_40 f20_41 f21_42 h
  · have h := it_ c_28 h
    refine a_bipush C0 (-2 : Int32) dX6_shorter_9 (by decide) ?_
    obtain rfl := Option.some.inj h
    exact a_iret C0 dX6_shorter_11 rfl rfl
set_option maxRecDepth 100000 in
theorem ctX6_shorter (l : Launch) (D : va_G) (cA : ClassId) (q0 q1 q2 q3 q4 q5 q8 q9 q10 q11 q16 q17 q18 q19 q20 q21 q22 : Nat) (N : Nat) (a1 : Int32) (a2 : Int32) (a3 : Int32) (f1 : Nat → Int32) (f2 : Nat → Int32) (f3 : Nat → Int32) (f4 : Nat → Int32) (f8 : Nat → Int32) (f9 : Nat → Int32) (f10 : Nat → Int32) (f17 : Nat → Int32) (f18 : Nat → Int32) (f19 : Nat → Int32) (f20 : Nat → Int32) (f21 : Nat → Int32) {res : Int32 × (Nat → Int32) × (Nat → Int32) × (Nat → Int32) × (Nat → Int32) × (Nat → Int32) × (Nat → Int32) × (Nat → Int32) × (Nat → Int32) × (Nat → Int32) × (Nat → Int32) × (Nat → Int32) × (Nat → Int32)} (h : pX6_shorter N a1 a2 a3 f1 f2 f3 f4 f8 f9 f10 f17 f18 f19 f20 f21 = some res) : Cti l yX6_shorter wsX6_shorter (rmX6_shorter) D vwCl [(cA, .int)] [.ref q0, .int a1, .int a2, .int a3] (wdX6_4 cA q0 q1 q2 q3 q4 q5 q8 q9 q10 q11 q16 q17 q18 q19 q20 q21 q22 f1 f2 f3 f4 f8 f9 f10 f17 f18 f19 f20 f21) (wdX6_4 cA q0 q1 q2 q3 q4 q5 q8 q9 q10 q11 q16 q17 q18 q19 q20 q21 q22 res.2.1 res.2.2.1 res.2.2.2.1 res.2.2.2.2.1 res.2.2.2.2.2.1 res.2.2.2.2.2.2.1 res.2.2.2.2.2.2.2.1 res.2.2.2.2.2.2.2.2.1 res.2.2.2.2.2.2.2.2.2.1 res.2.2.2.2.2.2.2.2.2.2.1 res.2.2.2.2.2.2.2.2.2.2.2.1 res.2.2.2.2.2.2.2.2.2.2.2.2) 0 0 res.1 :=
  ct_i (maxL := 8) (cc := cX6_shorter) (by decide) rfl (Nat.le_of_ble_eq_true rfl) (fun p e s m below meth c C0 => bwX6_shorter C0 N a1 a2 a3 f1 f2 f3 f4 f8 f9 f10 f17 f18 f19 f20 f21 h)
